def FX12_thrown (a : Nat) (m : mB) : Option Int32 := (some (m.1 a 0))
set_option maxRecDepth 20000 in
theorem CX12_thrown {G : mG} {l : Launch} {e : mE} {a : Nat} {m : mB} {r : Int32} (h0 : ly12 e a) (h : FX12_thrown a m = some r) : mx_Call G l MX12_thrown 1 0 0 [.ref a] (e, m) (fun v z => v = some (.int r) ∧ z = (e, m)) := by
  refine mx_entry (L := [.ref a]) (by decide +kernel) (Nat.le_of_ble_eq_true rfl) rfl ?_
  unfold FX12_thrown at h
  refine mx_aload_n (mx_d tX12_thrown_0 0 rfl) rfl rfl ?_
  refine mx_getI (mx_d tX12_thrown_0 1 rfl) fX12_1 rfl (Or.inl rfl) (ly12_o h0) ?_
  obtain rfl := Option.some.inj h
  exact mx_ireturn (mx_d tX12_thrown_0 2 rfl) rfl ⟨rfl, rfl⟩
def FX12_refuse (a : Nat) (m : mB) : Option (Int32 × mB) := mx_let (mx_up m.1 a 0 1, m.2) (fun m1 => (some (0, m1)))
set_option maxRecDepth 20000 in
theorem CX12_refuse {G : mG} {l : Launch} {e : mE} {a : Nat} {m : mB} {r : (Int32 × mB)} (h0 : ly12 e a) (h : FX12_refuse a m = some r) : mx_Call G l MX12_refuse 1 0 0 [.ref a] (e, m) (fun v z => v = some (.int r.1) ∧ z = (e, r.2)) := by
  refine mx_entry (L := [.ref a]) (by decide +kernel) (Nat.le_of_ble_eq_true rfl) rfl ?_
  unfold FX12_refuse at h
  refine mx_aload_n (mx_d tX12_refuse_0 0 rfl) rfl rfl ?_
  refine mx_iconst (1) (mx_d tX12_refuse_0 1 rfl) (by decide) ?_
  obtain ⟨m1, e_m1, h⟩ := mx_letE h
  refine mx_putI (mx_d tX12_refuse_0 2 rfl) fX12_1 rfl ⟨_, rfl, rfl⟩ rfl (ly12_o h0) (mx_eqz (z' := (e, m1)) (by rw [e_m1]) ?_)
  refine mx_iconst (0) (mx_d tX12_refuse_0 3 rfl) (by decide) ?_
  obtain rfl := Option.some.inj h
  exact mx_ireturn (mx_d tX12_refuse_0 4 rfl) rfl ⟨rfl, rfl⟩
def FX12_come_L3 (q0 : Nat) (y1 : Int32) : Nat → Int32 → mB → Option (mB)
  | 0, _, _ => none
  | f + 1, y2, m => (if y2 < 0 then (some (m)) else mx_chk (mx_inb (m.1 q0 2) 940) (mx_let (mx_up m.1 (q0 + 1) (Int32.toNatClampNeg (m.1 q0 2)) ((UInt32.toInt32 (Int32.toUInt32 y1 >>> (Int32.toUInt32 y2 &&& Int32.toUInt32 31))) &&& 255), m.2) (fun m2 => mx_let (mx_up m2.1 q0 2 ((m2.1 q0 2) + 1), m2.2) (fun m4 => mx_let (y2 + (-8)) (fun v5 => (FX12_come_L3 q0 y1 f v5 m4))))))
set_option maxRecDepth 20000 in
theorem CX12_come_L3 {G : mG} {l : Launch} {e : mE} {Post : Option Value → mS → Prop} {q0 : Nat} {y1 : Int32} (g0 : ly12 e q0) : ∀ (f : Nat) {y2 : Int32} {m : mB} {q : (mB)}, FX12_come_L3 q0 y1 f y2 m = some q → (mx_Fr G l MX12_come 1 0 0 Post 39 [.float 0, .float 0, .float 0] [] (e, q)) → mx_Fr G l MX12_come 1 0 0 Post 3 [.ref q0, .int y1, .int y2] [] (e, m) := by
  intro f
  induction f with
  | zero => intro _ _ _ h; cases h
  | succ f ih =>
    intro y2 m q h hex
    rw [FX12_come_L3] at h
    refine mx_iload_n (mx_d tX12_come_0 2 rfl) rfl rfl ?_
    refine mx_if_lt (tgt := 39) (mx_d tX12_come_0 3 rfl) (by decide) (fun hc1 => ?_) (fun hc1 => ?_)
    · rw [if_pos hc1] at h
      obtain rfl := Option.some.inj h
      refine mx_forget (L' := [.float 0, .float 0, .float 0]) trivial ?_
      exact hex
    · rw [if_neg hc1] at h
      refine mx_aload_n (mx_d tX12_come_0 4 rfl) rfl rfl ?_
      refine mx_getR (mx_d tX12_come_0 5 rfl) fX12_7 rfl rfl (ly12_o g0) (ly12_r1 g0) ?_
      refine mx_aload_n (mx_d tX12_come_0 6 rfl) rfl rfl ?_
      refine mx_getI (mx_d tX12_come_0 7 rfl) fX12_11 rfl (Or.inl rfl) (ly12_o g0) ?_
      refine mx_iload_n (mx_d tX12_come_0 8 rfl) rfl rfl ?_
      refine mx_iload_n (mx_d tX12_come_0 9 rfl) rfl rfl ?_
      refine mx_iushr (mx_d tX12_come_0 10 rfl) ?_
      refine mx_sipush (255) (mx_d tX12_come_0 11 rfl) (by decide) ?_
      refine mx_iand (mx_d tX12_come_0 12 rfl) ?_
      obtain ⟨hi3, h⟩ := mx_chkE h
      obtain ⟨m2, e_m2, h⟩ := mx_letE h
      refine mx_iastore (mx_d tX12_come_0 13 rfl) (ly12_s1 g0) (mx_inbE hi3) (mx_eqz (z' := (e, m2)) (by rw [e_m2]) ?_)
      refine mx_aload_n (mx_d tX12_come_0 14 rfl) rfl rfl ?_
      refine mx_dup (mx_d tX12_come_0 15 rfl) rfl ?_
      refine mx_getI (mx_d tX12_come_0 16 rfl) fX12_11 rfl (Or.inl rfl) (ly12_o g0) ?_
      refine mx_iconst (1) (mx_d tX12_come_0 17 rfl) (by decide) ?_
      refine mx_iadd (mx_d tX12_come_0 18 rfl) ?_
      obtain ⟨m4, e_m4, h⟩ := mx_letE h
      refine mx_putI (mx_d tX12_come_0 19 rfl) fX12_11 rfl ⟨_, rfl, rfl⟩ rfl (ly12_o g0) (mx_eqz (z' := (e, m4)) (by rw [e_m4]) ?_)
      obtain ⟨v5, e_v5, h⟩ := mx_letE h
      refine mx_iinc v5 (L2 := [.ref q0, .int y1, .int v5]) (mx_d tX12_come_0 20 rfl) rfl (by rw [e_v5]; rfl) (by decide) rfl ?_
      refine mx_goto (tgt := 3) (mx_d tX12_come_0 21 rfl) (by decide) ?_
      exact ih h hex
def FX12_come (a : Nat) (x0 : Int32) (m : mB) : Option mB := Option.bind (FX12_come_L3 a x0 mx_FU 24 m) (fun q6 => (some q6))
set_option maxRecDepth 20000 in
theorem CX12_come {G : mG} {l : Launch} {e : mE} {a : Nat} {x0 : Int32} {m : mB} {r : mB} (h0 : ly12 e a) (h : FX12_come a x0 m = some r) : mx_Call G l MX12_come 1 0 0 [.ref a, .int x0] (e, m) (fun v z => v = none ∧ z = (e, r)) := by
  refine mx_entry (L := [.ref a, .int x0, .float 0]) (by decide +kernel) (Nat.le_of_ble_eq_true rfl) rfl ?_
  unfold FX12_come at h
  refine mx_bipush (24) (mx_d tX12_come_0 0 rfl) (by decide) ?_
  refine mx_istore_n (L2 := [.ref a, .int x0, .int 24]) (mx_d tX12_come_0 1 rfl) rfl (by decide) (by rfl) ?_
  obtain ⟨q6, h_q6, h⟩ := Option.bind_eq_some_iff.mp h
  refine CX12_come_L3 h0 mx_FU h_q6 ?_
  obtain rfl := Option.some.inj h
  exact mx_return (mx_d tX12_come_0 22 rfl) rfl ⟨rfl, rfl⟩
def FX12_feed (a : Nat) (x0 : Int32) (x1 : Int32) (x2 : Int32) (x3 : Int32) (x4 : Int32) (m : mB) : Option (Int32 × mB) := mx_let (mx_up m.1 a 0 0, m.2) (fun m1 => (if ((m1.1 a 2) + 20) ≤ 940 then Option.bind (FX12_come a x0 m1) (fun r3 => Option.bind (FX12_come a x1 r3) (fun r4 => Option.bind (FX12_come a x2 r4) (fun r5 => Option.bind (FX12_come a x3 r5) (fun r6 => Option.bind (FX12_come a x4 r6) (fun r7 => (some ((r7.1 a 2), r7))))))) else (some ((-1), m1))))
set_option maxRecDepth 20000 in
theorem CX12_feed {G : mG} {l : Launch} {e : mE} {a : Nat} {x0 : Int32} {x1 : Int32} {x2 : Int32} {x3 : Int32} {x4 : Int32} {m : mB} {r : (Int32 × mB)} (h0 : ly12 e a) (h : FX12_feed a x0 x1 x2 x3 x4 m = some r) : mx_Call G l MX12_feed 2 0 0 [.ref a, .int x0, .int x1, .int x2, .int x3, .int x4] (e, m) (fun v z => v = some (.int r.1) ∧ z = (e, r.2)) := by
  refine mx_entry (L := [.ref a, .int x0, .int x1, .int x2, .int x3, .int x4]) (by decide +kernel) (Nat.le_of_ble_eq_true rfl) rfl ?_
  unfold FX12_feed at h
  refine mx_aload_n (mx_d tX12_feed_0 0 rfl) rfl rfl ?_
  refine mx_iconst (0) (mx_d tX12_feed_0 1 rfl) (by decide) ?_
  obtain ⟨m1, e_m1, h⟩ := mx_letE h
  refine mx_putI (mx_d tX12_feed_0 2 rfl) fX12_1 rfl ⟨_, rfl, rfl⟩ rfl (ly12_o h0) (mx_eqz (z' := (e, m1)) (by rw [e_m1]) ?_)
  refine mx_aload_n (mx_d tX12_feed_0 3 rfl) rfl rfl ?_
  refine mx_getI (mx_d tX12_feed_0 4 rfl) fX12_11 rfl (Or.inl rfl) (ly12_o h0) ?_
  refine mx_bipush (20) (mx_d tX12_feed_0 5 rfl) (by decide) ?_
  refine mx_iadd (mx_d tX12_feed_0 6 rfl) ?_
  refine mx_sipush (940) (mx_d tX12_feed_0 7 rfl) (by decide) ?_
  refine mx_icmp_le (tgt := 20) (mx_d tX12_feed_0 8 rfl) (by decide) (fun hc2 => ?_) (fun hc2 => ?_)
  · rw [if_pos hc2] at h
    refine mx_aload_n (mx_d tX12_feed_0 11 rfl) rfl rfl ?_
    refine mx_iload_n (mx_d tX12_feed_0 12 rfl) rfl rfl ?_
    obtain ⟨r3, h_r3, h⟩ := Option.bind_eq_some_iff.mp h
    refine mx_cVv (mx_d tX12_feed_0 13 rfl) iX12_14 rfl vX12_come ⟨_, rfl, rfl⟩ (ly12_o h0) (CX12_come h0 h_r3) (by decide) rfl rfl (Nat.le_of_ble_eq_true rfl) ?_
    refine mx_aload_n (mx_d tX12_feed_0 14 rfl) rfl rfl ?_
    refine mx_iload_n (mx_d tX12_feed_0 15 rfl) rfl rfl ?_
    obtain ⟨r4, h_r4, h⟩ := Option.bind_eq_some_iff.mp h
    refine mx_cVv (mx_d tX12_feed_0 16 rfl) iX12_14 rfl vX12_come ⟨_, rfl, rfl⟩ (ly12_o h0) (CX12_come h0 h_r4) (by decide) rfl rfl (Nat.le_of_ble_eq_true rfl) ?_
    refine mx_aload_n (mx_d tX12_feed_0 17 rfl) rfl rfl ?_
    refine mx_iload_n (mx_d tX12_feed_0 18 rfl) rfl rfl ?_
    obtain ⟨r5, h_r5, h⟩ := Option.bind_eq_some_iff.mp h
    refine mx_cVv (mx_d tX12_feed_0 19 rfl) iX12_14 rfl vX12_come ⟨_, rfl, rfl⟩ (ly12_o h0) (CX12_come h0 h_r5) (by decide) rfl rfl (Nat.le_of_ble_eq_true rfl) ?_
    refine mx_aload_n (mx_d tX12_feed_0 20 rfl) rfl rfl ?_
    refine mx_iload (mx_d tX12_feed_0 21 rfl) rfl ?_
    obtain ⟨r6, h_r6, h⟩ := Option.bind_eq_some_iff.mp h
    refine mx_cVv (mx_d tX12_feed_0 22 rfl) iX12_14 rfl vX12_come ⟨_, rfl, rfl⟩ (ly12_o h0) (CX12_come h0 h_r6) (by decide) rfl rfl (Nat.le_of_ble_eq_true rfl) ?_
    refine mx_aload_n (mx_d tX12_feed_0 23 rfl) rfl rfl ?_
    refine mx_iload (mx_d tX12_feed_0 24 rfl) rfl ?_
    obtain ⟨r7, h_r7, h⟩ := Option.bind_eq_some_iff.mp h
    refine mx_cVv (mx_d tX12_feed_0 25 rfl) iX12_14 rfl vX12_come ⟨_, rfl, rfl⟩ (ly12_o h0) (CX12_come h0 h_r7) (by decide) rfl rfl (Nat.le_of_ble_eq_true rfl) ?_
    refine mx_aload_n (mx_d tX12_feed_0 26 rfl) rfl rfl ?_
    refine mx_getI (mx_d tX12_feed_0 27 rfl) fX12_11 rfl (Or.inl rfl) (ly12_o h0) ?_
    obtain rfl := Option.some.inj h
    exact mx_ireturn (mx_d tX12_feed_0 28 rfl) rfl ⟨rfl, rfl⟩
  · rw [if_neg hc2] at h
    refine mx_iconst ((-1)) (mx_d tX12_feed_0 9 rfl) (by decide) ?_
    obtain rfl := Option.some.inj h
    exact mx_ireturn (mx_d tX12_feed_0 10 rfl) rfl ⟨rfl, rfl⟩
def FX12_end (a : Nat) (x0 : Int32) (m : mB) : Option (Int32 × mB) := mx_let (mx_up m.1 a 0 0, m.2) (fun m1 => (if x0 < 0 then (some (0, m1)) else (if x0 ≤ (m1.1 a 2) then mx_let (mx_up m1.1 a 2 x0, m1.2) (fun m4 => (some (1, m4))) else (some (0, m1)))))
set_option maxRecDepth 20000 in
theorem CX12_end {G : mG} {l : Launch} {e : mE} {a : Nat} {x0 : Int32} {m : mB} {r : (Int32 × mB)} (h0 : ly12 e a) (h : FX12_end a x0 m = some r) : mx_Call G l MX12_end 1 0 0 [.ref a, .int x0] (e, m) (fun v z => v = some (.int r.1) ∧ z = (e, r.2)) := by
  refine mx_entry (L := [.ref a, .int x0]) (by decide +kernel) (Nat.le_of_ble_eq_true rfl) rfl ?_
  unfold FX12_end at h
  refine mx_aload_n (mx_d tX12_end_0 0 rfl) rfl rfl ?_
  refine mx_iconst (0) (mx_d tX12_end_0 1 rfl) (by decide) ?_
  obtain ⟨m1, e_m1, h⟩ := mx_letE h
  refine mx_putI (mx_d tX12_end_0 2 rfl) fX12_1 rfl ⟨_, rfl, rfl⟩ rfl (ly12_o h0) (mx_eqz (z' := (e, m1)) (by rw [e_m1]) ?_)
  refine mx_iload_n (mx_d tX12_end_0 3 rfl) rfl rfl ?_
  refine mx_if_lt (tgt := 17) (mx_d tX12_end_0 4 rfl) (by decide) (fun hc2 => ?_) (fun hc2 => ?_)
  · rw [if_pos hc2] at h
    refine mx_iconst (0) (mx_d tX12_end_0 9 rfl) (by decide) ?_
    obtain rfl := Option.some.inj h
    exact mx_zreturn (mx_d tX12_end_0 10 rfl) rfl rfl ⟨rfl, rfl⟩
  · rw [if_neg hc2] at h
    refine mx_iload_n (mx_d tX12_end_0 5 rfl) rfl rfl ?_
    refine mx_aload_n (mx_d tX12_end_0 6 rfl) rfl rfl ?_
    refine mx_getI (mx_d tX12_end_0 7 rfl) fX12_11 rfl (Or.inl rfl) (ly12_o h0) ?_
    refine mx_icmp_le (tgt := 19) (mx_d tX12_end_0 8 rfl) (by decide) (fun hc3 => ?_) (fun hc3 => ?_)
    · rw [if_pos hc3] at h
      refine mx_aload_n (mx_d tX12_end_0 11 rfl) rfl rfl ?_
      refine mx_iload_n (mx_d tX12_end_0 12 rfl) rfl rfl ?_
      obtain ⟨m4, e_m4, h⟩ := mx_letE h
      refine mx_putI (mx_d tX12_end_0 13 rfl) fX12_11 rfl ⟨_, rfl, rfl⟩ rfl (ly12_o h0) (mx_eqz (z' := (e, m4)) (by rw [e_m4]) ?_)
      refine mx_iconst (1) (mx_d tX12_end_0 14 rfl) (by decide) ?_
      obtain rfl := Option.some.inj h
      exact mx_zreturn (mx_d tX12_end_0 15 rfl) rfl rfl ⟨rfl, rfl⟩
    · rw [if_neg hc3] at h
      refine mx_iconst (0) (mx_d tX12_end_0 9 rfl) (by decide) ?_
      obtain rfl := Option.some.inj h
      exact mx_zreturn (mx_d tX12_end_0 10 rfl) rfl rfl ⟨rfl, rfl⟩
def FX12_take (a : Nat) (m : mB) : Option (Int32 × mB) := mx_let (m.1 a 2) (fun v1 => mx_let (mx_up m.1 a 2 0, m.2) (fun m2 => (some (v1, m2))))
set_option maxRecDepth 20000 in
theorem CX12_take {G : mG} {l : Launch} {e : mE} {a : Nat} {m : mB} {r : (Int32 × mB)} (h0 : ly12 e a) (h : FX12_take a m = some r) : mx_Call G l MX12_take 1 0 0 [.ref a] (e, m) (fun v z => v = some (.int r.1) ∧ z = (e, r.2)) := by
  refine mx_entry (L := [.ref a, .float 0]) (by decide +kernel) (Nat.le_of_ble_eq_true rfl) rfl ?_
  unfold FX12_take at h
  refine mx_aload_n (mx_d tX12_take_0 0 rfl) rfl rfl ?_
  refine mx_getI (mx_d tX12_take_0 1 rfl) fX12_11 rfl (Or.inl rfl) (ly12_o h0) ?_
  obtain ⟨v1, e_v1, h⟩ := mx_letE h
  refine mx_istore_n (L2 := [.ref a, .int v1]) (mx_d tX12_take_0 2 rfl) rfl (by decide) (by rw [e_v1]; rfl) ?_
  refine mx_aload_n (mx_d tX12_take_0 3 rfl) rfl rfl ?_
  refine mx_iconst (0) (mx_d tX12_take_0 4 rfl) (by decide) ?_
  obtain ⟨m2, e_m2, h⟩ := mx_letE h
  refine mx_putI (mx_d tX12_take_0 5 rfl) fX12_11 rfl ⟨_, rfl, rfl⟩ rfl (ly12_o h0) (mx_eqz (z' := (e, m2)) (by rw [e_m2]) ?_)
  refine mx_iload_n (mx_d tX12_take_0 6 rfl) rfl rfl ?_
  obtain rfl := Option.some.inj h
  exact mx_ireturn (mx_d tX12_take_0 7 rfl) rfl ⟨rfl, rfl⟩
def FX12_isIn (x0 : Int32) (x1 : Int32) (x2 : Int32) (m : mB) : Option Int32 := (if x0 < x1 then (some 0) else (if x2 < x0 then (some 0) else (some 1)))
set_option maxRecDepth 20000 in
theorem CX12_isIn {G : mG} {l : Launch} {e : mE} {x0 : Int32} {x1 : Int32} {x2 : Int32} {m : mB} {r : Int32}  (h : FX12_isIn x0 x1 x2 m = some r) : mx_Call G l MX12_isIn 1 0 0 [.int x0, .int x1, .int x2] (e, m) (fun v z => v = some (.int r) ∧ z = (e, m)) := by
  refine mx_entry (L := [.int x0, .int x1, .int x2]) (by decide +kernel) (Nat.le_of_ble_eq_true rfl) rfl ?_
  unfold FX12_isIn at h
  refine mx_iload_n (mx_d tX12_isIn_0 0 rfl) rfl rfl ?_
  refine mx_iload_n (mx_d tX12_isIn_0 1 rfl) rfl rfl ?_
  refine mx_icmp_lt (tgt := 14) (mx_d tX12_isIn_0 2 rfl) (by decide) (fun hc1 => ?_) (fun hc1 => ?_)
  · rw [if_pos hc1] at h
    refine mx_iconst (0) (mx_d tX12_isIn_0 8 rfl) (by decide) ?_
    obtain rfl := Option.some.inj h
    exact mx_zreturn (mx_d tX12_isIn_0 9 rfl) rfl rfl ⟨rfl, rfl⟩
  · rw [if_neg hc1] at h
    refine mx_iload_n (mx_d tX12_isIn_0 3 rfl) rfl rfl ?_
    refine mx_iload_n (mx_d tX12_isIn_0 4 rfl) rfl rfl ?_
    refine mx_icmp_gt (tgt := 14) (mx_d tX12_isIn_0 5 rfl) (by decide) (fun hc2 => ?_) (fun hc2 => ?_)
    · rw [if_pos hc2] at h
      refine mx_iconst (0) (mx_d tX12_isIn_0 8 rfl) (by decide) ?_
      obtain rfl := Option.some.inj h
      exact mx_zreturn (mx_d tX12_isIn_0 9 rfl) rfl rfl ⟨rfl, rfl⟩
    · rw [if_neg hc2] at h
      refine mx_iconst (1) (mx_d tX12_isIn_0 6 rfl) (by decide) ?_
      refine mx_goto (tgt := 15) (mx_d tX12_isIn_0 7 rfl) (by decide) ?_
      obtain rfl := Option.some.inj h
      exact mx_zreturn (mx_d tX12_isIn_0 9 rfl) rfl rfl ⟨rfl, rfl⟩
def FX12_has (x0 : Int32) (x1 : Int32) (m : mB) : Option Int32 := (if ((x0 >>> (x1 &&& 31)) &&& 1) = 1 then (some 1) else (some 0))
set_option maxRecDepth 20000 in
theorem CX12_has {G : mG} {l : Launch} {e : mE} {x0 : Int32} {x1 : Int32} {m : mB} {r : Int32}  (h : FX12_has x0 x1 m = some r) : mx_Call G l MX12_has 1 0 0 [.int x0, .int x1] (e, m) (fun v z => v = some (.int r) ∧ z = (e, m)) := by
  refine mx_entry (L := [.int x0, .int x1]) (by decide +kernel) (Nat.le_of_ble_eq_true rfl) rfl ?_
  unfold FX12_has at h
  refine mx_iload_n (mx_d tX12_has_0 0 rfl) rfl rfl ?_
  refine mx_iload_n (mx_d tX12_has_0 1 rfl) rfl rfl ?_
  refine mx_ishr (mx_d tX12_has_0 2 rfl) ?_
  refine mx_iconst (1) (mx_d tX12_has_0 3 rfl) (by decide) ?_
  refine mx_iand (mx_d tX12_has_0 4 rfl) ?_
  refine mx_iconst (1) (mx_d tX12_has_0 5 rfl) (by decide) ?_
  refine mx_icmp_ne (tgt := 13) (mx_d tX12_has_0 6 rfl) (by decide) (fun hc1 => ?_) (fun hc1 => ?_)
  · rw [if_neg hc1] at h
    refine mx_iconst (0) (mx_d tX12_has_0 9 rfl) (by decide) ?_
    obtain rfl := Option.some.inj h
    exact mx_zreturn (mx_d tX12_has_0 10 rfl) rfl rfl ⟨rfl, rfl⟩
  · rw [if_pos hc1] at h
    refine mx_iconst (1) (mx_d tX12_has_0 7 rfl) (by decide) ?_
    refine mx_goto (tgt := 14) (mx_d tX12_has_0 8 rfl) (by decide) ?_
    obtain rfl := Option.some.inj h
    exact mx_zreturn (mx_d tX12_has_0 10 rfl) rfl rfl ⟨rfl, rfl⟩
def FX12_bits_L4  (m : mB) : Nat → Int32 → Int32 → Option (Int32)
  | 0, _, _ => none
  | f + 1, y1, y2 => (if y2 = 0 then (some (y1)) else mx_let (y1 + 1) (fun v2 => mx_let (y2 &&& (y2 - 1)) (fun v3 => (FX12_bits_L4  m f v2 v3))))
set_option maxRecDepth 20000 in
theorem CX12_bits_L4 {G : mG} {l : Launch} {e : mE} {Post : Option Value → mS → Prop}  {m : mB}  : ∀ (f : Nat) {y1 : Int32} {y2 : Int32} {q : (Int32)}, FX12_bits_L4  m f y1 y2 = some q → (mx_Fr G l MX12_bits 1 0 0 Post 20 [.float 0, .int q, .float 0] [] (e, m)) → mx_Fr G l MX12_bits 1 0 0 Post 4 [.float 0, .int y1, .int y2] [] (e, m) := by
  intro f
  induction f with
  | zero => intro _ _ _ h; cases h
  | succ f ih =>
    intro y1 y2 q h hex
    rw [FX12_bits_L4] at h
    refine mx_iload_n (mx_d tX12_bits_0 4 rfl) rfl rfl ?_
    refine mx_if_eq (tgt := 20) (mx_d tX12_bits_0 5 rfl) (by decide) (fun hc1 => ?_) (fun hc1 => ?_)
    · rw [if_pos hc1] at h
      obtain rfl := Option.some.inj h
      refine mx_forget (L' := [.float 0, .int y1, .float 0]) ⟨rfl, trivial⟩ ?_
      exact hex
    · rw [if_neg hc1] at h
      obtain ⟨v2, e_v2, h⟩ := mx_letE h
      refine mx_iinc v2 (L2 := [.float 0, .int v2, .int y2]) (mx_d tX12_bits_0 6 rfl) rfl (by rw [e_v2]; rfl) (by decide) rfl ?_
      refine mx_iload_n (mx_d tX12_bits_0 7 rfl) rfl rfl ?_
      refine mx_iload_n (mx_d tX12_bits_0 8 rfl) rfl rfl ?_
      refine mx_iconst (1) (mx_d tX12_bits_0 9 rfl) (by decide) ?_
      refine mx_isub (mx_d tX12_bits_0 10 rfl) ?_
      refine mx_iand (mx_d tX12_bits_0 11 rfl) ?_
      obtain ⟨v3, e_v3, h⟩ := mx_letE h
      refine mx_istore_n (L2 := [.float 0, .int v2, .int v3]) (mx_d tX12_bits_0 12 rfl) rfl (by decide) (by rw [e_v3]; rfl) ?_
      refine mx_goto (tgt := 4) (mx_d tX12_bits_0 13 rfl) (by decide) ?_
      exact ih h hex
def FX12_bits (x0 : Int32) (m : mB) : Option Int32 := Option.bind (FX12_bits_L4  m mx_FU 0 x0) (fun q4 => (some q4))
set_option maxRecDepth 20000 in
theorem CX12_bits {G : mG} {l : Launch} {e : mE} {x0 : Int32} {m : mB} {r : Int32}  (h : FX12_bits x0 m = some r) : mx_Call G l MX12_bits 1 0 0 [.int x0] (e, m) (fun v z => v = some (.int r) ∧ z = (e, m)) := by
  refine mx_entry (L := [.int x0, .float 0, .float 0]) (by decide +kernel) (Nat.le_of_ble_eq_true rfl) rfl ?_
  unfold FX12_bits at h
  refine mx_iconst (0) (mx_d tX12_bits_0 0 rfl) (by decide) ?_
  refine mx_istore_n (L2 := [.int x0, .int 0, .float 0]) (mx_d tX12_bits_0 1 rfl) rfl (by decide) (by rfl) ?_
  refine mx_iload_n (mx_d tX12_bits_0 2 rfl) rfl rfl ?_
  refine mx_istore_n (L2 := [.int x0, .int 0, .int x0]) (mx_d tX12_bits_0 3 rfl) rfl (by decide) (by rfl) ?_
  obtain ⟨q4, h_q4, h⟩ := Option.bind_eq_some_iff.mp h
  refine mx_forget (L' := [.float 0, .int 0, .int x0]) ⟨rfl, rfl, trivial⟩ ?_
  refine CX12_bits_L4  mx_FU h_q4 ?_
  refine mx_iload_n (mx_d tX12_bits_0 14 rfl) rfl rfl ?_
  obtain rfl := Option.some.inj h
  exact mx_ireturn (mx_d tX12_bits_0 15 rfl) rfl ⟨rfl, rfl⟩
def FX12_common_L4  (m : mB) : Nat → Int32 → Int32 → Option (Int32)
  | 0, _, _ => none
  | f + 1, y2, y3 => (if y3 = 0 then (some (y2)) else mx_chk (mx_nz y3) (mx_let (y2 - y2 / y3 * y3) (fun v3 => (FX12_common_L4  m f y3 v3))))
set_option maxRecDepth 20000 in
theorem CX12_common_L4 {G : mG} {l : Launch} {e : mE} {Post : Option Value → mS → Prop}  {m : mB}  : ∀ (f : Nat) {y2 : Int32} {y3 : Int32} {q : (Int32)}, FX12_common_L4  m f y2 y3 = some q → (mx_Fr G l MX12_common 1 0 0 Post 21 [.float 0, .float 0, .int q, .float 0, .float 0] [] (e, m)) → mx_Fr G l MX12_common 1 0 0 Post 4 [.float 0, .float 0, .int y2, .int y3, .float 0] [] (e, m) := by
  intro f
  induction f with
  | zero => intro _ _ _ h; cases h
  | succ f ih =>
    intro y2 y3 q h hex
    rw [FX12_common_L4] at h
    refine mx_iload_n (mx_d tX12_common_0 4 rfl) rfl rfl ?_
    refine mx_if_eq (tgt := 21) (mx_d tX12_common_0 5 rfl) (by decide) (fun hc1 => ?_) (fun hc1 => ?_)
    · rw [if_pos hc1] at h
      obtain rfl := Option.some.inj h
      refine mx_forget (L' := [.float 0, .float 0, .int y2, .float 0, .float 0]) ⟨rfl, trivial⟩ ?_
      exact hex
    · rw [if_neg hc1] at h
      refine mx_iload_n (mx_d tX12_common_0 6 rfl) rfl rfl ?_
      refine mx_iload_n (mx_d tX12_common_0 7 rfl) rfl rfl ?_
      obtain ⟨hz2, h⟩ := mx_chkE h
      refine mx_irem (mx_d tX12_common_0 8 rfl) (mx_nzE hz2) ?_
      obtain ⟨v3, e_v3, h⟩ := mx_letE h
      refine mx_istore (L2 := [.float 0, .float 0, .int y2, .int y3, .int v3]) (mx_d tX12_common_0 9 rfl) (by decide) (by rw [e_v3]; rfl) ?_
      refine mx_iload_n (mx_d tX12_common_0 10 rfl) rfl rfl ?_
      refine mx_istore_n (L2 := [.float 0, .float 0, .int y3, .int y3, .int v3]) (mx_d tX12_common_0 11 rfl) rfl (by decide) (by rfl) ?_
      refine mx_iload (mx_d tX12_common_0 12 rfl) rfl ?_
      refine mx_istore_n (L2 := [.float 0, .float 0, .int y3, .int v3, .int v3]) (mx_d tX12_common_0 13 rfl) rfl (by decide) (by rfl) ?_
      refine mx_goto (tgt := 4) (mx_d tX12_common_0 14 rfl) (by decide) ?_
      refine mx_forget (L' := [.float 0, .float 0, .int y3, .int v3, .float 0]) ⟨rfl, rfl, trivial⟩ ?_
      exact ih h hex
def FX12_common (x0 : Int32) (x1 : Int32) (m : mB) : Option Int32 := Option.bind (FX12_common_L4  m mx_FU x0 x1) (fun q4 => (some q4))
set_option maxRecDepth 20000 in
theorem CX12_common {G : mG} {l : Launch} {e : mE} {x0 : Int32} {x1 : Int32} {m : mB} {r : Int32}  (h : FX12_common x0 x1 m = some r) : mx_Call G l MX12_common 1 0 0 [.int x0, .int x1] (e, m) (fun v z => v = some (.int r) ∧ z = (e, m)) := by
  refine mx_entry (L := [.int x0, .int x1, .float 0, .float 0, .float 0]) (by decide +kernel) (Nat.le_of_ble_eq_true rfl) rfl ?_
  unfold FX12_common at h
  refine mx_iload_n (mx_d tX12_common_0 0 rfl) rfl rfl ?_
  refine mx_istore_n (L2 := [.int x0, .int x1, .int x0, .float 0, .float 0]) (mx_d tX12_common_0 1 rfl) rfl (by decide) (by rfl) ?_
  refine mx_iload_n (mx_d tX12_common_0 2 rfl) rfl rfl ?_
  refine mx_istore_n (L2 := [.int x0, .int x1, .int x0, .int x1, .float 0]) (mx_d tX12_common_0 3 rfl) rfl (by decide) (by rfl) ?_
  obtain ⟨q4, h_q4, h⟩ := Option.bind_eq_some_iff.mp h
  refine mx_forget (L' := [.float 0, .float 0, .int x0, .int x1, .float 0]) ⟨rfl, rfl, trivial⟩ ?_
  refine CX12_common_L4  mx_FU h_q4 ?_
  refine mx_iload_n (mx_d tX12_common_0 15 rfl) rfl rfl ?_
  obtain rfl := Option.some.inj h
  exact mx_ireturn (mx_d tX12_common_0 16 rfl) rfl ⟨rfl, rfl⟩
def FX12_tapeAt (a : Nat) (x0 : Int32) (m : mB) : Option Int32 := (if (m.1 a 3) ≤ x0 then (some 0) else mx_chk (mx_inb x0 940) ((some (m.1 (a + 1) (Int32.toNatClampNeg x0)))))
set_option maxRecDepth 20000 in
theorem CX12_tapeAt {G : mG} {l : Launch} {e : mE} {a : Nat} {x0 : Int32} {m : mB} {r : Int32} (h0 : ly12 e a) (h : FX12_tapeAt a x0 m = some r) : mx_Call G l MX12_tapeAt 1 0 0 [.ref a, .int x0] (e, m) (fun v z => v = some (.int r) ∧ z = (e, m)) := by
  refine mx_entry (L := [.ref a, .int x0]) (by decide +kernel) (Nat.le_of_ble_eq_true rfl) rfl ?_
  unfold FX12_tapeAt at h
  refine mx_iload_n (mx_d tX12_tapeAt_0 0 rfl) rfl rfl ?_
  refine mx_aload_n (mx_d tX12_tapeAt_0 1 rfl) rfl rfl ?_
  refine mx_getI (mx_d tX12_tapeAt_0 2 rfl) fX12_18 rfl (Or.inl rfl) (ly12_o h0) ?_
  refine mx_icmp_ge (tgt := 17) (mx_d tX12_tapeAt_0 3 rfl) (by decide) (fun hc1 => ?_) (fun hc1 => ?_)
  · rw [if_pos hc1] at h
    refine mx_iconst (0) (mx_d tX12_tapeAt_0 9 rfl) (by decide) ?_
    obtain rfl := Option.some.inj h
    exact mx_ireturn (mx_d tX12_tapeAt_0 10 rfl) rfl ⟨rfl, rfl⟩
  · rw [if_neg hc1] at h
    refine mx_aload_n (mx_d tX12_tapeAt_0 4 rfl) rfl rfl ?_
    refine mx_getR (mx_d tX12_tapeAt_0 5 rfl) fX12_7 rfl rfl (ly12_o h0) (ly12_r1 h0) ?_
    refine mx_iload_n (mx_d tX12_tapeAt_0 6 rfl) rfl rfl ?_
    obtain ⟨hi2, h⟩ := mx_chkE h
    refine mx_iaload (mx_d tX12_tapeAt_0 7 rfl) (ly12_s1 h0) (mx_inbE hi2) ?_
    refine mx_goto (tgt := 18) (mx_d tX12_tapeAt_0 8 rfl) (by decide) ?_
    obtain rfl := Option.some.inj h
    exact mx_ireturn (mx_d tX12_tapeAt_0 10 rfl) rfl ⟨rfl, rfl⟩
def FX12_isDigit (x0 : Int32) (m : mB) : Option Int32 := (if x0 < 48 then (some 0) else (if 57 < x0 then (some 0) else (some 1)))
set_option maxRecDepth 20000 in
theorem CX12_isDigit {G : mG} {l : Launch} {e : mE} {x0 : Int32} {m : mB} {r : Int32}  (h : FX12_isDigit x0 m = some r) : mx_Call G l MX12_isDigit 1 0 0 [.int x0] (e, m) (fun v z => v = some (.int r) ∧ z = (e, m)) := by
  refine mx_entry (L := [.int x0]) (by decide +kernel) (Nat.le_of_ble_eq_true rfl) rfl ?_
  unfold FX12_isDigit at h
  refine mx_iload_n (mx_d tX12_isDigit_0 0 rfl) rfl rfl ?_
  refine mx_bipush (48) (mx_d tX12_isDigit_0 1 rfl) (by decide) ?_
  refine mx_icmp_lt (tgt := 16) (mx_d tX12_isDigit_0 2 rfl) (by decide) (fun hc1 => ?_) (fun hc1 => ?_)
  · rw [if_pos hc1] at h
    refine mx_iconst (0) (mx_d tX12_isDigit_0 8 rfl) (by decide) ?_
    obtain rfl := Option.some.inj h
    exact mx_zreturn (mx_d tX12_isDigit_0 9 rfl) rfl rfl ⟨rfl, rfl⟩
  · rw [if_neg hc1] at h
    refine mx_iload_n (mx_d tX12_isDigit_0 3 rfl) rfl rfl ?_
    refine mx_bipush (57) (mx_d tX12_isDigit_0 4 rfl) (by decide) ?_
    refine mx_icmp_gt (tgt := 16) (mx_d tX12_isDigit_0 5 rfl) (by decide) (fun hc2 => ?_) (fun hc2 => ?_)
    · rw [if_pos hc2] at h
      refine mx_iconst (0) (mx_d tX12_isDigit_0 8 rfl) (by decide) ?_
      obtain rfl := Option.some.inj h
      exact mx_zreturn (mx_d tX12_isDigit_0 9 rfl) rfl rfl ⟨rfl, rfl⟩
    · rw [if_neg hc2] at h
      refine mx_iconst (1) (mx_d tX12_isDigit_0 6 rfl) (by decide) ?_
      refine mx_goto (tgt := 17) (mx_d tX12_isDigit_0 7 rfl) (by decide) ?_
      obtain rfl := Option.some.inj h
      exact mx_zreturn (mx_d tX12_isDigit_0 9 rfl) rfl rfl ⟨rfl, rfl⟩
def FX12_isLetter (x0 : Int32) (m : mB) : Option Int32 := (if x0 < 97 then (some 0) else (if 122 < x0 then (some 0) else (some 1)))
set_option maxRecDepth 20000 in
theorem CX12_isLetter {G : mG} {l : Launch} {e : mE} {x0 : Int32} {m : mB} {r : Int32}  (h : FX12_isLetter x0 m = some r) : mx_Call G l MX12_isLetter 1 0 0 [.int x0] (e, m) (fun v z => v = some (.int r) ∧ z = (e, m)) := by
  refine mx_entry (L := [.int x0]) (by decide +kernel) (Nat.le_of_ble_eq_true rfl) rfl ?_
  unfold FX12_isLetter at h
  refine mx_iload_n (mx_d tX12_isLetter_0 0 rfl) rfl rfl ?_
  refine mx_bipush (97) (mx_d tX12_isLetter_0 1 rfl) (by decide) ?_
  refine mx_icmp_lt (tgt := 16) (mx_d tX12_isLetter_0 2 rfl) (by decide) (fun hc1 => ?_) (fun hc1 => ?_)
  · rw [if_pos hc1] at h
    refine mx_iconst (0) (mx_d tX12_isLetter_0 8 rfl) (by decide) ?_
    obtain rfl := Option.some.inj h
    exact mx_zreturn (mx_d tX12_isLetter_0 9 rfl) rfl rfl ⟨rfl, rfl⟩
  · rw [if_neg hc1] at h
    refine mx_iload_n (mx_d tX12_isLetter_0 3 rfl) rfl rfl ?_
    refine mx_bipush (122) (mx_d tX12_isLetter_0 4 rfl) (by decide) ?_
    refine mx_icmp_gt (tgt := 16) (mx_d tX12_isLetter_0 5 rfl) (by decide) (fun hc2 => ?_) (fun hc2 => ?_)
    · rw [if_pos hc2] at h
      refine mx_iconst (0) (mx_d tX12_isLetter_0 8 rfl) (by decide) ?_
      obtain rfl := Option.some.inj h
      exact mx_zreturn (mx_d tX12_isLetter_0 9 rfl) rfl rfl ⟨rfl, rfl⟩
    · rw [if_neg hc2] at h
      refine mx_iconst (1) (mx_d tX12_isLetter_0 6 rfl) (by decide) ?_
      refine mx_goto (tgt := 17) (mx_d tX12_isLetter_0 7 rfl) (by decide) ?_
      obtain rfl := Option.some.inj h
      exact mx_zreturn (mx_d tX12_isLetter_0 9 rfl) rfl rfl ⟨rfl, rfl⟩
def FX12_go_L0 (q0 : Nat) : Nat → mB → Option (mB)
  | 0, _ => none
  | f + 1, m => (if (m.1 q0 3) ≤ (m.1 q0 5) then (some (m)) else mx_chk (mx_inb (m.1 q0 5) 940) ((if (m.1 (q0 + 1) (Int32.toNatClampNeg (m.1 q0 5))) = 32 then mx_let (mx_up m.1 q0 5 ((m.1 q0 5) + 1), m.2) (fun m4 => (FX12_go_L0 q0 f  m4)) else (if (m.1 (q0 + 1) (Int32.toNatClampNeg (m.1 q0 5))) = 10 then mx_let (mx_up m.1 q0 5 ((m.1 q0 5) + 1), m.2) (fun m6 => (FX12_go_L0 q0 f  m6)) else (some (m))))))
set_option maxRecDepth 20000 in
theorem CX12_go_L0 {G : mG} {l : Launch} {e : mE} {Post : Option Value → mS → Prop} {q0 : Nat} (g0 : ly12 e q0) : ∀ (f : Nat)  {m : mB} {q : (mB)}, FX12_go_L0 q0 f m = some q → (mx_Fr G l MX12_go 2 0 0 Post 52 [.ref q0, .float 0, .float 0, .float 0, .float 0] [] (e, q)) → mx_Fr G l MX12_go 2 0 0 Post 0 [.ref q0, .float 0, .float 0, .float 0, .float 0] [] (e, m) := by
  intro f
  induction f with
  | zero => intro _ _ h; cases h
  | succ f ih =>
    intro m q h hex
    rw [FX12_go_L0] at h
    refine mx_aload_n (mx_d tX12_go_0 0 rfl) rfl rfl ?_
    refine mx_getI (mx_d tX12_go_0 1 rfl) fX12_21 rfl (Or.inl rfl) (ly12_o g0) ?_
    refine mx_aload_n (mx_d tX12_go_0 2 rfl) rfl rfl ?_
    refine mx_getI (mx_d tX12_go_0 3 rfl) fX12_18 rfl (Or.inl rfl) (ly12_o g0) ?_
    refine mx_icmp_ge (tgt := 52) (mx_d tX12_go_0 4 rfl) (by decide) (fun hc1 => ?_) (fun hc1 => ?_)
    · rw [if_pos hc1] at h
      obtain rfl := Option.some.inj h
      exact hex
    · rw [if_neg hc1] at h
      refine mx_aload_n (mx_d tX12_go_0 5 rfl) rfl rfl ?_
      refine mx_getR (mx_d tX12_go_0 6 rfl) fX12_7 rfl rfl (ly12_o g0) (ly12_r1 g0) ?_
      refine mx_aload_n (mx_d tX12_go_0 7 rfl) rfl rfl ?_
      refine mx_getI (mx_d tX12_go_0 8 rfl) fX12_21 rfl (Or.inl rfl) (ly12_o g0) ?_
      obtain ⟨hi2, h⟩ := mx_chkE h
      refine mx_iaload (mx_d tX12_go_0 9 rfl) (ly12_s1 g0) (mx_inbE hi2) ?_
      refine mx_bipush (32) (mx_d tX12_go_0 10 rfl) (by decide) ?_
      refine mx_icmp_eq (tgt := 39) (mx_d tX12_go_0 11 rfl) (by decide) (fun hc3 => ?_) (fun hc3 => ?_)
      · rw [if_pos hc3] at h
        refine mx_aload_n (mx_d tX12_go_0 19 rfl) rfl rfl ?_
        refine mx_dup (mx_d tX12_go_0 20 rfl) rfl ?_
        refine mx_getI (mx_d tX12_go_0 21 rfl) fX12_21 rfl (Or.inl rfl) (ly12_o g0) ?_
        refine mx_iconst (1) (mx_d tX12_go_0 22 rfl) (by decide) ?_
        refine mx_iadd (mx_d tX12_go_0 23 rfl) ?_
        obtain ⟨m4, e_m4, h⟩ := mx_letE h
        refine mx_putI (mx_d tX12_go_0 24 rfl) fX12_21 rfl ⟨_, rfl, rfl⟩ rfl (ly12_o g0) (mx_eqz (z' := (e, m4)) (by rw [e_m4]) ?_)
        refine mx_goto (tgt := 0) (mx_d tX12_go_0 25 rfl) (by decide) ?_
        exact ih h hex
      · rw [if_neg hc3] at h
        refine mx_aload_n (mx_d tX12_go_0 12 rfl) rfl rfl ?_
        refine mx_getR (mx_d tX12_go_0 13 rfl) fX12_7 rfl rfl (ly12_o g0) (ly12_r1 g0) ?_
        refine mx_aload_n (mx_d tX12_go_0 14 rfl) rfl rfl ?_
        refine mx_getI (mx_d tX12_go_0 15 rfl) fX12_21 rfl (Or.inl rfl) (ly12_o g0) ?_
        refine mx_iaload (mx_d tX12_go_0 16 rfl) (ly12_s1 g0) (mx_inbE hi2) ?_
        refine mx_bipush (10) (mx_d tX12_go_0 17 rfl) (by decide) ?_
        refine mx_icmp_ne (tgt := 52) (mx_d tX12_go_0 18 rfl) (by decide) (fun hc5 => ?_) (fun hc5 => ?_)
        · rw [if_neg hc5] at h
          obtain rfl := Option.some.inj h
          exact hex
        · rw [if_pos hc5] at h
          refine mx_aload_n (mx_d tX12_go_0 19 rfl) rfl rfl ?_
          refine mx_dup (mx_d tX12_go_0 20 rfl) rfl ?_
          refine mx_getI (mx_d tX12_go_0 21 rfl) fX12_21 rfl (Or.inl rfl) (ly12_o g0) ?_
          refine mx_iconst (1) (mx_d tX12_go_0 22 rfl) (by decide) ?_
          refine mx_iadd (mx_d tX12_go_0 23 rfl) ?_
          obtain ⟨m6, e_m6, h⟩ := mx_letE h
          refine mx_putI (mx_d tX12_go_0 24 rfl) fX12_21 rfl ⟨_, rfl, rfl⟩ rfl (ly12_o g0) (mx_eqz (z' := (e, m6)) (by rw [e_m6]) ?_)
          refine mx_goto (tgt := 0) (mx_d tX12_go_0 25 rfl) (by decide) ?_
          exact ih h hex
def FX12_go_L215 (q0 : Nat) (y2 : Int32) : Nat → Int32 → mB → Option (Int32 × mB)
  | 0, _, _ => none
  | f + 1, y3, m => Option.bind (FX12_tapeAt q0 (m.1 q0 5) m) (fun r22 => Option.bind (FX12_isLetter r22 m) (fun r23 => mx_let (mx_chk (mx_inb (m.1 q0 5) 940) (mx_let (m.1 (q0 + 1) (Int32.toNatClampNeg (m.1 q0 5))) (fun v27 => mx_let (mx_let (fun (m31 : mB) => (if 3 ≤ ((m31.1 q0 5) - (m31.1 q0 6)) then mx_let (mx_up m31.1 q0 5 ((m31.1 q0 5) + 1), m31.2) (fun m34 => (FX12_go_L215 q0 y2 f 0 m34)) else mx_let (mx_up m31.1 q0 8 (((10 * (m31.1 q0 8)) + v27) - 48), m31.2) (fun m35 => mx_let (mx_up m35.1 q0 5 ((m35.1 q0 5) + 1), m35.2) (fun m36 => (FX12_go_L215 q0 y2 f 0 m36))))) (fun k32 => (if 7 ≤ ((m.1 q0 5) - (m.1 q0 6)) then (k32 m) else mx_let (m.1, mx_ul m.2 q0 12 (((27 * (m.2 q0 12)) + (Int32.toInt64 v27)) - 96)) (fun m37 => (k32 m37))))) (fun k29 => (if y3 = 0 then k29 else Option.bind (FX12_isLetter v27 m) (fun r38 => (if r38 = y2 then mx_let (fun (m41 : mB) => (if 3 ≤ ((m41.1 q0 5) - (m41.1 q0 6)) then mx_let (mx_up m41.1 q0 5 ((m41.1 q0 5) + 1), m41.2) (fun m44 => (FX12_go_L215 q0 y2 f 1 m44)) else mx_let (mx_up m41.1 q0 8 (((10 * (m41.1 q0 8)) + v27) - 48), m41.2) (fun m45 => mx_let (mx_up m45.1 q0 5 ((m45.1 q0 5) + 1), m45.2) (fun m46 => (FX12_go_L215 q0 y2 f 1 m46))))) (fun k42 => (if 7 ≤ ((m.1 q0 5) - (m.1 q0 6)) then (k42 m) else mx_let (m.1, mx_ul m.2 q0 12 (((27 * (m.2 q0 12)) + (Int32.toInt64 v27)) - 96)) (fun m47 => (k42 m47)))) else k29))))))) (fun k25 => (if r23 = 0 then Option.bind (FX12_tapeAt q0 (m.1 q0 5) m) (fun r48 => Option.bind (FX12_isDigit r48 m) (fun r49 => (if r49 = 0 then (some ((y3, m))) else k25))) else k25))))
set_option maxRecDepth 20000 in
theorem CX12_go_L215 {G : mG} {l : Launch} {e : mE} {Post : Option Value → mS → Prop} {q0 : Nat} {y2 : Int32} (g0 : ly12 e q0) : ∀ (f : Nat) {y3 : Int32} {m : mB} {q : (Int32 × mB)}, FX12_go_L215 q0 y2 f y3 m = some q → (mx_Fr G l MX12_go 2 0 0 Post 350 [.ref q0, .float 0, .int y2, .int q.1, .float 0] [] (e, q.2)) → mx_Fr G l MX12_go 2 0 0 Post 215 [.ref q0, .float 0, .int y2, .int y3, .float 0] [] (e, m) := by
  intro f
  induction f with
  | zero => intro _ _ _ h; cases h
  | succ f ih =>
    intro y3 m q h hex
    rw [FX12_go_L215] at h
    refine mx_aload_n (mx_d tX12_go_1 53 rfl) rfl rfl ?_
    refine mx_aload_n (mx_d tX12_go_1 54 rfl) rfl rfl ?_
    refine mx_getI (mx_d tX12_go_1 55 rfl) fX12_21 rfl (Or.inl rfl) (ly12_o g0) ?_
    obtain ⟨r22, h_r22, h⟩ := Option.bind_eq_some_iff.mp h
    refine mx_cVi (mx_d tX12_go_1 56 rfl) iX12_50 rfl vX12_tapeAt ⟨_, rfl, rfl⟩ (ly12_o g0) (CX12_tapeAt g0 h_r22) (by decide) rfl rfl (Nat.le_of_ble_eq_true rfl) ?_
    obtain ⟨r23, h_r23, h⟩ := Option.bind_eq_some_iff.mp h
    refine mx_cSi (mx_d tX12_go_1 57 rfl) iX12_33 rfl sX12_isLetter (CX12_isLetter  h_r23) (by decide) rfl rfl (Nat.le_of_ble_eq_true rfl) ?_
    refine mx_letK (J := fun k25 => k25 = some q → mx_Fr G l MX12_go 2 0 0 Post 243 [.ref q0, .float 0, .int y2, .int y3, .float 0] [] (e, m)) h ?_ (fun k25 j_k25 h => ?_)
    · intro h
      refine mx_aload_n (mx_d tX12_go_2 5 rfl) rfl rfl ?_
      refine mx_getR (mx_d tX12_go_2 6 rfl) fX12_7 rfl rfl (ly12_o g0) (ly12_r1 g0) ?_
      refine mx_aload_n (mx_d tX12_go_2 7 rfl) rfl rfl ?_
      refine mx_getI (mx_d tX12_go_2 8 rfl) fX12_21 rfl (Or.inl rfl) (ly12_o g0) ?_
      obtain ⟨hi26, h⟩ := mx_chkE h
      refine mx_iaload (mx_d tX12_go_2 9 rfl) (ly12_s1 g0) (mx_inbE hi26) ?_
      obtain ⟨v27, e_v27, h⟩ := mx_letE h
      refine mx_istore (L2 := [.ref q0, .float 0, .int y2, .int y3, .int v27]) (mx_d tX12_go_2 10 rfl) (by decide) (by rw [e_v27]; rfl) ?_
      refine mx_iload_n (mx_d tX12_go_2 11 rfl) rfl rfl ?_
      refine mx_letK (J := fun k29 => k29 = some q → mx_Fr G l MX12_go 2 0 0 Post 271 [.ref q0, .float 0, .int y2, .float 0, .int v27] [] (e, m)) h ?_ (fun k29 j_k29 h => ?_)
      · intro h
        refine mx_iconst (0) (mx_d tX12_go_2 19 rfl) (by decide) ?_
        refine mx_istore_n (L2 := [.ref q0, .float 0, .int y2, .int 0, .int v27]) (mx_d tX12_go_2 20 rfl) rfl (by decide) (by rfl) ?_
        refine mx_aload_n (mx_d tX12_go_2 21 rfl) rfl rfl ?_
        refine mx_getI (mx_d tX12_go_2 22 rfl) fX12_21 rfl (Or.inl rfl) (ly12_o g0) ?_
        refine mx_aload_n (mx_d tX12_go_2 23 rfl) rfl rfl ?_
        refine mx_getI (mx_d tX12_go_2 24 rfl) fX12_24 rfl (Or.inl rfl) (ly12_o g0) ?_
        refine mx_isub (mx_d tX12_go_2 25 rfl) ?_
        refine mx_bipush (7) (mx_d tX12_go_2 26 rfl) (by decide) ?_
        refine mx_letK (J := fun k32 => ∀ {m31 : mB}, k32 m31 = some q → mx_Fr G l MX12_go 2 0 0 Post 307 [.ref q0, .float 0, .int y2, .int 0, .int v27] [] (e, m31)) h ?_ (fun k32 j_k32 h => ?_)
        · intro m31 h
          dsimp only at h
          refine mx_aload_n (mx_d tX12_go_2 39 rfl) rfl rfl ?_
          refine mx_getI (mx_d tX12_go_2 40 rfl) fX12_21 rfl (Or.inl rfl) (ly12_o g0) ?_
          refine mx_aload_n (mx_d tX12_go_2 41 rfl) rfl rfl ?_
          refine mx_getI (mx_d tX12_go_2 42 rfl) fX12_24 rfl (Or.inl rfl) (ly12_o g0) ?_
          refine mx_isub (mx_d tX12_go_2 43 rfl) ?_
          refine mx_iconst (3) (mx_d tX12_go_2 44 rfl) (by decide) ?_
          refine mx_icmp_ge (tgt := 337) (mx_d tX12_go_2 45 rfl) (by decide) (fun hc33 => ?_) (fun hc33 => ?_)
          · rw [if_pos hc33] at h
            refine mx_aload_n (mx_d tX12_go_2 56 rfl) rfl rfl ?_
            refine mx_dup (mx_d tX12_go_2 57 rfl) rfl ?_
            refine mx_getI (mx_d tX12_go_2 58 rfl) fX12_21 rfl (Or.inl rfl) (ly12_o g0) ?_
            refine mx_iconst (1) (mx_d tX12_go_2 59 rfl) (by decide) ?_
            refine mx_iadd (mx_d tX12_go_3 0 rfl) ?_
            obtain ⟨m34, e_m34, h⟩ := mx_letE h
            refine mx_putI (mx_d tX12_go_3 1 rfl) fX12_21 rfl ⟨_, rfl, rfl⟩ rfl (ly12_o g0) (mx_eqz (z' := (e, m34)) (by rw [e_m34]) ?_)
            refine mx_goto (tgt := 215) (mx_d tX12_go_3 2 rfl) (by decide) ?_
            refine mx_forget (L' := [.ref q0, .float 0, .int y2, .int 0, .float 0]) ⟨rfl, rfl, rfl, trivial⟩ ?_
            exact ih h hex
          · rw [if_neg hc33] at h
            refine mx_aload_n (mx_d tX12_go_2 46 rfl) rfl rfl ?_
            refine mx_bipush (10) (mx_d tX12_go_2 47 rfl) (by decide) ?_
            refine mx_aload_n (mx_d tX12_go_2 48 rfl) rfl rfl ?_
            refine mx_getI (mx_d tX12_go_2 49 rfl) fX12_47 rfl (Or.inl rfl) (ly12_o g0) ?_
            refine mx_imul (mx_d tX12_go_2 50 rfl) ?_
            refine mx_iload (mx_d tX12_go_2 51 rfl) rfl ?_
            refine mx_iadd (mx_d tX12_go_2 52 rfl) ?_
            refine mx_bipush (48) (mx_d tX12_go_2 53 rfl) (by decide) ?_
            refine mx_isub (mx_d tX12_go_2 54 rfl) ?_
            obtain ⟨m35, e_m35, h⟩ := mx_letE h
            refine mx_putI (mx_d tX12_go_2 55 rfl) fX12_47 rfl ⟨_, rfl, rfl⟩ rfl (ly12_o g0) (mx_eqz (z' := (e, m35)) (by rw [e_m35]) ?_)
            refine mx_aload_n (mx_d tX12_go_2 56 rfl) rfl rfl ?_
            refine mx_dup (mx_d tX12_go_2 57 rfl) rfl ?_
            refine mx_getI (mx_d tX12_go_2 58 rfl) fX12_21 rfl (Or.inl rfl) (ly12_o g0) ?_
            refine mx_iconst (1) (mx_d tX12_go_2 59 rfl) (by decide) ?_
            refine mx_iadd (mx_d tX12_go_3 0 rfl) ?_
            obtain ⟨m36, e_m36, h⟩ := mx_letE h
            refine mx_putI (mx_d tX12_go_3 1 rfl) fX12_21 rfl ⟨_, rfl, rfl⟩ rfl (ly12_o g0) (mx_eqz (z' := (e, m36)) (by rw [e_m36]) ?_)
            refine mx_goto (tgt := 215) (mx_d tX12_go_3 2 rfl) (by decide) ?_
            refine mx_forget (L' := [.ref q0, .float 0, .int y2, .int 0, .float 0]) ⟨rfl, rfl, rfl, trivial⟩ ?_
            exact ih h hex
        refine mx_icmp_ge (tgt := 307) (mx_d tX12_go_2 27 rfl) (by decide) (fun hc30 => ?_) (fun hc30 => ?_)
        · rw [if_pos hc30] at h
          exact j_k32 h
        · rw [if_neg hc30] at h
          refine mx_aload_n (mx_d tX12_go_2 28 rfl) rfl rfl ?_
          refine mx_ldc2 (27) (mx_d tX12_go_2 29 rfl) cX12_54 ?_
          refine mx_aload_n (mx_d tX12_go_2 30 rfl) rfl rfl ?_
          refine mx_getJ (mx_d tX12_go_2 31 rfl) fX12_43 rfl rfl (ly12_o g0) ?_
          refine mx_lmul (mx_d tX12_go_2 32 rfl) ?_
          refine mx_iload (mx_d tX12_go_2 33 rfl) rfl ?_
          refine mx_i2l (mx_d tX12_go_2 34 rfl) ?_
          refine mx_ladd (mx_d tX12_go_2 35 rfl) ?_
          refine mx_ldc2 (96) (mx_d tX12_go_2 36 rfl) cX12_56 ?_
          refine mx_lsub (mx_d tX12_go_2 37 rfl) ?_
          obtain ⟨m37, e_m37, h⟩ := mx_letE h
          refine mx_putJ (mx_d tX12_go_2 38 rfl) fX12_43 rfl ⟨_, rfl, rfl⟩ rfl (ly12_o g0) (mx_eqz (z' := (e, m37)) (by rw [e_m37]) ?_)
          exact j_k32 h
      refine mx_if_eq (tgt := 271) (mx_d tX12_go_2 12 rfl) (by decide) (fun hc28 => ?_) (fun hc28 => ?_)
      · rw [if_pos hc28] at h
        refine mx_forget (L' := [.ref q0, .float 0, .int y2, .float 0, .int v27]) ⟨rfl, rfl, rfl, trivial⟩ ?_
        exact j_k29 h
      · rw [if_neg hc28] at h
        refine mx_iload (mx_d tX12_go_2 13 rfl) rfl ?_
        obtain ⟨r38, h_r38, h⟩ := Option.bind_eq_some_iff.mp h
        refine mx_cSi (mx_d tX12_go_2 14 rfl) iX12_33 rfl sX12_isLetter (CX12_isLetter  h_r38) (by decide) rfl rfl (Nat.le_of_ble_eq_true rfl) ?_
        refine mx_iload_n (mx_d tX12_go_2 15 rfl) rfl rfl ?_
        refine mx_icmp_ne (tgt := 271) (mx_d tX12_go_2 16 rfl) (by decide) (fun hc39 => ?_) (fun hc39 => ?_)
        · rw [if_neg hc39] at h
          refine mx_forget (L' := [.ref q0, .float 0, .int y2, .float 0, .int v27]) ⟨rfl, rfl, rfl, trivial⟩ ?_
          exact j_k29 h
        · rw [if_pos hc39] at h
          refine mx_iconst (1) (mx_d tX12_go_2 17 rfl) (by decide) ?_
          refine mx_goto (tgt := 272) (mx_d tX12_go_2 18 rfl) (by decide) ?_
          refine mx_istore_n (L2 := [.ref q0, .float 0, .int y2, .int 1, .int v27]) (mx_d tX12_go_2 20 rfl) rfl (by decide) (by rfl) ?_
          refine mx_aload_n (mx_d tX12_go_2 21 rfl) rfl rfl ?_
          refine mx_getI (mx_d tX12_go_2 22 rfl) fX12_21 rfl (Or.inl rfl) (ly12_o g0) ?_
          refine mx_aload_n (mx_d tX12_go_2 23 rfl) rfl rfl ?_
          refine mx_getI (mx_d tX12_go_2 24 rfl) fX12_24 rfl (Or.inl rfl) (ly12_o g0) ?_
          refine mx_isub (mx_d tX12_go_2 25 rfl) ?_
          refine mx_bipush (7) (mx_d tX12_go_2 26 rfl) (by decide) ?_
          refine mx_letK (J := fun k42 => ∀ {m41 : mB}, k42 m41 = some q → mx_Fr G l MX12_go 2 0 0 Post 307 [.ref q0, .float 0, .int y2, .int 1, .int v27] [] (e, m41)) h ?_ (fun k42 j_k42 h => ?_)
          · intro m41 h
            dsimp only at h
            refine mx_aload_n (mx_d tX12_go_2 39 rfl) rfl rfl ?_
            refine mx_getI (mx_d tX12_go_2 40 rfl) fX12_21 rfl (Or.inl rfl) (ly12_o g0) ?_
            refine mx_aload_n (mx_d tX12_go_2 41 rfl) rfl rfl ?_
            refine mx_getI (mx_d tX12_go_2 42 rfl) fX12_24 rfl (Or.inl rfl) (ly12_o g0) ?_
            refine mx_isub (mx_d tX12_go_2 43 rfl) ?_
            refine mx_iconst (3) (mx_d tX12_go_2 44 rfl) (by decide) ?_
            refine mx_icmp_ge (tgt := 337) (mx_d tX12_go_2 45 rfl) (by decide) (fun hc43 => ?_) (fun hc43 => ?_)
            · rw [if_pos hc43] at h
              refine mx_aload_n (mx_d tX12_go_2 56 rfl) rfl rfl ?_
              refine mx_dup (mx_d tX12_go_2 57 rfl) rfl ?_
              refine mx_getI (mx_d tX12_go_2 58 rfl) fX12_21 rfl (Or.inl rfl) (ly12_o g0) ?_
              refine mx_iconst (1) (mx_d tX12_go_2 59 rfl) (by decide) ?_
              refine mx_iadd (mx_d tX12_go_3 0 rfl) ?_
              obtain ⟨m44, e_m44, h⟩ := mx_letE h
              refine mx_putI (mx_d tX12_go_3 1 rfl) fX12_21 rfl ⟨_, rfl, rfl⟩ rfl (ly12_o g0) (mx_eqz (z' := (e, m44)) (by rw [e_m44]) ?_)
              refine mx_goto (tgt := 215) (mx_d tX12_go_3 2 rfl) (by decide) ?_
              refine mx_forget (L' := [.ref q0, .float 0, .int y2, .int 1, .float 0]) ⟨rfl, rfl, rfl, trivial⟩ ?_
              exact ih h hex
            · rw [if_neg hc43] at h
              refine mx_aload_n (mx_d tX12_go_2 46 rfl) rfl rfl ?_
              refine mx_bipush (10) (mx_d tX12_go_2 47 rfl) (by decide) ?_
              refine mx_aload_n (mx_d tX12_go_2 48 rfl) rfl rfl ?_
              refine mx_getI (mx_d tX12_go_2 49 rfl) fX12_47 rfl (Or.inl rfl) (ly12_o g0) ?_
              refine mx_imul (mx_d tX12_go_2 50 rfl) ?_
              refine mx_iload (mx_d tX12_go_2 51 rfl) rfl ?_
              refine mx_iadd (mx_d tX12_go_2 52 rfl) ?_
              refine mx_bipush (48) (mx_d tX12_go_2 53 rfl) (by decide) ?_
              refine mx_isub (mx_d tX12_go_2 54 rfl) ?_
              obtain ⟨m45, e_m45, h⟩ := mx_letE h
              refine mx_putI (mx_d tX12_go_2 55 rfl) fX12_47 rfl ⟨_, rfl, rfl⟩ rfl (ly12_o g0) (mx_eqz (z' := (e, m45)) (by rw [e_m45]) ?_)
              refine mx_aload_n (mx_d tX12_go_2 56 rfl) rfl rfl ?_
              refine mx_dup (mx_d tX12_go_2 57 rfl) rfl ?_
              refine mx_getI (mx_d tX12_go_2 58 rfl) fX12_21 rfl (Or.inl rfl) (ly12_o g0) ?_
              refine mx_iconst (1) (mx_d tX12_go_2 59 rfl) (by decide) ?_
              refine mx_iadd (mx_d tX12_go_3 0 rfl) ?_
              obtain ⟨m46, e_m46, h⟩ := mx_letE h
              refine mx_putI (mx_d tX12_go_3 1 rfl) fX12_21 rfl ⟨_, rfl, rfl⟩ rfl (ly12_o g0) (mx_eqz (z' := (e, m46)) (by rw [e_m46]) ?_)
              refine mx_goto (tgt := 215) (mx_d tX12_go_3 2 rfl) (by decide) ?_
              refine mx_forget (L' := [.ref q0, .float 0, .int y2, .int 1, .float 0]) ⟨rfl, rfl, rfl, trivial⟩ ?_
              exact ih h hex
          refine mx_icmp_ge (tgt := 307) (mx_d tX12_go_2 27 rfl) (by decide) (fun hc40 => ?_) (fun hc40 => ?_)
          · rw [if_pos hc40] at h
            exact j_k42 h
          · rw [if_neg hc40] at h
            refine mx_aload_n (mx_d tX12_go_2 28 rfl) rfl rfl ?_
            refine mx_ldc2 (27) (mx_d tX12_go_2 29 rfl) cX12_54 ?_
            refine mx_aload_n (mx_d tX12_go_2 30 rfl) rfl rfl ?_
            refine mx_getJ (mx_d tX12_go_2 31 rfl) fX12_43 rfl rfl (ly12_o g0) ?_
            refine mx_lmul (mx_d tX12_go_2 32 rfl) ?_
            refine mx_iload (mx_d tX12_go_2 33 rfl) rfl ?_
            refine mx_i2l (mx_d tX12_go_2 34 rfl) ?_
            refine mx_ladd (mx_d tX12_go_2 35 rfl) ?_
            refine mx_ldc2 (96) (mx_d tX12_go_2 36 rfl) cX12_56 ?_
            refine mx_lsub (mx_d tX12_go_2 37 rfl) ?_
            obtain ⟨m47, e_m47, h⟩ := mx_letE h
            refine mx_putJ (mx_d tX12_go_2 38 rfl) fX12_43 rfl ⟨_, rfl, rfl⟩ rfl (ly12_o g0) (mx_eqz (z' := (e, m47)) (by rw [e_m47]) ?_)
            exact j_k42 h
    refine mx_if_ne (tgt := 243) (mx_d tX12_go_1 58 rfl) (by decide) (fun hc24 => ?_) (fun hc24 => ?_)
    · rw [if_neg hc24] at h
      exact j_k25 h
    · rw [if_pos hc24] at h
      refine mx_aload_n (mx_d tX12_go_1 59 rfl) rfl rfl ?_
      refine mx_aload_n (mx_d tX12_go_2 0 rfl) rfl rfl ?_
      refine mx_getI (mx_d tX12_go_2 1 rfl) fX12_21 rfl (Or.inl rfl) (ly12_o g0) ?_
      obtain ⟨r48, h_r48, h⟩ := Option.bind_eq_some_iff.mp h
      refine mx_cVi (mx_d tX12_go_2 2 rfl) iX12_50 rfl vX12_tapeAt ⟨_, rfl, rfl⟩ (ly12_o g0) (CX12_tapeAt g0 h_r48) (by decide) rfl rfl (Nat.le_of_ble_eq_true rfl) ?_
      obtain ⟨r49, h_r49, h⟩ := Option.bind_eq_some_iff.mp h
      refine mx_cSi (mx_d tX12_go_2 3 rfl) iX12_37 rfl sX12_isDigit (CX12_isDigit  h_r49) (by decide) rfl rfl (Nat.le_of_ble_eq_true rfl) ?_
      refine mx_if_eq (tgt := 350) (mx_d tX12_go_2 4 rfl) (by decide) (fun hc50 => ?_) (fun hc50 => ?_)
      · rw [if_pos hc50] at h
        obtain rfl := Option.some.inj h
        exact hex
      · rw [if_neg hc50] at h
        exact j_k25 h
def FX12_go (a : Nat) (m : mB) : Option mB := Option.bind (FX12_go_L0 a mx_FU  m) (fun q7 => mx_let (mx_up q7.1 a 6 (q7.1 a 5), q7.2) (fun m8 => mx_let (fun (m10 : mB) => (if (m10.1 a 5) < (m10.1 a 3) then mx_chk (mx_inb (m10.1 a 5) 940) (mx_let (m10.1 (a + 1) (Int32.toNatClampNeg (m10.1 a 5))) (fun v14 => Option.bind (FX12_isLetter v14 m10) (fun r15 => mx_let (fun (m17 : mB) => Option.bind (FX12_isLetter v14 m17) (fun r19 => mx_let (m17.1, mx_ul m17.2 a 12 0) (fun m20 => mx_let (mx_up m20.1 a 8 0, m20.2) (fun m21 => Option.bind (FX12_go_L215 a r19 mx_FU 1 m21) (fun q51 => (if q51.1 = 0 then mx_let (mx_up q51.2.1 a 7 1, q51.2.2) (fun m53 => (some m53)) else (if r19 = 0 then (if ((q51.2.1 a 5) - (q51.2.1 a 6)) ≤ 3 then (if r19 = 0 then mx_let (mx_up q51.2.1 a 7 3, q51.2.2) (fun m57 => (some m57)) else mx_let (mx_up q51.2.1 a 7 2, q51.2.2) (fun m58 => (some m58))) else mx_let (mx_up q51.2.1 a 7 1, q51.2.2) (fun m59 => (some m59))) else (if ((q51.2.1 a 5) - (q51.2.1 a 6)) ≤ 7 then (if r19 = 0 then mx_let (mx_up q51.2.1 a 7 3, q51.2.2) (fun m62 => (some m62)) else mx_let (mx_up q51.2.1 a 7 2, q51.2.2) (fun m63 => (some m63))) else mx_let (mx_up q51.2.1 a 7 1, q51.2.2) (fun m64 => (some m64)))))))))) (fun k18 => (if r15 = 0 then Option.bind (FX12_isDigit v14 m10) (fun r65 => (if r65 = 0 then mx_let (mx_let (mx_up m10.1 a 7 4, m10.2) (fun m69 => mx_let (mx_up m69.1 a 9 v14, m69.2) (fun m70 => mx_let (mx_up m70.1 a 5 ((m70.1 a 5) + 1), m70.2) (fun m71 => (some m71))))) (fun k68 => (if v14 = 59 then k68 else (if v14 = 60 then k68 else (if v14 = 61 then k68 else (if v14 = 62 then k68 else (if v14 = 40 then k68 else (if v14 = 41 then k68 else mx_let (mx_up m10.1 a 7 1, m10.2) (fun m77 => mx_let (mx_up m77.1 a 9 v14, m77.2) (fun m78 => mx_let (mx_up m78.1 a 5 ((m78.1 a 5) + 1), m78.2) (fun m79 => (some m79))))))))))) else (k18 m10))) else (k18 m10)))))) else mx_let (mx_up m10.1 a 7 0, m10.2) (fun m80 => (some m80)))) (fun k11 => (if (m8.1 a 3) ≤ (m8.1 a 4) then (k11 m8) else (if (m8.1 a 6) < (m8.1 a 4) then (k11 m8) else mx_let (mx_up m8.1 a 6 (m8.1 a 4), m8.2) (fun m82 => mx_let (mx_up m82.1 a 7 1, m82.2) (fun m83 => (some m83))))))))
set_option maxRecDepth 20000 in
theorem CX12_go {G : mG} {l : Launch} {e : mE} {a : Nat} {m : mB} {r : mB} (h0 : ly12 e a) (h : FX12_go a m = some r) : mx_Call G l MX12_go 2 0 0 [.ref a] (e, m) (fun v z => v = none ∧ z = (e, r)) := by
  refine mx_entry (L := [.ref a, .float 0, .float 0, .float 0, .float 0]) (by decide +kernel) (Nat.le_of_ble_eq_true rfl) rfl ?_
  unfold FX12_go at h
  obtain ⟨q7, h_q7, h⟩ := Option.bind_eq_some_iff.mp h
  refine CX12_go_L0 h0 mx_FU h_q7 ?_
  refine mx_aload_n (mx_d tX12_go_0 26 rfl) rfl rfl ?_
  refine mx_aload_n (mx_d tX12_go_0 27 rfl) rfl rfl ?_
  refine mx_getI (mx_d tX12_go_0 28 rfl) fX12_21 rfl (Or.inl rfl) (ly12_o h0) ?_
  obtain ⟨m8, e_m8, h⟩ := mx_letE h
  refine mx_putI (mx_d tX12_go_0 29 rfl) fX12_24 rfl ⟨_, rfl, rfl⟩ rfl (ly12_o h0) (mx_eqz (z' := (e, m8)) (by rw [e_m8]) ?_)
  refine mx_aload_n (mx_d tX12_go_0 30 rfl) rfl rfl ?_
  refine mx_getI (mx_d tX12_go_0 31 rfl) fX12_18 rfl (Or.inl rfl) (ly12_o h0) ?_
  refine mx_aload_n (mx_d tX12_go_0 32 rfl) rfl rfl ?_
  refine mx_getI (mx_d tX12_go_0 33 rfl) fX12_27 rfl (Or.inl rfl) (ly12_o h0) ?_
  refine mx_letK (J := fun k11 => ∀ {m10 : mB}, k11 m10 = some r → mx_Fr G l MX12_go 2 0 0 (fun v z => v = none ∧ z = (e, r)) 96 [.ref a, .float 0, .float 0, .float 0, .float 0] [] (e, m10)) h ?_ (fun k11 j_k11 h => ?_)
  · intro m10 h
    dsimp only at h
    refine mx_aload_n (mx_d tX12_go_0 48 rfl) rfl rfl ?_
    refine mx_getI (mx_d tX12_go_0 49 rfl) fX12_21 rfl (Or.inl rfl) (ly12_o h0) ?_
    refine mx_aload_n (mx_d tX12_go_0 50 rfl) rfl rfl ?_
    refine mx_getI (mx_d tX12_go_0 51 rfl) fX12_18 rfl (Or.inl rfl) (ly12_o h0) ?_
    refine mx_icmp_lt (tgt := 113) (mx_d tX12_go_0 52 rfl) (by decide) (fun hc12 => ?_) (fun hc12 => ?_)
    · rw [if_pos hc12] at h
      refine mx_aload_n (mx_d tX12_go_0 57 rfl) rfl rfl ?_
      refine mx_getR (mx_d tX12_go_0 58 rfl) fX12_7 rfl rfl (ly12_o h0) (ly12_r1 h0) ?_
      refine mx_aload_n (mx_d tX12_go_0 59 rfl) rfl rfl ?_
      refine mx_getI (mx_d tX12_go_1 0 rfl) fX12_21 rfl (Or.inl rfl) (ly12_o h0) ?_
      obtain ⟨hi13, h⟩ := mx_chkE h
      refine mx_iaload (mx_d tX12_go_1 1 rfl) (ly12_s1 h0) (mx_inbE hi13) ?_
      obtain ⟨v14, e_v14, h⟩ := mx_letE h
      refine mx_istore_n (L2 := [.ref a, .int v14, .float 0, .float 0, .float 0]) (mx_d tX12_go_1 2 rfl) rfl (by decide) (by rw [e_v14]; rfl) ?_
      refine mx_iload_n (mx_d tX12_go_1 3 rfl) rfl rfl ?_
      obtain ⟨r15, h_r15, h⟩ := Option.bind_eq_some_iff.mp h
      refine mx_cSi (mx_d tX12_go_1 4 rfl) iX12_33 rfl sX12_isLetter (CX12_isLetter  h_r15) (by decide) rfl rfl (Nat.le_of_ble_eq_true rfl) ?_
      refine mx_letK (J := fun k18 => ∀ {m17 : mB}, k18 m17 = some r → mx_Fr G l MX12_go 2 0 0 (fun v z => v = none ∧ z = (e, r)) 198 [.ref a, .int v14, .float 0, .float 0, .float 0] [] (e, m17)) h ?_ (fun k18 j_k18 h => ?_)
      · intro m17 h
        dsimp only at h
        refine mx_iload_n (mx_d tX12_go_1 42 rfl) rfl rfl ?_
        obtain ⟨r19, h_r19, h⟩ := Option.bind_eq_some_iff.mp h
        refine mx_cSi (mx_d tX12_go_1 43 rfl) iX12_33 rfl sX12_isLetter (CX12_isLetter  h_r19) (by decide) rfl rfl (Nat.le_of_ble_eq_true rfl) ?_
        refine mx_istore_n (L2 := [.ref a, .int v14, .int r19, .float 0, .float 0]) (mx_d tX12_go_1 44 rfl) rfl (by decide) (by rfl) ?_
        refine mx_iconst (1) (mx_d tX12_go_1 45 rfl) (by decide) ?_
        refine mx_istore_n (L2 := [.ref a, .int v14, .int r19, .int 1, .float 0]) (mx_d tX12_go_1 46 rfl) rfl (by decide) (by rfl) ?_
        refine mx_aload_n (mx_d tX12_go_1 47 rfl) rfl rfl ?_
        refine mx_lconst (0) (mx_d tX12_go_1 48 rfl) (by decide) ?_
        obtain ⟨m20, e_m20, h⟩ := mx_letE h
        refine mx_putJ (mx_d tX12_go_1 49 rfl) fX12_43 rfl ⟨_, rfl, rfl⟩ rfl (ly12_o h0) (mx_eqz (z' := (e, m20)) (by rw [e_m20]) ?_)
        refine mx_aload_n (mx_d tX12_go_1 50 rfl) rfl rfl ?_
        refine mx_iconst (0) (mx_d tX12_go_1 51 rfl) (by decide) ?_
        obtain ⟨m21, e_m21, h⟩ := mx_letE h
        refine mx_putI (mx_d tX12_go_1 52 rfl) fX12_47 rfl ⟨_, rfl, rfl⟩ rfl (ly12_o h0) (mx_eqz (z' := (e, m21)) (by rw [e_m21]) ?_)
        obtain ⟨q51, h_q51, h⟩ := Option.bind_eq_some_iff.mp h
        refine mx_forget (L' := [.ref a, .float 0, .int r19, .int 1, .float 0]) ⟨rfl, rfl, rfl, trivial⟩ ?_
        refine CX12_go_L215 h0 mx_FU h_q51 ?_
        refine mx_aload_n (mx_d tX12_go_3 3 rfl) rfl rfl ?_
        refine mx_iload_n (mx_d tX12_go_3 4 rfl) rfl rfl ?_
        refine mx_if_eq (tgt := 377) (mx_d tX12_go_3 5 rfl) (by decide) (fun hc52 => ?_) (fun hc52 => ?_)
        · rw [if_pos hc52] at h
          refine mx_iconst (1) (mx_d tX12_go_3 17 rfl) (by decide) ?_
          refine mx_goto (tgt := 390) (mx_d tX12_go_3 18 rfl) (by decide) ?_
          obtain ⟨m53, e_m53, h⟩ := mx_letE h
          refine mx_putI (mx_d tX12_go_3 24 rfl) fX12_30 rfl ⟨_, rfl, rfl⟩ rfl (ly12_o h0) (mx_eqz (z' := (e, m53)) (by rw [e_m53]) ?_)
          obtain rfl := Option.some.inj h
          exact mx_return (mx_d tX12_go_3 25 rfl) rfl ⟨rfl, rfl⟩
        · rw [if_neg hc52] at h
          refine mx_aload_n (mx_d tX12_go_3 6 rfl) rfl rfl ?_
          refine mx_getI (mx_d tX12_go_3 7 rfl) fX12_21 rfl (Or.inl rfl) (ly12_o h0) ?_
          refine mx_aload_n (mx_d tX12_go_3 8 rfl) rfl rfl ?_
          refine mx_getI (mx_d tX12_go_3 9 rfl) fX12_24 rfl (Or.inl rfl) (ly12_o h0) ?_
          refine mx_isub (mx_d tX12_go_3 10 rfl) ?_
          refine mx_iload_n (mx_d tX12_go_3 11 rfl) rfl rfl ?_
          refine mx_if_eq (tgt := 373) (mx_d tX12_go_3 12 rfl) (by decide) (fun hc54 => ?_) (fun hc54 => ?_)
          · rw [if_pos hc54] at h
            refine mx_iconst (3) (mx_d tX12_go_3 15 rfl) (by decide) ?_
            refine mx_icmp_le (tgt := 381) (mx_d tX12_go_3 16 rfl) (by decide) (fun hc55 => ?_) (fun hc55 => ?_)
            · rw [if_pos hc55] at h
              refine mx_iload_n (mx_d tX12_go_3 19 rfl) rfl rfl ?_
              refine mx_if_eq (tgt := 389) (mx_d tX12_go_3 20 rfl) (by decide) (fun hc56 => ?_) (fun hc56 => ?_)
              · rw [if_pos hc56] at h
                refine mx_iconst (3) (mx_d tX12_go_3 23 rfl) (by decide) ?_
                obtain ⟨m57, e_m57, h⟩ := mx_letE h
                refine mx_putI (mx_d tX12_go_3 24 rfl) fX12_30 rfl ⟨_, rfl, rfl⟩ rfl (ly12_o h0) (mx_eqz (z' := (e, m57)) (by rw [e_m57]) ?_)
                obtain rfl := Option.some.inj h
                exact mx_return (mx_d tX12_go_3 25 rfl) rfl ⟨rfl, rfl⟩
              · rw [if_neg hc56] at h
                refine mx_iconst (2) (mx_d tX12_go_3 21 rfl) (by decide) ?_
                refine mx_goto (tgt := 390) (mx_d tX12_go_3 22 rfl) (by decide) ?_
                obtain ⟨m58, e_m58, h⟩ := mx_letE h
                refine mx_putI (mx_d tX12_go_3 24 rfl) fX12_30 rfl ⟨_, rfl, rfl⟩ rfl (ly12_o h0) (mx_eqz (z' := (e, m58)) (by rw [e_m58]) ?_)
                obtain rfl := Option.some.inj h
                exact mx_return (mx_d tX12_go_3 25 rfl) rfl ⟨rfl, rfl⟩
            · rw [if_neg hc55] at h
              refine mx_iconst (1) (mx_d tX12_go_3 17 rfl) (by decide) ?_
              refine mx_goto (tgt := 390) (mx_d tX12_go_3 18 rfl) (by decide) ?_
              obtain ⟨m59, e_m59, h⟩ := mx_letE h
              refine mx_putI (mx_d tX12_go_3 24 rfl) fX12_30 rfl ⟨_, rfl, rfl⟩ rfl (ly12_o h0) (mx_eqz (z' := (e, m59)) (by rw [e_m59]) ?_)
              obtain rfl := Option.some.inj h
              exact mx_return (mx_d tX12_go_3 25 rfl) rfl ⟨rfl, rfl⟩
          · rw [if_neg hc54] at h
            refine mx_bipush (7) (mx_d tX12_go_3 13 rfl) (by decide) ?_
            refine mx_goto (tgt := 374) (mx_d tX12_go_3 14 rfl) (by decide) ?_
            refine mx_icmp_le (tgt := 381) (mx_d tX12_go_3 16 rfl) (by decide) (fun hc60 => ?_) (fun hc60 => ?_)
            · rw [if_pos hc60] at h
              refine mx_iload_n (mx_d tX12_go_3 19 rfl) rfl rfl ?_
              refine mx_if_eq (tgt := 389) (mx_d tX12_go_3 20 rfl) (by decide) (fun hc61 => ?_) (fun hc61 => ?_)
              · rw [if_pos hc61] at h
                refine mx_iconst (3) (mx_d tX12_go_3 23 rfl) (by decide) ?_
                obtain ⟨m62, e_m62, h⟩ := mx_letE h
                refine mx_putI (mx_d tX12_go_3 24 rfl) fX12_30 rfl ⟨_, rfl, rfl⟩ rfl (ly12_o h0) (mx_eqz (z' := (e, m62)) (by rw [e_m62]) ?_)
                obtain rfl := Option.some.inj h
                exact mx_return (mx_d tX12_go_3 25 rfl) rfl ⟨rfl, rfl⟩
              · rw [if_neg hc61] at h
                refine mx_iconst (2) (mx_d tX12_go_3 21 rfl) (by decide) ?_
                refine mx_goto (tgt := 390) (mx_d tX12_go_3 22 rfl) (by decide) ?_
                obtain ⟨m63, e_m63, h⟩ := mx_letE h
                refine mx_putI (mx_d tX12_go_3 24 rfl) fX12_30 rfl ⟨_, rfl, rfl⟩ rfl (ly12_o h0) (mx_eqz (z' := (e, m63)) (by rw [e_m63]) ?_)
                obtain rfl := Option.some.inj h
                exact mx_return (mx_d tX12_go_3 25 rfl) rfl ⟨rfl, rfl⟩
            · rw [if_neg hc60] at h
              refine mx_iconst (1) (mx_d tX12_go_3 17 rfl) (by decide) ?_
              refine mx_goto (tgt := 390) (mx_d tX12_go_3 18 rfl) (by decide) ?_
              obtain ⟨m64, e_m64, h⟩ := mx_letE h
              refine mx_putI (mx_d tX12_go_3 24 rfl) fX12_30 rfl ⟨_, rfl, rfl⟩ rfl (ly12_o h0) (mx_eqz (z' := (e, m64)) (by rw [e_m64]) ?_)
              obtain rfl := Option.some.inj h
              exact mx_return (mx_d tX12_go_3 25 rfl) rfl ⟨rfl, rfl⟩
      refine mx_if_ne (tgt := 198) (mx_d tX12_go_1 5 rfl) (by decide) (fun hc16 => ?_) (fun hc16 => ?_)
      · rw [if_neg hc16] at h
        exact j_k18 h
      · rw [if_pos hc16] at h
        refine mx_iload_n (mx_d tX12_go_1 6 rfl) rfl rfl ?_
        obtain ⟨r65, h_r65, h⟩ := Option.bind_eq_some_iff.mp h
        refine mx_cSi (mx_d tX12_go_1 7 rfl) iX12_37 rfl sX12_isDigit (CX12_isDigit  h_r65) (by decide) rfl rfl (Nat.le_of_ble_eq_true rfl) ?_
        refine mx_if_ne (tgt := 198) (mx_d tX12_go_1 8 rfl) (by decide) (fun hc66 => ?_) (fun hc66 => ?_)
        · rw [if_neg hc66] at h
          exact j_k18 h
        · rw [if_pos hc66] at h
          refine mx_aload_n (mx_d tX12_go_1 9 rfl) rfl rfl ?_
          refine mx_iload_n (mx_d tX12_go_1 10 rfl) rfl rfl ?_
          refine mx_bipush (59) (mx_d tX12_go_1 11 rfl) (by decide) ?_
          refine mx_letK (J := fun k68 => k68 = some r → mx_Fr G l MX12_go 2 0 0 (fun v z => v = none ∧ z = (e, r)) 174 [.ref a, .int v14, .float 0, .float 0, .float 0] [.ref a] (e, m10)) h ?_ (fun k68 j_k68 h => ?_)
          · intro h
            refine mx_iconst (4) (mx_d tX12_go_1 28 rfl) (by decide) ?_
            refine mx_goto (tgt := 179) (mx_d tX12_go_1 29 rfl) (by decide) ?_
            obtain ⟨m69, e_m69, h⟩ := mx_letE h
            refine mx_putI (mx_d tX12_go_1 31 rfl) fX12_30 rfl ⟨_, rfl, rfl⟩ rfl (ly12_o h0) (mx_eqz (z' := (e, m69)) (by rw [e_m69]) ?_)
            refine mx_aload_n (mx_d tX12_go_1 32 rfl) rfl rfl ?_
            refine mx_iload_n (mx_d tX12_go_1 33 rfl) rfl rfl ?_
            obtain ⟨m70, e_m70, h⟩ := mx_letE h
            refine mx_putI (mx_d tX12_go_1 34 rfl) fX12_40 rfl ⟨_, rfl, rfl⟩ rfl (ly12_o h0) (mx_eqz (z' := (e, m70)) (by rw [e_m70]) ?_)
            refine mx_aload_n (mx_d tX12_go_1 35 rfl) rfl rfl ?_
            refine mx_dup (mx_d tX12_go_1 36 rfl) rfl ?_
            refine mx_getI (mx_d tX12_go_1 37 rfl) fX12_21 rfl (Or.inl rfl) (ly12_o h0) ?_
            refine mx_iconst (1) (mx_d tX12_go_1 38 rfl) (by decide) ?_
            refine mx_iadd (mx_d tX12_go_1 39 rfl) ?_
            obtain ⟨m71, e_m71, h⟩ := mx_letE h
            refine mx_putI (mx_d tX12_go_1 40 rfl) fX12_21 rfl ⟨_, rfl, rfl⟩ rfl (ly12_o h0) (mx_eqz (z' := (e, m71)) (by rw [e_m71]) ?_)
            obtain rfl := Option.some.inj h
            exact mx_return (mx_d tX12_go_1 41 rfl) rfl ⟨rfl, rfl⟩
          refine mx_icmp_eq (tgt := 174) (mx_d tX12_go_1 12 rfl) (by decide) (fun hc67 => ?_) (fun hc67 => ?_)
          · rw [if_pos hc67] at h
            exact j_k68 h
          · rw [if_neg hc67] at h
            refine mx_iload_n (mx_d tX12_go_1 13 rfl) rfl rfl ?_
            refine mx_bipush (60) (mx_d tX12_go_1 14 rfl) (by decide) ?_
            refine mx_icmp_eq (tgt := 174) (mx_d tX12_go_1 15 rfl) (by decide) (fun hc72 => ?_) (fun hc72 => ?_)
            · rw [if_pos hc72] at h
              exact j_k68 h
            · rw [if_neg hc72] at h
              refine mx_iload_n (mx_d tX12_go_1 16 rfl) rfl rfl ?_
              refine mx_bipush (61) (mx_d tX12_go_1 17 rfl) (by decide) ?_
              refine mx_icmp_eq (tgt := 174) (mx_d tX12_go_1 18 rfl) (by decide) (fun hc73 => ?_) (fun hc73 => ?_)
              · rw [if_pos hc73] at h
                exact j_k68 h
              · rw [if_neg hc73] at h
                refine mx_iload_n (mx_d tX12_go_1 19 rfl) rfl rfl ?_
                refine mx_bipush (62) (mx_d tX12_go_1 20 rfl) (by decide) ?_
                refine mx_icmp_eq (tgt := 174) (mx_d tX12_go_1 21 rfl) (by decide) (fun hc74 => ?_) (fun hc74 => ?_)
                · rw [if_pos hc74] at h
                  exact j_k68 h
                · rw [if_neg hc74] at h
                  refine mx_iload_n (mx_d tX12_go_1 22 rfl) rfl rfl ?_
                  refine mx_bipush (40) (mx_d tX12_go_1 23 rfl) (by decide) ?_
                  refine mx_icmp_eq (tgt := 174) (mx_d tX12_go_1 24 rfl) (by decide) (fun hc75 => ?_) (fun hc75 => ?_)
                  · rw [if_pos hc75] at h
                    exact j_k68 h
                  · rw [if_neg hc75] at h
                    refine mx_iload_n (mx_d tX12_go_1 25 rfl) rfl rfl ?_
                    refine mx_bipush (41) (mx_d tX12_go_1 26 rfl) (by decide) ?_
                    refine mx_icmp_ne (tgt := 178) (mx_d tX12_go_1 27 rfl) (by decide) (fun hc76 => ?_) (fun hc76 => ?_)
                    · rw [if_neg hc76] at h
                      refine mx_iconst (1) (mx_d tX12_go_1 30 rfl) (by decide) ?_
                      obtain ⟨m77, e_m77, h⟩ := mx_letE h
                      refine mx_putI (mx_d tX12_go_1 31 rfl) fX12_30 rfl ⟨_, rfl, rfl⟩ rfl (ly12_o h0) (mx_eqz (z' := (e, m77)) (by rw [e_m77]) ?_)
                      refine mx_aload_n (mx_d tX12_go_1 32 rfl) rfl rfl ?_
                      refine mx_iload_n (mx_d tX12_go_1 33 rfl) rfl rfl ?_
                      obtain ⟨m78, e_m78, h⟩ := mx_letE h
                      refine mx_putI (mx_d tX12_go_1 34 rfl) fX12_40 rfl ⟨_, rfl, rfl⟩ rfl (ly12_o h0) (mx_eqz (z' := (e, m78)) (by rw [e_m78]) ?_)
                      refine mx_aload_n (mx_d tX12_go_1 35 rfl) rfl rfl ?_
                      refine mx_dup (mx_d tX12_go_1 36 rfl) rfl ?_
                      refine mx_getI (mx_d tX12_go_1 37 rfl) fX12_21 rfl (Or.inl rfl) (ly12_o h0) ?_
                      refine mx_iconst (1) (mx_d tX12_go_1 38 rfl) (by decide) ?_
                      refine mx_iadd (mx_d tX12_go_1 39 rfl) ?_
                      obtain ⟨m79, e_m79, h⟩ := mx_letE h
                      refine mx_putI (mx_d tX12_go_1 40 rfl) fX12_21 rfl ⟨_, rfl, rfl⟩ rfl (ly12_o h0) (mx_eqz (z' := (e, m79)) (by rw [e_m79]) ?_)
                      obtain rfl := Option.some.inj h
                      exact mx_return (mx_d tX12_go_1 41 rfl) rfl ⟨rfl, rfl⟩
                    · rw [if_pos hc76] at h
                      exact j_k68 h
    · rw [if_neg hc12] at h
      refine mx_aload_n (mx_d tX12_go_0 53 rfl) rfl rfl ?_
      refine mx_iconst (0) (mx_d tX12_go_0 54 rfl) (by decide) ?_
      obtain ⟨m80, e_m80, h⟩ := mx_letE h
      refine mx_putI (mx_d tX12_go_0 55 rfl) fX12_30 rfl ⟨_, rfl, rfl⟩ rfl (ly12_o h0) (mx_eqz (z' := (e, m80)) (by rw [e_m80]) ?_)
      obtain rfl := Option.some.inj h
      exact mx_return (mx_d tX12_go_0 56 rfl) rfl ⟨rfl, rfl⟩
  refine mx_icmp_le (tgt := 96) (mx_d tX12_go_0 34 rfl) (by decide) (fun hc9 => ?_) (fun hc9 => ?_)
  · rw [if_pos hc9] at h
    exact j_k11 h
  · rw [if_neg hc9] at h
    refine mx_aload_n (mx_d tX12_go_0 35 rfl) rfl rfl ?_
    refine mx_getI (mx_d tX12_go_0 36 rfl) fX12_24 rfl (Or.inl rfl) (ly12_o h0) ?_
    refine mx_aload_n (mx_d tX12_go_0 37 rfl) rfl rfl ?_
    refine mx_getI (mx_d tX12_go_0 38 rfl) fX12_27 rfl (Or.inl rfl) (ly12_o h0) ?_
    refine mx_icmp_lt (tgt := 96) (mx_d tX12_go_0 39 rfl) (by decide) (fun hc81 => ?_) (fun hc81 => ?_)
    · rw [if_pos hc81] at h
      exact j_k11 h
    · rw [if_neg hc81] at h
      refine mx_aload_n (mx_d tX12_go_0 40 rfl) rfl rfl ?_
      refine mx_aload_n (mx_d tX12_go_0 41 rfl) rfl rfl ?_
      refine mx_getI (mx_d tX12_go_0 42 rfl) fX12_27 rfl (Or.inl rfl) (ly12_o h0) ?_
      obtain ⟨m82, e_m82, h⟩ := mx_letE h
      refine mx_putI (mx_d tX12_go_0 43 rfl) fX12_24 rfl ⟨_, rfl, rfl⟩ rfl (ly12_o h0) (mx_eqz (z' := (e, m82)) (by rw [e_m82]) ?_)
      refine mx_aload_n (mx_d tX12_go_0 44 rfl) rfl rfl ?_
      refine mx_iconst (1) (mx_d tX12_go_0 45 rfl) (by decide) ?_
      obtain ⟨m83, e_m83, h⟩ := mx_letE h
      refine mx_putI (mx_d tX12_go_0 46 rfl) fX12_30 rfl ⟨_, rfl, rfl⟩ rfl (ly12_o h0) (mx_eqz (z' := (e, m83)) (by rw [e_m83]) ?_)
      obtain rfl := Option.some.inj h
      exact mx_return (mx_d tX12_go_0 47 rfl) rfl ⟨rfl, rfl⟩
def FX12_spelt (x0 : Int32) (x1 : Int32) (x2 : Int32) (x3 : Int32) (x4 : Int32) (x5 : Int32) (m : mB) : Option Int64 := mx_let (((27 * ((Int32.toInt64 x0) - 96)) + (Int32.toInt64 x1)) - 96) (fun v1 => mx_let (fun (y3 : Int64) => mx_let (fun (y6 : Int64) => mx_let (fun (y9 : Int64) => (if x5 ≤ 0 then (some y9) else mx_let (((27 * y9) + (Int32.toInt64 x5)) - 96) (fun v12 => (some v12)))) (fun k10 => (if x4 ≤ 0 then (k10 y6) else mx_let (((27 * y6) + (Int32.toInt64 x4)) - 96) (fun v13 => (k10 v13))))) (fun k7 => (if x3 ≤ 0 then (k7 y3) else mx_let (((27 * y3) + (Int32.toInt64 x3)) - 96) (fun v14 => (k7 v14))))) (fun k4 => (if x2 ≤ 0 then (k4 v1) else mx_let (((27 * v1) + (Int32.toInt64 x2)) - 96) (fun v15 => (k4 v15)))))
set_option maxRecDepth 20000 in
theorem CX12_spelt {G : mG} {l : Launch} {e : mE} {x0 : Int32} {x1 : Int32} {x2 : Int32} {x3 : Int32} {x4 : Int32} {x5 : Int32} {m : mB} {r : Int64}  (h : FX12_spelt x0 x1 x2 x3 x4 x5 m = some r) : mx_Call G l MX12_spelt 1 0 0 [.int x0, .int x1, .int x2, .int x3, .int x4, .int x5] (e, m) (fun v z => v = some (.long r) ∧ z = (e, m)) := by
  refine mx_entry (L := [.int x0, .int x1, .int x2, .int x3, .int x4, .int x5, .float 0, .float 0]) (by decide +kernel) (Nat.le_of_ble_eq_true rfl) rfl ?_
  unfold FX12_spelt at h
  refine mx_ldc2 (27) (mx_d tX12_spelt_0 0 rfl) cX12_54 ?_
  refine mx_iload_n (mx_d tX12_spelt_0 1 rfl) rfl rfl ?_
  refine mx_i2l (mx_d tX12_spelt_0 2 rfl) ?_
  refine mx_ldc2 (96) (mx_d tX12_spelt_0 3 rfl) cX12_56 ?_
  refine mx_lsub (mx_d tX12_spelt_0 4 rfl) ?_
  refine mx_lmul (mx_d tX12_spelt_0 5 rfl) ?_
  refine mx_iload_n (mx_d tX12_spelt_0 6 rfl) rfl rfl ?_
  refine mx_i2l (mx_d tX12_spelt_0 7 rfl) ?_
  refine mx_ladd (mx_d tX12_spelt_0 8 rfl) ?_
  refine mx_ldc2 (96) (mx_d tX12_spelt_0 9 rfl) cX12_56 ?_
  refine mx_lsub (mx_d tX12_spelt_0 10 rfl) ?_
  obtain ⟨v1, e_v1, h⟩ := mx_letE h
  refine mx_lstore (L2 := [.int x0, .int x1, .int x2, .int x3, .int x4, .int x5, .long v1, .float 0]) (mx_d tX12_spelt_0 11 rfl) (by decide) (by rw [e_v1]; rfl) ?_
  refine mx_iload_n (mx_d tX12_spelt_0 12 rfl) rfl rfl ?_
  refine mx_letK (J := fun k4 => ∀ {y3 : Int64}, k4 y3 = some r → mx_Fr G l MX12_spelt 1 0 0 (fun v z => v = some (.long r) ∧ z = (e, m)) 38 [.float 0, .float 0, .float 0, .int x3, .int x4, .int x5, .long y3, .float 0] [] (e, m)) h ?_ (fun k4 j_k4 h => ?_)
  · intro y3 h
    dsimp only at h
    refine mx_iload_n (mx_d tX12_spelt_0 23 rfl) rfl rfl ?_
    refine mx_letK (J := fun k7 => ∀ {y6 : Int64}, k7 y6 = some r → mx_Fr G l MX12_spelt 1 0 0 (fun v z => v = some (.long r) ∧ z = (e, m)) 57 [.float 0, .float 0, .float 0, .float 0, .int x4, .int x5, .long y6, .float 0] [] (e, m)) h ?_ (fun k7 j_k7 h => ?_)
    · intro y6 h
      dsimp only at h
      refine mx_iload (mx_d tX12_spelt_0 34 rfl) rfl ?_
      refine mx_letK (J := fun k10 => ∀ {y9 : Int64}, k10 y9 = some r → mx_Fr G l MX12_spelt 1 0 0 (fun v z => v = some (.long r) ∧ z = (e, m)) 78 [.float 0, .float 0, .float 0, .float 0, .float 0, .int x5, .long y9, .float 0] [] (e, m)) h ?_ (fun k10 j_k10 h => ?_)
      · intro y9 h
        dsimp only at h
        refine mx_iload (mx_d tX12_spelt_0 45 rfl) rfl ?_
        refine mx_if_le (tgt := 99) (mx_d tX12_spelt_0 46 rfl) (by decide) (fun hc11 => ?_) (fun hc11 => ?_)
        · rw [if_pos hc11] at h
          refine mx_lload (mx_d tX12_spelt_0 56 rfl) rfl ?_
          obtain rfl := Option.some.inj h
          exact mx_lreturn (mx_d tX12_spelt_0 57 rfl) rfl ⟨rfl, rfl⟩
        · rw [if_neg hc11] at h
          refine mx_ldc2 (27) (mx_d tX12_spelt_0 47 rfl) cX12_54 ?_
          refine mx_lload (mx_d tX12_spelt_0 48 rfl) rfl ?_
          refine mx_lmul (mx_d tX12_spelt_0 49 rfl) ?_
          refine mx_iload (mx_d tX12_spelt_0 50 rfl) rfl ?_
          refine mx_i2l (mx_d tX12_spelt_0 51 rfl) ?_
          refine mx_ladd (mx_d tX12_spelt_0 52 rfl) ?_
          refine mx_ldc2 (96) (mx_d tX12_spelt_0 53 rfl) cX12_56 ?_
          refine mx_lsub (mx_d tX12_spelt_0 54 rfl) ?_
          obtain ⟨v12, e_v12, h⟩ := mx_letE h
          refine mx_lstore (L2 := [.float 0, .float 0, .float 0, .float 0, .float 0, .int x5, .long v12, .float 0]) (mx_d tX12_spelt_0 55 rfl) (by decide) (by rw [e_v12]; rfl) ?_
          refine mx_lload (mx_d tX12_spelt_0 56 rfl) rfl ?_
          obtain rfl := Option.some.inj h
          exact mx_lreturn (mx_d tX12_spelt_0 57 rfl) rfl ⟨rfl, rfl⟩
      refine mx_if_le (tgt := 78) (mx_d tX12_spelt_0 35 rfl) (by decide) (fun hc8 => ?_) (fun hc8 => ?_)
      · rw [if_pos hc8] at h
        refine mx_forget (L' := [.float 0, .float 0, .float 0, .float 0, .float 0, .int x5, .long y6, .float 0]) ⟨rfl, rfl, trivial⟩ ?_
        exact j_k10 h
      · rw [if_neg hc8] at h
        refine mx_ldc2 (27) (mx_d tX12_spelt_0 36 rfl) cX12_54 ?_
        refine mx_lload (mx_d tX12_spelt_0 37 rfl) rfl ?_
        refine mx_lmul (mx_d tX12_spelt_0 38 rfl) ?_
        refine mx_iload (mx_d tX12_spelt_0 39 rfl) rfl ?_
        refine mx_i2l (mx_d tX12_spelt_0 40 rfl) ?_
        refine mx_ladd (mx_d tX12_spelt_0 41 rfl) ?_
        refine mx_ldc2 (96) (mx_d tX12_spelt_0 42 rfl) cX12_56 ?_
        refine mx_lsub (mx_d tX12_spelt_0 43 rfl) ?_
        obtain ⟨v13, e_v13, h⟩ := mx_letE h
        refine mx_lstore (L2 := [.float 0, .float 0, .float 0, .float 0, .int x4, .int x5, .long v13, .float 0]) (mx_d tX12_spelt_0 44 rfl) (by decide) (by rw [e_v13]; rfl) ?_
        refine mx_forget (L' := [.float 0, .float 0, .float 0, .float 0, .float 0, .int x5, .long v13, .float 0]) ⟨rfl, rfl, trivial⟩ ?_
        exact j_k10 h
    refine mx_if_le (tgt := 57) (mx_d tX12_spelt_0 24 rfl) (by decide) (fun hc5 => ?_) (fun hc5 => ?_)
    · rw [if_pos hc5] at h
      refine mx_forget (L' := [.float 0, .float 0, .float 0, .float 0, .int x4, .int x5, .long y3, .float 0]) ⟨rfl, rfl, rfl, trivial⟩ ?_
      exact j_k7 h
    · rw [if_neg hc5] at h
      refine mx_ldc2 (27) (mx_d tX12_spelt_0 25 rfl) cX12_54 ?_
      refine mx_lload (mx_d tX12_spelt_0 26 rfl) rfl ?_
      refine mx_lmul (mx_d tX12_spelt_0 27 rfl) ?_
      refine mx_iload_n (mx_d tX12_spelt_0 28 rfl) rfl rfl ?_
      refine mx_i2l (mx_d tX12_spelt_0 29 rfl) ?_
      refine mx_ladd (mx_d tX12_spelt_0 30 rfl) ?_
      refine mx_ldc2 (96) (mx_d tX12_spelt_0 31 rfl) cX12_56 ?_
      refine mx_lsub (mx_d tX12_spelt_0 32 rfl) ?_
      obtain ⟨v14, e_v14, h⟩ := mx_letE h
      refine mx_lstore (L2 := [.float 0, .float 0, .float 0, .int x3, .int x4, .int x5, .long v14, .float 0]) (mx_d tX12_spelt_0 33 rfl) (by decide) (by rw [e_v14]; rfl) ?_
      refine mx_forget (L' := [.float 0, .float 0, .float 0, .float 0, .int x4, .int x5, .long v14, .float 0]) ⟨rfl, rfl, rfl, trivial⟩ ?_
      exact j_k7 h
  refine mx_if_le (tgt := 38) (mx_d tX12_spelt_0 13 rfl) (by decide) (fun hc2 => ?_) (fun hc2 => ?_)
  · rw [if_pos hc2] at h
    refine mx_forget (L' := [.float 0, .float 0, .float 0, .int x3, .int x4, .int x5, .long v1, .float 0]) ⟨rfl, rfl, rfl, rfl, trivial⟩ ?_
    exact j_k4 h
  · rw [if_neg hc2] at h
    refine mx_ldc2 (27) (mx_d tX12_spelt_0 14 rfl) cX12_54 ?_
    refine mx_lload (mx_d tX12_spelt_0 15 rfl) rfl ?_
    refine mx_lmul (mx_d tX12_spelt_0 16 rfl) ?_
    refine mx_iload_n (mx_d tX12_spelt_0 17 rfl) rfl rfl ?_
    refine mx_i2l (mx_d tX12_spelt_0 18 rfl) ?_
    refine mx_ladd (mx_d tX12_spelt_0 19 rfl) ?_
    refine mx_ldc2 (96) (mx_d tX12_spelt_0 20 rfl) cX12_56 ?_
    refine mx_lsub (mx_d tX12_spelt_0 21 rfl) ?_
    obtain ⟨v15, e_v15, h⟩ := mx_letE h
    refine mx_lstore (L2 := [.int x0, .int x1, .int x2, .int x3, .int x4, .int x5, .long v15, .float 0]) (mx_d tX12_spelt_0 22 rfl) (by decide) (by rw [e_v15]; rfl) ?_
    refine mx_forget (L' := [.float 0, .float 0, .float 0, .int x3, .int x4, .int x5, .long v15, .float 0]) ⟨rfl, rfl, rfl, rfl, trivial⟩ ?_
    exact j_k4 h
def FX12_wordOf (x0 : Int32) (m : mB) : Option Int64 := (if x0 = 0 then Option.bind (FX12_spelt 112 111 105 110 116 0 m) (fun r2 => (some r2)) else if x0 = 1 then Option.bind (FX12_spelt 108 105 110 107 0 0 m) (fun r4 => (some r4)) else if x0 = 2 then Option.bind (FX12_spelt 111 100 100 0 0 0 m) (fun r6 => (some r6)) else if x0 = 3 then Option.bind (FX12_spelt 112 97 105 114 0 0 m) (fun r8 => (some r8)) else if x0 = 4 then Option.bind (FX12_spelt 112 97 114 116 0 0 m) (fun r10 => (some r10)) else if x0 = 5 then Option.bind (FX12_spelt 119 101 105 103 104 0 m) (fun r12 => (some r12)) else if x0 = 6 then Option.bind (FX12_spelt 112 114 105 99 101 0 m) (fun r14 => (some r14)) else if x0 = 7 then Option.bind (FX12_spelt 99 114 111 119 110 0 m) (fun r16 => (some r16)) else if x0 = 8 then Option.bind (FX12_spelt 111 112 101 110 0 0 m) (fun r18 => (some r18)) else if x0 = 9 then Option.bind (FX12_spelt 103 114 111 119 0 0 m) (fun r20 => (some r20)) else if x0 = 10 then Option.bind (FX12_spelt 111 114 0 0 0 0 m) (fun r22 => (some r22)) else if x0 = 11 then Option.bind (FX12_spelt 97 110 100 0 0 0 m) (fun r24 => (some r24)) else if x0 = 12 then Option.bind (FX12_spelt 110 111 116 0 0 0 m) (fun r26 => (some r26)) else if x0 = 13 then Option.bind (FX12_spelt 108 111 110 101 0 0 m) (fun r28 => (some r28)) else if x0 = 14 then Option.bind (FX12_spelt 116 105 103 104 116 0 m) (fun r30 => (some r30)) else if x0 = 15 then Option.bind (FX12_spelt 119 105 116 104 0 0 m) (fun r32 => (some r32)) else if x0 = 16 then Option.bind (FX12_spelt 108 105 110 107 101 100 m) (fun r34 => (some r34)) else if x0 = 17 then Option.bind (FX12_spelt 105 110 0 0 0 0 m) (fun r36 => (some r36)) else if x0 = 18 then Option.bind (FX12_spelt 112 114 105 99 101 100 m) (fun r38 => (some r38)) else if x0 = 19 then Option.bind (FX12_spelt 108 105 110 107 115 0 m) (fun r40 => (some r40)) else if x0 = 20 then Option.bind (FX12_spelt 119 101 105 103 104 116 m) (fun r42 => (some r42)) else Option.bind (FX12_spelt 110 117 109 98 101 114 m) (fun r43 => (some r43)))
set_option maxRecDepth 20000 in
theorem CX12_wordOf {G : mG} {l : Launch} {e : mE} {x0 : Int32} {m : mB} {r : Int64}  (h : FX12_wordOf x0 m = some r) : mx_Call G l MX12_wordOf 2 0 0 [.int x0] (e, m) (fun v z => v = some (.long r) ∧ z = (e, m)) := by
  refine mx_entry (L := [.int x0]) (by decide +kernel) (Nat.le_of_ble_eq_true rfl) rfl ?_
  unfold FX12_wordOf at h
  refine mx_iload_n (mx_d tX12_wordOf_0 0 rfl) rfl rfl ?_
  by_cases hc1 : x0 = 0
  · rw [if_pos hc1] at h
    refine mx_tableIn (tgt := 100) (mx_d tX12_wordOf_0 1 rfl) (by rw [hc1]; decide) (by rw [hc1]; decide) (by rw [hc1]; rfl) (by decide) ?_
    refine mx_bipush (112) (mx_d tX12_wordOf_0 2 rfl) (by decide) ?_
    refine mx_bipush (111) (mx_d tX12_wordOf_0 3 rfl) (by decide) ?_
    refine mx_bipush (105) (mx_d tX12_wordOf_0 4 rfl) (by decide) ?_
    refine mx_bipush (110) (mx_d tX12_wordOf_0 5 rfl) (by decide) ?_
    refine mx_bipush (116) (mx_d tX12_wordOf_0 6 rfl) (by decide) ?_
    refine mx_iconst (0) (mx_d tX12_wordOf_0 7 rfl) (by decide) ?_
    obtain ⟨r2, h_r2, h⟩ := Option.bind_eq_some_iff.mp h
    refine mx_cSj (mx_d tX12_wordOf_0 8 rfl) iX12_58 rfl sX12_spelt (CX12_spelt  h_r2) (by decide) rfl rfl (Nat.le_of_ble_eq_true rfl) ?_
    obtain rfl := Option.some.inj h
    exact mx_lreturn (mx_d tX12_wordOf_0 9 rfl) rfl ⟨rfl, rfl⟩
  · rw [if_neg hc1] at h
    by_cases hc3 : x0 = 1
    · rw [if_pos hc3] at h
      refine mx_tableIn (tgt := 115) (mx_d tX12_wordOf_0 1 rfl) (by rw [hc3]; decide) (by rw [hc3]; decide) (by rw [hc3]; rfl) (by decide) ?_
      refine mx_bipush (108) (mx_d tX12_wordOf_0 10 rfl) (by decide) ?_
      refine mx_bipush (105) (mx_d tX12_wordOf_0 11 rfl) (by decide) ?_
      refine mx_bipush (110) (mx_d tX12_wordOf_0 12 rfl) (by decide) ?_
      refine mx_bipush (107) (mx_d tX12_wordOf_0 13 rfl) (by decide) ?_
      refine mx_iconst (0) (mx_d tX12_wordOf_0 14 rfl) (by decide) ?_
      refine mx_iconst (0) (mx_d tX12_wordOf_0 15 rfl) (by decide) ?_
      obtain ⟨r4, h_r4, h⟩ := Option.bind_eq_some_iff.mp h
      refine mx_cSj (mx_d tX12_wordOf_0 16 rfl) iX12_58 rfl sX12_spelt (CX12_spelt  h_r4) (by decide) rfl rfl (Nat.le_of_ble_eq_true rfl) ?_
      obtain rfl := Option.some.inj h
      exact mx_lreturn (mx_d tX12_wordOf_0 17 rfl) rfl ⟨rfl, rfl⟩
    · rw [if_neg hc3] at h
      by_cases hc5 : x0 = 2
      · rw [if_pos hc5] at h
        refine mx_tableIn (tgt := 129) (mx_d tX12_wordOf_0 1 rfl) (by rw [hc5]; decide) (by rw [hc5]; decide) (by rw [hc5]; rfl) (by decide) ?_
        refine mx_bipush (111) (mx_d tX12_wordOf_0 18 rfl) (by decide) ?_
        refine mx_bipush (100) (mx_d tX12_wordOf_0 19 rfl) (by decide) ?_
        refine mx_bipush (100) (mx_d tX12_wordOf_0 20 rfl) (by decide) ?_
        refine mx_iconst (0) (mx_d tX12_wordOf_0 21 rfl) (by decide) ?_
        refine mx_iconst (0) (mx_d tX12_wordOf_0 22 rfl) (by decide) ?_
        refine mx_iconst (0) (mx_d tX12_wordOf_0 23 rfl) (by decide) ?_
        obtain ⟨r6, h_r6, h⟩ := Option.bind_eq_some_iff.mp h
        refine mx_cSj (mx_d tX12_wordOf_0 24 rfl) iX12_58 rfl sX12_spelt (CX12_spelt  h_r6) (by decide) rfl rfl (Nat.le_of_ble_eq_true rfl) ?_
        obtain rfl := Option.some.inj h
        exact mx_lreturn (mx_d tX12_wordOf_0 25 rfl) rfl ⟨rfl, rfl⟩
      · rw [if_neg hc5] at h
        by_cases hc7 : x0 = 3
        · rw [if_pos hc7] at h
          refine mx_tableIn (tgt := 142) (mx_d tX12_wordOf_0 1 rfl) (by rw [hc7]; decide) (by rw [hc7]; decide) (by rw [hc7]; rfl) (by decide) ?_
          refine mx_bipush (112) (mx_d tX12_wordOf_0 26 rfl) (by decide) ?_
          refine mx_bipush (97) (mx_d tX12_wordOf_0 27 rfl) (by decide) ?_
          refine mx_bipush (105) (mx_d tX12_wordOf_0 28 rfl) (by decide) ?_
          refine mx_bipush (114) (mx_d tX12_wordOf_0 29 rfl) (by decide) ?_
          refine mx_iconst (0) (mx_d tX12_wordOf_0 30 rfl) (by decide) ?_
          refine mx_iconst (0) (mx_d tX12_wordOf_0 31 rfl) (by decide) ?_
          obtain ⟨r8, h_r8, h⟩ := Option.bind_eq_some_iff.mp h
          refine mx_cSj (mx_d tX12_wordOf_0 32 rfl) iX12_58 rfl sX12_spelt (CX12_spelt  h_r8) (by decide) rfl rfl (Nat.le_of_ble_eq_true rfl) ?_
          obtain rfl := Option.some.inj h
          exact mx_lreturn (mx_d tX12_wordOf_0 33 rfl) rfl ⟨rfl, rfl⟩
        · rw [if_neg hc7] at h
          by_cases hc9 : x0 = 4
          · rw [if_pos hc9] at h
            refine mx_tableIn (tgt := 156) (mx_d tX12_wordOf_0 1 rfl) (by rw [hc9]; decide) (by rw [hc9]; decide) (by rw [hc9]; rfl) (by decide) ?_
            refine mx_bipush (112) (mx_d tX12_wordOf_0 34 rfl) (by decide) ?_
            refine mx_bipush (97) (mx_d tX12_wordOf_0 35 rfl) (by decide) ?_
            refine mx_bipush (114) (mx_d tX12_wordOf_0 36 rfl) (by decide) ?_
            refine mx_bipush (116) (mx_d tX12_wordOf_0 37 rfl) (by decide) ?_
            refine mx_iconst (0) (mx_d tX12_wordOf_0 38 rfl) (by decide) ?_
            refine mx_iconst (0) (mx_d tX12_wordOf_0 39 rfl) (by decide) ?_
            obtain ⟨r10, h_r10, h⟩ := Option.bind_eq_some_iff.mp h
            refine mx_cSj (mx_d tX12_wordOf_0 40 rfl) iX12_58 rfl sX12_spelt (CX12_spelt  h_r10) (by decide) rfl rfl (Nat.le_of_ble_eq_true rfl) ?_
            obtain rfl := Option.some.inj h
            exact mx_lreturn (mx_d tX12_wordOf_0 41 rfl) rfl ⟨rfl, rfl⟩
          · rw [if_neg hc9] at h
            by_cases hc11 : x0 = 5
            · rw [if_pos hc11] at h
              refine mx_tableIn (tgt := 170) (mx_d tX12_wordOf_0 1 rfl) (by rw [hc11]; decide) (by rw [hc11]; decide) (by rw [hc11]; rfl) (by decide) ?_
              refine mx_bipush (119) (mx_d tX12_wordOf_0 42 rfl) (by decide) ?_
              refine mx_bipush (101) (mx_d tX12_wordOf_0 43 rfl) (by decide) ?_
              refine mx_bipush (105) (mx_d tX12_wordOf_0 44 rfl) (by decide) ?_
              refine mx_bipush (103) (mx_d tX12_wordOf_0 45 rfl) (by decide) ?_
              refine mx_bipush (104) (mx_d tX12_wordOf_0 46 rfl) (by decide) ?_
              refine mx_iconst (0) (mx_d tX12_wordOf_0 47 rfl) (by decide) ?_
              obtain ⟨r12, h_r12, h⟩ := Option.bind_eq_some_iff.mp h
              refine mx_cSj (mx_d tX12_wordOf_0 48 rfl) iX12_58 rfl sX12_spelt (CX12_spelt  h_r12) (by decide) rfl rfl (Nat.le_of_ble_eq_true rfl) ?_
              obtain rfl := Option.some.inj h
              exact mx_lreturn (mx_d tX12_wordOf_0 49 rfl) rfl ⟨rfl, rfl⟩
            · rw [if_neg hc11] at h
              by_cases hc13 : x0 = 6
              · rw [if_pos hc13] at h
                refine mx_tableIn (tgt := 185) (mx_d tX12_wordOf_0 1 rfl) (by rw [hc13]; decide) (by rw [hc13]; decide) (by rw [hc13]; rfl) (by decide) ?_
                refine mx_bipush (112) (mx_d tX12_wordOf_0 50 rfl) (by decide) ?_
                refine mx_bipush (114) (mx_d tX12_wordOf_0 51 rfl) (by decide) ?_
                refine mx_bipush (105) (mx_d tX12_wordOf_0 52 rfl) (by decide) ?_
                refine mx_bipush (99) (mx_d tX12_wordOf_0 53 rfl) (by decide) ?_
                refine mx_bipush (101) (mx_d tX12_wordOf_0 54 rfl) (by decide) ?_
                refine mx_iconst (0) (mx_d tX12_wordOf_0 55 rfl) (by decide) ?_
                obtain ⟨r14, h_r14, h⟩ := Option.bind_eq_some_iff.mp h
                refine mx_cSj (mx_d tX12_wordOf_0 56 rfl) iX12_58 rfl sX12_spelt (CX12_spelt  h_r14) (by decide) rfl rfl (Nat.le_of_ble_eq_true rfl) ?_
                obtain rfl := Option.some.inj h
                exact mx_lreturn (mx_d tX12_wordOf_0 57 rfl) rfl ⟨rfl, rfl⟩
              · rw [if_neg hc13] at h
                by_cases hc15 : x0 = 7
                · rw [if_pos hc15] at h
                  refine mx_tableIn (tgt := 200) (mx_d tX12_wordOf_0 1 rfl) (by rw [hc15]; decide) (by rw [hc15]; decide) (by rw [hc15]; rfl) (by decide) ?_
                  refine mx_bipush (99) (mx_d tX12_wordOf_0 58 rfl) (by decide) ?_
                  refine mx_bipush (114) (mx_d tX12_wordOf_0 59 rfl) (by decide) ?_
                  refine mx_bipush (111) (mx_d tX12_wordOf_1 0 rfl) (by decide) ?_
                  refine mx_bipush (119) (mx_d tX12_wordOf_1 1 rfl) (by decide) ?_
                  refine mx_bipush (110) (mx_d tX12_wordOf_1 2 rfl) (by decide) ?_
                  refine mx_iconst (0) (mx_d tX12_wordOf_1 3 rfl) (by decide) ?_
                  obtain ⟨r16, h_r16, h⟩ := Option.bind_eq_some_iff.mp h
                  refine mx_cSj (mx_d tX12_wordOf_1 4 rfl) iX12_58 rfl sX12_spelt (CX12_spelt  h_r16) (by decide) rfl rfl (Nat.le_of_ble_eq_true rfl) ?_
                  obtain rfl := Option.some.inj h
                  exact mx_lreturn (mx_d tX12_wordOf_1 5 rfl) rfl ⟨rfl, rfl⟩
                · rw [if_neg hc15] at h
                  by_cases hc17 : x0 = 8
                  · rw [if_pos hc17] at h
                    refine mx_tableIn (tgt := 215) (mx_d tX12_wordOf_0 1 rfl) (by rw [hc17]; decide) (by rw [hc17]; decide) (by rw [hc17]; rfl) (by decide) ?_
                    refine mx_bipush (111) (mx_d tX12_wordOf_1 6 rfl) (by decide) ?_
                    refine mx_bipush (112) (mx_d tX12_wordOf_1 7 rfl) (by decide) ?_
                    refine mx_bipush (101) (mx_d tX12_wordOf_1 8 rfl) (by decide) ?_
                    refine mx_bipush (110) (mx_d tX12_wordOf_1 9 rfl) (by decide) ?_
                    refine mx_iconst (0) (mx_d tX12_wordOf_1 10 rfl) (by decide) ?_
                    refine mx_iconst (0) (mx_d tX12_wordOf_1 11 rfl) (by decide) ?_
                    obtain ⟨r18, h_r18, h⟩ := Option.bind_eq_some_iff.mp h
                    refine mx_cSj (mx_d tX12_wordOf_1 12 rfl) iX12_58 rfl sX12_spelt (CX12_spelt  h_r18) (by decide) rfl rfl (Nat.le_of_ble_eq_true rfl) ?_
                    obtain rfl := Option.some.inj h
                    exact mx_lreturn (mx_d tX12_wordOf_1 13 rfl) rfl ⟨rfl, rfl⟩
                  · rw [if_neg hc17] at h
                    by_cases hc19 : x0 = 9
                    · rw [if_pos hc19] at h
                      refine mx_tableIn (tgt := 229) (mx_d tX12_wordOf_0 1 rfl) (by rw [hc19]; decide) (by rw [hc19]; decide) (by rw [hc19]; rfl) (by decide) ?_
                      refine mx_bipush (103) (mx_d tX12_wordOf_1 14 rfl) (by decide) ?_
                      refine mx_bipush (114) (mx_d tX12_wordOf_1 15 rfl) (by decide) ?_
                      refine mx_bipush (111) (mx_d tX12_wordOf_1 16 rfl) (by decide) ?_
                      refine mx_bipush (119) (mx_d tX12_wordOf_1 17 rfl) (by decide) ?_
                      refine mx_iconst (0) (mx_d tX12_wordOf_1 18 rfl) (by decide) ?_
                      refine mx_iconst (0) (mx_d tX12_wordOf_1 19 rfl) (by decide) ?_
                      obtain ⟨r20, h_r20, h⟩ := Option.bind_eq_some_iff.mp h
                      refine mx_cSj (mx_d tX12_wordOf_1 20 rfl) iX12_58 rfl sX12_spelt (CX12_spelt  h_r20) (by decide) rfl rfl (Nat.le_of_ble_eq_true rfl) ?_
                      obtain rfl := Option.some.inj h
                      exact mx_lreturn (mx_d tX12_wordOf_1 21 rfl) rfl ⟨rfl, rfl⟩
                    · rw [if_neg hc19] at h
                      by_cases hc21 : x0 = 10
                      · rw [if_pos hc21] at h
                        refine mx_tableIn (tgt := 243) (mx_d tX12_wordOf_0 1 rfl) (by rw [hc21]; decide) (by rw [hc21]; decide) (by rw [hc21]; rfl) (by decide) ?_
                        refine mx_bipush (111) (mx_d tX12_wordOf_1 22 rfl) (by decide) ?_
                        refine mx_bipush (114) (mx_d tX12_wordOf_1 23 rfl) (by decide) ?_
                        refine mx_iconst (0) (mx_d tX12_wordOf_1 24 rfl) (by decide) ?_
                        refine mx_iconst (0) (mx_d tX12_wordOf_1 25 rfl) (by decide) ?_
                        refine mx_iconst (0) (mx_d tX12_wordOf_1 26 rfl) (by decide) ?_
                        refine mx_iconst (0) (mx_d tX12_wordOf_1 27 rfl) (by decide) ?_
                        obtain ⟨r22, h_r22, h⟩ := Option.bind_eq_some_iff.mp h
                        refine mx_cSj (mx_d tX12_wordOf_1 28 rfl) iX12_58 rfl sX12_spelt (CX12_spelt  h_r22) (by decide) rfl rfl (Nat.le_of_ble_eq_true rfl) ?_
                        obtain rfl := Option.some.inj h
                        exact mx_lreturn (mx_d tX12_wordOf_1 29 rfl) rfl ⟨rfl, rfl⟩
                      · rw [if_neg hc21] at h
                        by_cases hc23 : x0 = 11
                        · rw [if_pos hc23] at h
                          refine mx_tableIn (tgt := 255) (mx_d tX12_wordOf_0 1 rfl) (by rw [hc23]; decide) (by rw [hc23]; decide) (by rw [hc23]; rfl) (by decide) ?_
                          refine mx_bipush (97) (mx_d tX12_wordOf_1 30 rfl) (by decide) ?_
                          refine mx_bipush (110) (mx_d tX12_wordOf_1 31 rfl) (by decide) ?_
                          refine mx_bipush (100) (mx_d tX12_wordOf_1 32 rfl) (by decide) ?_
                          refine mx_iconst (0) (mx_d tX12_wordOf_1 33 rfl) (by decide) ?_
                          refine mx_iconst (0) (mx_d tX12_wordOf_1 34 rfl) (by decide) ?_
                          refine mx_iconst (0) (mx_d tX12_wordOf_1 35 rfl) (by decide) ?_
                          obtain ⟨r24, h_r24, h⟩ := Option.bind_eq_some_iff.mp h
                          refine mx_cSj (mx_d tX12_wordOf_1 36 rfl) iX12_58 rfl sX12_spelt (CX12_spelt  h_r24) (by decide) rfl rfl (Nat.le_of_ble_eq_true rfl) ?_
                          obtain rfl := Option.some.inj h
                          exact mx_lreturn (mx_d tX12_wordOf_1 37 rfl) rfl ⟨rfl, rfl⟩
                        · rw [if_neg hc23] at h
                          by_cases hc25 : x0 = 12
                          · rw [if_pos hc25] at h
                            refine mx_tableIn (tgt := 268) (mx_d tX12_wordOf_0 1 rfl) (by rw [hc25]; decide) (by rw [hc25]; decide) (by rw [hc25]; rfl) (by decide) ?_
                            refine mx_bipush (110) (mx_d tX12_wordOf_1 38 rfl) (by decide) ?_
                            refine mx_bipush (111) (mx_d tX12_wordOf_1 39 rfl) (by decide) ?_
                            refine mx_bipush (116) (mx_d tX12_wordOf_1 40 rfl) (by decide) ?_
                            refine mx_iconst (0) (mx_d tX12_wordOf_1 41 rfl) (by decide) ?_
                            refine mx_iconst (0) (mx_d tX12_wordOf_1 42 rfl) (by decide) ?_
                            refine mx_iconst (0) (mx_d tX12_wordOf_1 43 rfl) (by decide) ?_
                            obtain ⟨r26, h_r26, h⟩ := Option.bind_eq_some_iff.mp h
                            refine mx_cSj (mx_d tX12_wordOf_1 44 rfl) iX12_58 rfl sX12_spelt (CX12_spelt  h_r26) (by decide) rfl rfl (Nat.le_of_ble_eq_true rfl) ?_
                            obtain rfl := Option.some.inj h
                            exact mx_lreturn (mx_d tX12_wordOf_1 45 rfl) rfl ⟨rfl, rfl⟩
                          · rw [if_neg hc25] at h
                            by_cases hc27 : x0 = 13
                            · rw [if_pos hc27] at h
                              refine mx_tableIn (tgt := 281) (mx_d tX12_wordOf_0 1 rfl) (by rw [hc27]; decide) (by rw [hc27]; decide) (by rw [hc27]; rfl) (by decide) ?_
                              refine mx_bipush (108) (mx_d tX12_wordOf_1 46 rfl) (by decide) ?_
                              refine mx_bipush (111) (mx_d tX12_wordOf_1 47 rfl) (by decide) ?_
                              refine mx_bipush (110) (mx_d tX12_wordOf_1 48 rfl) (by decide) ?_
                              refine mx_bipush (101) (mx_d tX12_wordOf_1 49 rfl) (by decide) ?_
                              refine mx_iconst (0) (mx_d tX12_wordOf_1 50 rfl) (by decide) ?_
                              refine mx_iconst (0) (mx_d tX12_wordOf_1 51 rfl) (by decide) ?_
                              obtain ⟨r28, h_r28, h⟩ := Option.bind_eq_some_iff.mp h
                              refine mx_cSj (mx_d tX12_wordOf_1 52 rfl) iX12_58 rfl sX12_spelt (CX12_spelt  h_r28) (by decide) rfl rfl (Nat.le_of_ble_eq_true rfl) ?_
                              obtain rfl := Option.some.inj h
                              exact mx_lreturn (mx_d tX12_wordOf_1 53 rfl) rfl ⟨rfl, rfl⟩
                            · rw [if_neg hc27] at h
                              by_cases hc29 : x0 = 14
                              · rw [if_pos hc29] at h
                                refine mx_tableIn (tgt := 295) (mx_d tX12_wordOf_0 1 rfl) (by rw [hc29]; decide) (by rw [hc29]; decide) (by rw [hc29]; rfl) (by decide) ?_
                                refine mx_bipush (116) (mx_d tX12_wordOf_1 54 rfl) (by decide) ?_
                                refine mx_bipush (105) (mx_d tX12_wordOf_1 55 rfl) (by decide) ?_
                                refine mx_bipush (103) (mx_d tX12_wordOf_1 56 rfl) (by decide) ?_
                                refine mx_bipush (104) (mx_d tX12_wordOf_1 57 rfl) (by decide) ?_
                                refine mx_bipush (116) (mx_d tX12_wordOf_1 58 rfl) (by decide) ?_
                                refine mx_iconst (0) (mx_d tX12_wordOf_1 59 rfl) (by decide) ?_
                                obtain ⟨r30, h_r30, h⟩ := Option.bind_eq_some_iff.mp h
                                refine mx_cSj (mx_d tX12_wordOf_2 0 rfl) iX12_58 rfl sX12_spelt (CX12_spelt  h_r30) (by decide) rfl rfl (Nat.le_of_ble_eq_true rfl) ?_
                                obtain rfl := Option.some.inj h
                                exact mx_lreturn (mx_d tX12_wordOf_2 1 rfl) rfl ⟨rfl, rfl⟩
                              · rw [if_neg hc29] at h
                                by_cases hc31 : x0 = 15
                                · rw [if_pos hc31] at h
                                  refine mx_tableIn (tgt := 310) (mx_d tX12_wordOf_0 1 rfl) (by rw [hc31]; decide) (by rw [hc31]; decide) (by rw [hc31]; rfl) (by decide) ?_
                                  refine mx_bipush (119) (mx_d tX12_wordOf_2 2 rfl) (by decide) ?_
                                  refine mx_bipush (105) (mx_d tX12_wordOf_2 3 rfl) (by decide) ?_
                                  refine mx_bipush (116) (mx_d tX12_wordOf_2 4 rfl) (by decide) ?_
                                  refine mx_bipush (104) (mx_d tX12_wordOf_2 5 rfl) (by decide) ?_
                                  refine mx_iconst (0) (mx_d tX12_wordOf_2 6 rfl) (by decide) ?_
                                  refine mx_iconst (0) (mx_d tX12_wordOf_2 7 rfl) (by decide) ?_
                                  obtain ⟨r32, h_r32, h⟩ := Option.bind_eq_some_iff.mp h
                                  refine mx_cSj (mx_d tX12_wordOf_2 8 rfl) iX12_58 rfl sX12_spelt (CX12_spelt  h_r32) (by decide) rfl rfl (Nat.le_of_ble_eq_true rfl) ?_
                                  obtain rfl := Option.some.inj h
                                  exact mx_lreturn (mx_d tX12_wordOf_2 9 rfl) rfl ⟨rfl, rfl⟩
                                · rw [if_neg hc31] at h
                                  by_cases hc33 : x0 = 16
                                  · rw [if_pos hc33] at h
                                    refine mx_tableIn (tgt := 324) (mx_d tX12_wordOf_0 1 rfl) (by rw [hc33]; decide) (by rw [hc33]; decide) (by rw [hc33]; rfl) (by decide) ?_
                                    refine mx_bipush (108) (mx_d tX12_wordOf_2 10 rfl) (by decide) ?_
                                    refine mx_bipush (105) (mx_d tX12_wordOf_2 11 rfl) (by decide) ?_
                                    refine mx_bipush (110) (mx_d tX12_wordOf_2 12 rfl) (by decide) ?_
                                    refine mx_bipush (107) (mx_d tX12_wordOf_2 13 rfl) (by decide) ?_
                                    refine mx_bipush (101) (mx_d tX12_wordOf_2 14 rfl) (by decide) ?_
                                    refine mx_bipush (100) (mx_d tX12_wordOf_2 15 rfl) (by decide) ?_
                                    obtain ⟨r34, h_r34, h⟩ := Option.bind_eq_some_iff.mp h
                                    refine mx_cSj (mx_d tX12_wordOf_2 16 rfl) iX12_58 rfl sX12_spelt (CX12_spelt  h_r34) (by decide) rfl rfl (Nat.le_of_ble_eq_true rfl) ?_
                                    obtain rfl := Option.some.inj h
                                    exact mx_lreturn (mx_d tX12_wordOf_2 17 rfl) rfl ⟨rfl, rfl⟩
                                  · rw [if_neg hc33] at h
                                    by_cases hc35 : x0 = 17
                                    · rw [if_pos hc35] at h
                                      refine mx_tableIn (tgt := 340) (mx_d tX12_wordOf_0 1 rfl) (by rw [hc35]; decide) (by rw [hc35]; decide) (by rw [hc35]; rfl) (by decide) ?_
                                      refine mx_bipush (105) (mx_d tX12_wordOf_2 18 rfl) (by decide) ?_
                                      refine mx_bipush (110) (mx_d tX12_wordOf_2 19 rfl) (by decide) ?_
                                      refine mx_iconst (0) (mx_d tX12_wordOf_2 20 rfl) (by decide) ?_
                                      refine mx_iconst (0) (mx_d tX12_wordOf_2 21 rfl) (by decide) ?_
                                      refine mx_iconst (0) (mx_d tX12_wordOf_2 22 rfl) (by decide) ?_
                                      refine mx_iconst (0) (mx_d tX12_wordOf_2 23 rfl) (by decide) ?_
                                      obtain ⟨r36, h_r36, h⟩ := Option.bind_eq_some_iff.mp h
                                      refine mx_cSj (mx_d tX12_wordOf_2 24 rfl) iX12_58 rfl sX12_spelt (CX12_spelt  h_r36) (by decide) rfl rfl (Nat.le_of_ble_eq_true rfl) ?_
                                      obtain rfl := Option.some.inj h
                                      exact mx_lreturn (mx_d tX12_wordOf_2 25 rfl) rfl ⟨rfl, rfl⟩
                                    · rw [if_neg hc35] at h
                                      by_cases hc37 : x0 = 18
                                      · rw [if_pos hc37] at h
                                        refine mx_tableIn (tgt := 352) (mx_d tX12_wordOf_0 1 rfl) (by rw [hc37]; decide) (by rw [hc37]; decide) (by rw [hc37]; rfl) (by decide) ?_
                                        refine mx_bipush (112) (mx_d tX12_wordOf_2 26 rfl) (by decide) ?_
                                        refine mx_bipush (114) (mx_d tX12_wordOf_2 27 rfl) (by decide) ?_
                                        refine mx_bipush (105) (mx_d tX12_wordOf_2 28 rfl) (by decide) ?_
                                        refine mx_bipush (99) (mx_d tX12_wordOf_2 29 rfl) (by decide) ?_
                                        refine mx_bipush (101) (mx_d tX12_wordOf_2 30 rfl) (by decide) ?_
                                        refine mx_bipush (100) (mx_d tX12_wordOf_2 31 rfl) (by decide) ?_
                                        obtain ⟨r38, h_r38, h⟩ := Option.bind_eq_some_iff.mp h
                                        refine mx_cSj (mx_d tX12_wordOf_2 32 rfl) iX12_58 rfl sX12_spelt (CX12_spelt  h_r38) (by decide) rfl rfl (Nat.le_of_ble_eq_true rfl) ?_
                                        obtain rfl := Option.some.inj h
                                        exact mx_lreturn (mx_d tX12_wordOf_2 33 rfl) rfl ⟨rfl, rfl⟩
                                      · rw [if_neg hc37] at h
                                        by_cases hc39 : x0 = 19
                                        · rw [if_pos hc39] at h
                                          refine mx_tableIn (tgt := 368) (mx_d tX12_wordOf_0 1 rfl) (by rw [hc39]; decide) (by rw [hc39]; decide) (by rw [hc39]; rfl) (by decide) ?_
                                          refine mx_bipush (108) (mx_d tX12_wordOf_2 34 rfl) (by decide) ?_
                                          refine mx_bipush (105) (mx_d tX12_wordOf_2 35 rfl) (by decide) ?_
                                          refine mx_bipush (110) (mx_d tX12_wordOf_2 36 rfl) (by decide) ?_
                                          refine mx_bipush (107) (mx_d tX12_wordOf_2 37 rfl) (by decide) ?_
                                          refine mx_bipush (115) (mx_d tX12_wordOf_2 38 rfl) (by decide) ?_
                                          refine mx_iconst (0) (mx_d tX12_wordOf_2 39 rfl) (by decide) ?_
                                          obtain ⟨r40, h_r40, h⟩ := Option.bind_eq_some_iff.mp h
                                          refine mx_cSj (mx_d tX12_wordOf_2 40 rfl) iX12_58 rfl sX12_spelt (CX12_spelt  h_r40) (by decide) rfl rfl (Nat.le_of_ble_eq_true rfl) ?_
                                          obtain rfl := Option.some.inj h
                                          exact mx_lreturn (mx_d tX12_wordOf_2 41 rfl) rfl ⟨rfl, rfl⟩
                                        · rw [if_neg hc39] at h
                                          by_cases hc41 : x0 = 20
                                          · rw [if_pos hc41] at h
                                            refine mx_tableIn (tgt := 383) (mx_d tX12_wordOf_0 1 rfl) (by rw [hc41]; decide) (by rw [hc41]; decide) (by rw [hc41]; rfl) (by decide) ?_
                                            refine mx_bipush (119) (mx_d tX12_wordOf_2 42 rfl) (by decide) ?_
                                            refine mx_bipush (101) (mx_d tX12_wordOf_2 43 rfl) (by decide) ?_
                                            refine mx_bipush (105) (mx_d tX12_wordOf_2 44 rfl) (by decide) ?_
                                            refine mx_bipush (103) (mx_d tX12_wordOf_2 45 rfl) (by decide) ?_
                                            refine mx_bipush (104) (mx_d tX12_wordOf_2 46 rfl) (by decide) ?_
                                            refine mx_bipush (116) (mx_d tX12_wordOf_2 47 rfl) (by decide) ?_
                                            obtain ⟨r42, h_r42, h⟩ := Option.bind_eq_some_iff.mp h
                                            refine mx_cSj (mx_d tX12_wordOf_2 48 rfl) iX12_58 rfl sX12_spelt (CX12_spelt  h_r42) (by decide) rfl rfl (Nat.le_of_ble_eq_true rfl) ?_
                                            obtain rfl := Option.some.inj h
                                            exact mx_lreturn (mx_d tX12_wordOf_2 49 rfl) rfl ⟨rfl, rfl⟩
                                          · rw [if_neg hc41] at h
                                            have z_hc1 := lv_neT hc1 (a := 0) (by decide)
                                            have z_hc3 := lv_neT hc3 (a := 1) (by decide)
                                            have z_hc5 := lv_neT hc5 (a := 2) (by decide)
                                            have z_hc7 := lv_neT hc7 (a := 3) (by decide)
                                            have z_hc9 := lv_neT hc9 (a := 4) (by decide)
                                            have z_hc11 := lv_neT hc11 (a := 5) (by decide)
                                            have z_hc13 := lv_neT hc13 (a := 6) (by decide)
                                            have z_hc15 := lv_neT hc15 (a := 7) (by decide)
                                            have z_hc17 := lv_neT hc17 (a := 8) (by decide)
                                            have z_hc19 := lv_neT hc19 (a := 9) (by decide)
                                            have z_hc21 := lv_neT hc21 (a := 10) (by decide)
                                            have z_hc23 := lv_neT hc23 (a := 11) (by decide)
                                            have z_hc25 := lv_neT hc25 (a := 12) (by decide)
                                            have z_hc27 := lv_neT hc27 (a := 13) (by decide)
                                            have z_hc29 := lv_neT hc29 (a := 14) (by decide)
                                            have z_hc31 := lv_neT hc31 (a := 15) (by decide)
                                            have z_hc33 := lv_neT hc33 (a := 16) (by decide)
                                            have z_hc35 := lv_neT hc35 (a := 17) (by decide)
                                            have z_hc37 := lv_neT hc37 (a := 18) (by decide)
                                            have z_hc39 := lv_neT hc39 (a := 19) (by decide)
                                            have z_hc41 := lv_neT hc41 (a := 20) (by decide)
                                            refine mx_tableOut (tgt := 399) (mx_d tX12_wordOf_0 1 rfl) (by omega) (by decide) ?_
                                            refine mx_bipush (110) (mx_d tX12_wordOf_2 50 rfl) (by decide) ?_
                                            refine mx_bipush (117) (mx_d tX12_wordOf_2 51 rfl) (by decide) ?_
                                            refine mx_bipush (109) (mx_d tX12_wordOf_2 52 rfl) (by decide) ?_
                                            refine mx_bipush (98) (mx_d tX12_wordOf_2 53 rfl) (by decide) ?_
                                            refine mx_bipush (101) (mx_d tX12_wordOf_2 54 rfl) (by decide) ?_
                                            refine mx_bipush (114) (mx_d tX12_wordOf_2 55 rfl) (by decide) ?_
                                            obtain ⟨r43, h_r43, h⟩ := Option.bind_eq_some_iff.mp h
                                            refine mx_cSj (mx_d tX12_wordOf_2 56 rfl) iX12_58 rfl sX12_spelt (CX12_spelt  h_r43) (by decide) rfl rfl (Nat.le_of_ble_eq_true rfl) ?_
                                            obtain rfl := Option.some.inj h
                                            exact mx_lreturn (mx_d tX12_wordOf_2 57 rfl) rfl ⟨rfl, rfl⟩
def FX12_isWord (a : Nat) (x0 : Int32) (m : mB) : Option Int32 := (if (m.1 a 7) = 2 then Option.bind (FX12_wordOf x0 m) (fun r2 => (if (lg_cmp (m.2 a 12) r2) = 0 then (some 1) else (some 0))) else (some 0))
set_option maxRecDepth 20000 in
theorem CX12_isWord {G : mG} {l : Launch} {e : mE} {a : Nat} {x0 : Int32} {m : mB} {r : Int32} (h0 : ly12 e a) (h : FX12_isWord a x0 m = some r) : mx_Call G l MX12_isWord 3 0 0 [.ref a, .int x0] (e, m) (fun v z => v = some (.int r) ∧ z = (e, m)) := by
  refine mx_entry (L := [.ref a, .int x0]) (by decide +kernel) (Nat.le_of_ble_eq_true rfl) rfl ?_
  unfold FX12_isWord at h
  refine mx_aload_n (mx_d tX12_isWord_0 0 rfl) rfl rfl ?_
  refine mx_getI (mx_d tX12_isWord_0 1 rfl) fX12_30 rfl (Or.inl rfl) (ly12_o h0) ?_
  refine mx_iconst (2) (mx_d tX12_isWord_0 2 rfl) (by decide) ?_
  refine mx_icmp_ne (tgt := 24) (mx_d tX12_isWord_0 3 rfl) (by decide) (fun hc1 => ?_) (fun hc1 => ?_)
  · rw [if_neg hc1] at h
    refine mx_iconst (0) (mx_d tX12_isWord_0 12 rfl) (by decide) ?_
    obtain rfl := Option.some.inj h
    exact mx_zreturn (mx_d tX12_isWord_0 13 rfl) rfl rfl ⟨rfl, rfl⟩
  · rw [if_pos hc1] at h
    refine mx_aload_n (mx_d tX12_isWord_0 4 rfl) rfl rfl ?_
    refine mx_getJ (mx_d tX12_isWord_0 5 rfl) fX12_43 rfl rfl (ly12_o h0) ?_
    refine mx_iload_n (mx_d tX12_isWord_0 6 rfl) rfl rfl ?_
    obtain ⟨r2, h_r2, h⟩ := Option.bind_eq_some_iff.mp h
    refine mx_cSj (mx_d tX12_isWord_0 7 rfl) iX12_62 rfl sX12_wordOf (CX12_wordOf  h_r2) (by decide) rfl rfl (Nat.le_of_ble_eq_true rfl) ?_
    refine mx_lcmp (mx_d tX12_isWord_0 8 rfl) ?_
    refine mx_if_ne (tgt := 24) (mx_d tX12_isWord_0 9 rfl) (by decide) (fun hc3 => ?_) (fun hc3 => ?_)
    · rw [if_neg hc3] at h
      refine mx_iconst (0) (mx_d tX12_isWord_0 12 rfl) (by decide) ?_
      obtain rfl := Option.some.inj h
      exact mx_zreturn (mx_d tX12_isWord_0 13 rfl) rfl rfl ⟨rfl, rfl⟩
    · rw [if_pos hc3] at h
      refine mx_iconst (1) (mx_d tX12_isWord_0 10 rfl) (by decide) ?_
      refine mx_goto (tgt := 25) (mx_d tX12_isWord_0 11 rfl) (by decide) ?_
      obtain rfl := Option.some.inj h
      exact mx_zreturn (mx_d tX12_isWord_0 13 rfl) rfl rfl ⟨rfl, rfl⟩
def FX12_isSign (a : Nat) (x0 : Int32) (m : mB) : Option Int32 := (if (m.1 a 7) = 4 then (if (m.1 a 9) = x0 then (some 1) else (some 0)) else (some 0))
set_option maxRecDepth 20000 in
theorem CX12_isSign {G : mG} {l : Launch} {e : mE} {a : Nat} {x0 : Int32} {m : mB} {r : Int32} (h0 : ly12 e a) (h : FX12_isSign a x0 m = some r) : mx_Call G l MX12_isSign 1 0 0 [.ref a, .int x0] (e, m) (fun v z => v = some (.int r) ∧ z = (e, m)) := by
  refine mx_entry (L := [.ref a, .int x0]) (by decide +kernel) (Nat.le_of_ble_eq_true rfl) rfl ?_
  unfold FX12_isSign at h
  refine mx_aload_n (mx_d tX12_isSign_0 0 rfl) rfl rfl ?_
  refine mx_getI (mx_d tX12_isSign_0 1 rfl) fX12_30 rfl (Or.inl rfl) (ly12_o h0) ?_
  refine mx_iconst (4) (mx_d tX12_isSign_0 2 rfl) (by decide) ?_
  refine mx_icmp_ne (tgt := 20) (mx_d tX12_isSign_0 3 rfl) (by decide) (fun hc1 => ?_) (fun hc1 => ?_)
  · rw [if_neg hc1] at h
    refine mx_iconst (0) (mx_d tX12_isSign_0 10 rfl) (by decide) ?_
    obtain rfl := Option.some.inj h
    exact mx_zreturn (mx_d tX12_isSign_0 11 rfl) rfl rfl ⟨rfl, rfl⟩
  · rw [if_pos hc1] at h
    refine mx_aload_n (mx_d tX12_isSign_0 4 rfl) rfl rfl ?_
    refine mx_getI (mx_d tX12_isSign_0 5 rfl) fX12_40 rfl (Or.inl rfl) (ly12_o h0) ?_
    refine mx_iload_n (mx_d tX12_isSign_0 6 rfl) rfl rfl ?_
    refine mx_icmp_ne (tgt := 20) (mx_d tX12_isSign_0 7 rfl) (by decide) (fun hc2 => ?_) (fun hc2 => ?_)
    · rw [if_neg hc2] at h
      refine mx_iconst (0) (mx_d tX12_isSign_0 10 rfl) (by decide) ?_
      obtain rfl := Option.some.inj h
      exact mx_zreturn (mx_d tX12_isSign_0 11 rfl) rfl rfl ⟨rfl, rfl⟩
    · rw [if_pos hc2] at h
      refine mx_iconst (1) (mx_d tX12_isSign_0 8 rfl) (by decide) ?_
      refine mx_goto (tgt := 21) (mx_d tX12_isSign_0 9 rfl) (by decide) ?_
      obtain rfl := Option.some.inj h
      exact mx_zreturn (mx_d tX12_isSign_0 11 rfl) rfl rfl ⟨rfl, rfl⟩
def FX12_isName_L12 (q0 : Nat) (m : mB) : Nat → Int32 → Option (Int32 ⊕ (Unit))
  | 0, _ => none
  | f + 1, y1 => (if 21 < y1 then (some (.inr ())) else Option.bind (FX12_wordOf y1 m) (fun r3 => (if (lg_cmp (m.2 q0 12) r3) = 0 then (some (.inl 0)) else mx_let (y1 + 1) (fun v5 => (FX12_isName_L12 q0 m f v5)))))
set_option maxRecDepth 20000 in
theorem CX12_isName_L12 {G : mG} {l : Launch} {e : mE} {Post : Option Value → mS → Prop} {q0 : Nat} {m : mB} (g0 : ly12 e q0) : ∀ (f : Nat) {y1 : Int32} {q : (Int32 ⊕ (Unit))}, FX12_isName_L12 q0 m f y1 = some q → (∀ rr, q = .inl rr → Post (some (.int rr)) (e, m)) → (∀ u, q = .inr u → mx_Fr G l MX12_isName 3 0 0 Post 38 [.float 0, .float 0] [] (e, m)) → mx_Fr G l MX12_isName 3 0 0 Post 12 [.ref q0, .int y1] [] (e, m) := by
  intro f
  induction f with
  | zero => intro _ _ h; cases h
  | succ f ih =>
    intro y1 q h hret hex
    rw [FX12_isName_L12] at h
    refine mx_iload_n (mx_d tX12_isName_0 8 rfl) rfl rfl ?_
    refine mx_bipush (21) (mx_d tX12_isName_0 9 rfl) (by decide) ?_
    refine mx_icmp_gt (tgt := 38) (mx_d tX12_isName_0 10 rfl) (by decide) (fun hc2 => ?_) (fun hc2 => ?_)
    · rw [if_pos hc2] at h
      obtain rfl := Option.some.inj h
      refine mx_forget (L' := [.float 0, .float 0]) trivial ?_
      exact (hex _ rfl)
    · rw [if_neg hc2] at h
      refine mx_aload_n (mx_d tX12_isName_0 11 rfl) rfl rfl ?_
      refine mx_getJ (mx_d tX12_isName_0 12 rfl) fX12_43 rfl rfl (ly12_o g0) ?_
      refine mx_iload_n (mx_d tX12_isName_0 13 rfl) rfl rfl ?_
      obtain ⟨r3, h_r3, h⟩ := Option.bind_eq_some_iff.mp h
      refine mx_cSj (mx_d tX12_isName_0 14 rfl) iX12_62 rfl sX12_wordOf (CX12_wordOf  h_r3) (by decide) rfl rfl (Nat.le_of_ble_eq_true rfl) ?_
      refine mx_lcmp (mx_d tX12_isName_0 15 rfl) ?_
      refine mx_if_ne (tgt := 32) (mx_d tX12_isName_0 16 rfl) (by decide) (fun hc4 => ?_) (fun hc4 => ?_)
      · rw [if_neg hc4] at h
        obtain ⟨v5, e_v5, h⟩ := mx_letE h
        refine mx_iinc v5 (L2 := [.ref q0, .int v5]) (mx_d tX12_isName_0 19 rfl) rfl (by rw [e_v5]; rfl) (by decide) rfl ?_
        refine mx_goto (tgt := 12) (mx_d tX12_isName_0 20 rfl) (by decide) ?_
        exact ih h hret hex
      · rw [if_pos hc4] at h
        refine mx_iconst (0) (mx_d tX12_isName_0 17 rfl) (by decide) ?_
        obtain rfl := Option.some.inj h
        exact mx_zreturn (mx_d tX12_isName_0 18 rfl) rfl rfl (hret 0 rfl)
def FX12_isName (a : Nat) (m : mB) : Option Int32 := (if (m.1 a 7) = 2 then Option.bind (FX12_isName_L12 a m mx_FU 0) (fun q6 => Sum.elim (fun rr => some rr) (fun u7 => (some 1)) q6) else (some 0))
set_option maxRecDepth 20000 in
theorem CX12_isName {G : mG} {l : Launch} {e : mE} {a : Nat} {m : mB} {r : Int32} (h0 : ly12 e a) (h : FX12_isName a m = some r) : mx_Call G l MX12_isName 3 0 0 [.ref a] (e, m) (fun v z => v = some (.int r) ∧ z = (e, m)) := by
  refine mx_entry (L := [.ref a, .float 0]) (by decide +kernel) (Nat.le_of_ble_eq_true rfl) rfl ?_
  unfold FX12_isName at h
  refine mx_aload_n (mx_d tX12_isName_0 0 rfl) rfl rfl ?_
  refine mx_getI (mx_d tX12_isName_0 1 rfl) fX12_30 rfl (Or.inl rfl) (ly12_o h0) ?_
  refine mx_iconst (2) (mx_d tX12_isName_0 2 rfl) (by decide) ?_
  refine mx_icmp_eq (tgt := 10) (mx_d tX12_isName_0 3 rfl) (by decide) (fun hc1 => ?_) (fun hc1 => ?_)
  · rw [if_pos hc1] at h
    refine mx_iconst (0) (mx_d tX12_isName_0 6 rfl) (by decide) ?_
    refine mx_istore_n (L2 := [.ref a, .int 0]) (mx_d tX12_isName_0 7 rfl) rfl (by decide) (by rfl) ?_
    obtain ⟨q6, h_q6, h⟩ := Option.bind_eq_some_iff.mp h
    refine CX12_isName_L12 h0 mx_FU h_q6 (fun rr8 e_rr8 => ?_) (fun u7 e_u7 => ?_)
    · subst e_rr8
      rw [Sum.elim_inl] at h
      obtain rfl := Option.some.inj h
      exact ⟨rfl, rfl⟩
    · subst e_u7
      rw [Sum.elim_inr] at h
      refine mx_iconst (1) (mx_d tX12_isName_0 21 rfl) (by decide) ?_
      obtain rfl := Option.some.inj h
      exact mx_zreturn (mx_d tX12_isName_0 22 rfl) rfl rfl ⟨rfl, rfl⟩
  · rw [if_neg hc1] at h
    refine mx_iconst (0) (mx_d tX12_isName_0 4 rfl) (by decide) ?_
    obtain rfl := Option.some.inj h
    exact mx_zreturn (mx_d tX12_isName_0 5 rfl) rfl rfl ⟨rfl, rfl⟩
def FX12_bad (a : Nat) (x0 : Int32) (m : mB) : Option (Int32 × mB) := (if (m.1 a 7) = 1 then mx_let (mx_up m.1 a 10 1, m.2) (fun m4 => mx_let (mx_up m4.1 a 11 (m4.1 a 6), m4.2) (fun m5 => (some (0, m5)))) else mx_let (mx_up m.1 a 10 x0, m.2) (fun m2 => mx_let (mx_up m2.1 a 11 (m2.1 a 6), m2.2) (fun m3 => (some (0, m3)))))
set_option maxRecDepth 20000 in
theorem CX12_bad {G : mG} {l : Launch} {e : mE} {a : Nat} {x0 : Int32} {m : mB} {r : (Int32 × mB)} (h0 : ly12 e a) (h : FX12_bad a x0 m = some r) : mx_Call G l MX12_bad 1 0 0 [.ref a, .int x0] (e, m) (fun v z => v = some (.int r.1) ∧ z = (e, r.2)) := by
  refine mx_entry (L := [.ref a, .int x0]) (by decide +kernel) (Nat.le_of_ble_eq_true rfl) rfl ?_
  unfold FX12_bad at h
  refine mx_aload_n (mx_d tX12_bad_0 0 rfl) rfl rfl ?_
  refine mx_aload_n (mx_d tX12_bad_0 1 rfl) rfl rfl ?_
  refine mx_getI (mx_d tX12_bad_0 2 rfl) fX12_30 rfl (Or.inl rfl) (ly12_o h0) ?_
  refine mx_iconst (1) (mx_d tX12_bad_0 3 rfl) (by decide) ?_
  refine mx_icmp_ne (tgt := 13) (mx_d tX12_bad_0 4 rfl) (by decide) (fun hc1 => ?_) (fun hc1 => ?_)
  · rw [if_neg hc1] at h
    refine mx_iload_n (mx_d tX12_bad_0 7 rfl) rfl rfl ?_
    obtain ⟨m2, e_m2, h⟩ := mx_letE h
    refine mx_putI (mx_d tX12_bad_0 8 rfl) fX12_66 rfl ⟨_, rfl, rfl⟩ rfl (ly12_o h0) (mx_eqz (z' := (e, m2)) (by rw [e_m2]) ?_)
    refine mx_aload_n (mx_d tX12_bad_0 9 rfl) rfl rfl ?_
    refine mx_aload_n (mx_d tX12_bad_0 10 rfl) rfl rfl ?_
    refine mx_getI (mx_d tX12_bad_0 11 rfl) fX12_24 rfl (Or.inl rfl) (ly12_o h0) ?_
    obtain ⟨m3, e_m3, h⟩ := mx_letE h
    refine mx_putI (mx_d tX12_bad_0 12 rfl) fX12_69 rfl ⟨_, rfl, rfl⟩ rfl (ly12_o h0) (mx_eqz (z' := (e, m3)) (by rw [e_m3]) ?_)
    refine mx_iconst (0) (mx_d tX12_bad_0 13 rfl) (by decide) ?_
    obtain rfl := Option.some.inj h
    exact mx_zreturn (mx_d tX12_bad_0 14 rfl) rfl rfl ⟨rfl, rfl⟩
  · rw [if_pos hc1] at h
    refine mx_iconst (1) (mx_d tX12_bad_0 5 rfl) (by decide) ?_
    refine mx_goto (tgt := 14) (mx_d tX12_bad_0 6 rfl) (by decide) ?_
    obtain ⟨m4, e_m4, h⟩ := mx_letE h
    refine mx_putI (mx_d tX12_bad_0 8 rfl) fX12_66 rfl ⟨_, rfl, rfl⟩ rfl (ly12_o h0) (mx_eqz (z' := (e, m4)) (by rw [e_m4]) ?_)
    refine mx_aload_n (mx_d tX12_bad_0 9 rfl) rfl rfl ?_
    refine mx_aload_n (mx_d tX12_bad_0 10 rfl) rfl rfl ?_
    refine mx_getI (mx_d tX12_bad_0 11 rfl) fX12_24 rfl (Or.inl rfl) (ly12_o h0) ?_
    obtain ⟨m5, e_m5, h⟩ := mx_letE h
    refine mx_putI (mx_d tX12_bad_0 12 rfl) fX12_69 rfl ⟨_, rfl, rfl⟩ rfl (ly12_o h0) (mx_eqz (z' := (e, m5)) (by rw [e_m5]) ?_)
    refine mx_iconst (0) (mx_d tX12_bad_0 13 rfl) (by decide) ?_
    obtain rfl := Option.some.inj h
    exact mx_zreturn (mx_d tX12_bad_0 14 rfl) rfl rfl ⟨rfl, rfl⟩
def FX12_readNumber (a : Nat) (x0 : Int32) (x1 : Int32) (m : mB) : Option (Int32 × mB) := (if (m.1 a 7) = 3 then Option.bind (FX12_isIn (m.1 a 8) x0 x1 m) (fun r2 => (if r2 = 0 then Option.bind (FX12_bad a 2 m) (fun r6 => mx_chk (mx_b01 r6.1) ((some (r6.1, r6.2)))) else mx_let (mx_up m.1 a 13 (m.1 a 8), m.2) (fun m4 => Option.bind (FX12_go a m4) (fun r5 => (some (1, r5)))))) else Option.bind (FX12_bad a 1 m) (fun r8 => mx_chk (mx_b01 r8.1) ((some (r8.1, r8.2)))))
set_option maxRecDepth 20000 in
theorem CX12_readNumber {G : mG} {l : Launch} {e : mE} {a : Nat} {x0 : Int32} {x1 : Int32} {m : mB} {r : (Int32 × mB)} (h0 : ly12 e a) (h : FX12_readNumber a x0 x1 m = some r) : mx_Call G l MX12_readNumber 3 0 0 [.ref a, .int x0, .int x1] (e, m) (fun v z => v = some (.int r.1) ∧ z = (e, r.2)) := by
  refine mx_entry (L := [.ref a, .int x0, .int x1]) (by decide +kernel) (Nat.le_of_ble_eq_true rfl) rfl ?_
  unfold FX12_readNumber at h
  refine mx_aload_n (mx_d tX12_readNumber_0 0 rfl) rfl rfl ?_
  refine mx_getI (mx_d tX12_readNumber_0 1 rfl) fX12_30 rfl (Or.inl rfl) (ly12_o h0) ?_
  refine mx_iconst (3) (mx_d tX12_readNumber_0 2 rfl) (by decide) ?_
  refine mx_icmp_eq (tgt := 14) (mx_d tX12_readNumber_0 3 rfl) (by decide) (fun hc1 => ?_) (fun hc1 => ?_)
  · rw [if_pos hc1] at h
    refine mx_aload_n (mx_d tX12_readNumber_0 8 rfl) rfl rfl ?_
    refine mx_getI (mx_d tX12_readNumber_0 9 rfl) fX12_47 rfl (Or.inl rfl) (ly12_o h0) ?_
    refine mx_iload_n (mx_d tX12_readNumber_0 10 rfl) rfl rfl ?_
    refine mx_iload_n (mx_d tX12_readNumber_0 11 rfl) rfl rfl ?_
    obtain ⟨r2, h_r2, h⟩ := Option.bind_eq_some_iff.mp h
    refine mx_cSi (mx_d tX12_readNumber_0 12 rfl) iX12_75 rfl sX12_isIn (CX12_isIn  h_r2) (by decide) rfl rfl (Nat.le_of_ble_eq_true rfl) ?_
    refine mx_if_ne (tgt := 32) (mx_d tX12_readNumber_0 13 rfl) (by decide) (fun hc3 => ?_) (fun hc3 => ?_)
    · rw [if_neg hc3] at h
      refine mx_aload_n (mx_d tX12_readNumber_0 18 rfl) rfl rfl ?_
      refine mx_aload_n (mx_d tX12_readNumber_0 19 rfl) rfl rfl ?_
      refine mx_getI (mx_d tX12_readNumber_0 20 rfl) fX12_47 rfl (Or.inl rfl) (ly12_o h0) ?_
      obtain ⟨m4, e_m4, h⟩ := mx_letE h
      refine mx_putI (mx_d tX12_readNumber_0 21 rfl) fX12_79 rfl ⟨_, rfl, rfl⟩ rfl (ly12_o h0) (mx_eqz (z' := (e, m4)) (by rw [e_m4]) ?_)
      refine mx_aload_n (mx_d tX12_readNumber_0 22 rfl) rfl rfl ?_
      obtain ⟨r5, h_r5, h⟩ := Option.bind_eq_some_iff.mp h
      refine mx_cVv (mx_d tX12_readNumber_0 23 rfl) iX12_82 rfl vX12_go ⟨_, rfl, rfl⟩ (ly12_o h0) (CX12_go h0 h_r5) (by decide) rfl rfl (Nat.le_of_ble_eq_true rfl) ?_
      refine mx_iconst (1) (mx_d tX12_readNumber_0 24 rfl) (by decide) ?_
      obtain rfl := Option.some.inj h
      exact mx_zreturn (mx_d tX12_readNumber_0 25 rfl) rfl rfl ⟨rfl, rfl⟩
    · rw [if_pos hc3] at h
      refine mx_aload_n (mx_d tX12_readNumber_0 14 rfl) rfl rfl ?_
      refine mx_iconst (2) (mx_d tX12_readNumber_0 15 rfl) (by decide) ?_
      obtain ⟨r6, h_r6, h⟩ := Option.bind_eq_some_iff.mp h
      refine mx_cVi (mx_d tX12_readNumber_0 16 rfl) iX12_72 rfl vX12_bad ⟨_, rfl, rfl⟩ (ly12_o h0) (CX12_bad h0 h_r6) (by decide) rfl rfl (Nat.le_of_ble_eq_true rfl) ?_
      obtain ⟨hb7, h⟩ := mx_chkE h
      obtain rfl := Option.some.inj h
      exact mx_zreturn (mx_d tX12_readNumber_0 17 rfl) rfl (mx_nb (mx_b01E hb7)) ⟨rfl, rfl⟩
  · rw [if_neg hc1] at h
    refine mx_aload_n (mx_d tX12_readNumber_0 4 rfl) rfl rfl ?_
    refine mx_iconst (1) (mx_d tX12_readNumber_0 5 rfl) (by decide) ?_
    obtain ⟨r8, h_r8, h⟩ := Option.bind_eq_some_iff.mp h
    refine mx_cVi (mx_d tX12_readNumber_0 6 rfl) iX12_72 rfl vX12_bad ⟨_, rfl, rfl⟩ (ly12_o h0) (CX12_bad h0 h_r8) (by decide) rfl rfl (Nat.le_of_ble_eq_true rfl) ?_
    obtain ⟨hb9, h⟩ := mx_chkE h
    obtain rfl := Option.some.inj h
    exact mx_zreturn (mx_d tX12_readNumber_0 7 rfl) rfl (mx_nb (mx_b01E hb9)) ⟨rfl, rfl⟩
def FX12_readEnd (a : Nat) (m : mB) : Option (Int32 × mB) := Option.bind (FX12_isSign a 59 m) (fun r1 => (if r1 = 0 then Option.bind (FX12_bad a 1 m) (fun r4 => mx_chk (mx_b01 r4.1) ((some (r4.1, r4.2)))) else Option.bind (FX12_go a m) (fun r3 => (some (1, r3)))))
set_option maxRecDepth 20000 in
theorem CX12_readEnd {G : mG} {l : Launch} {e : mE} {a : Nat} {m : mB} {r : (Int32 × mB)} (h0 : ly12 e a) (h : FX12_readEnd a m = some r) : mx_Call G l MX12_readEnd 3 0 0 [.ref a] (e, m) (fun v z => v = some (.int r.1) ∧ z = (e, r.2)) := by
  refine mx_entry (L := [.ref a]) (by decide +kernel) (Nat.le_of_ble_eq_true rfl) rfl ?_
  unfold FX12_readEnd at h
  refine mx_aload_n (mx_d tX12_readEnd_0 0 rfl) rfl rfl ?_
  refine mx_bipush (59) (mx_d tX12_readEnd_0 1 rfl) (by decide) ?_
  obtain ⟨r1, h_r1, h⟩ := Option.bind_eq_some_iff.mp h
  refine mx_cVi (mx_d tX12_readEnd_0 2 rfl) iX12_86 rfl vX12_isSign ⟨_, rfl, rfl⟩ (ly12_o h0) (CX12_isSign h0 h_r1) (by decide) rfl rfl (Nat.le_of_ble_eq_true rfl) ?_
  refine mx_if_ne (tgt := 15) (mx_d tX12_readEnd_0 3 rfl) (by decide) (fun hc2 => ?_) (fun hc2 => ?_)
  · rw [if_neg hc2] at h
    refine mx_aload_n (mx_d tX12_readEnd_0 8 rfl) rfl rfl ?_
    obtain ⟨r3, h_r3, h⟩ := Option.bind_eq_some_iff.mp h
    refine mx_cVv (mx_d tX12_readEnd_0 9 rfl) iX12_82 rfl vX12_go ⟨_, rfl, rfl⟩ (ly12_o h0) (CX12_go h0 h_r3) (by decide) rfl rfl (Nat.le_of_ble_eq_true rfl) ?_
    refine mx_iconst (1) (mx_d tX12_readEnd_0 10 rfl) (by decide) ?_
    obtain rfl := Option.some.inj h
    exact mx_zreturn (mx_d tX12_readEnd_0 11 rfl) rfl rfl ⟨rfl, rfl⟩
  · rw [if_pos hc2] at h
    refine mx_aload_n (mx_d tX12_readEnd_0 4 rfl) rfl rfl ?_
    refine mx_iconst (1) (mx_d tX12_readEnd_0 5 rfl) (by decide) ?_
    obtain ⟨r4, h_r4, h⟩ := Option.bind_eq_some_iff.mp h
    refine mx_cVi (mx_d tX12_readEnd_0 6 rfl) iX12_72 rfl vX12_bad ⟨_, rfl, rfl⟩ (ly12_o h0) (CX12_bad h0 h_r4) (by decide) rfl rfl (Nat.le_of_ble_eq_true rfl) ?_
    obtain ⟨hb5, h⟩ := mx_chkE h
    obtain rfl := Option.some.inj h
    exact mx_zreturn (mx_d tX12_readEnd_0 7 rfl) rfl (mx_nb (mx_b01E hb5)) ⟨rfl, rfl⟩
def FX12_begin (a : Nat) (x0 : Int32) (m : mB) : Option mB := mx_let (mx_up m.1 a 0 0, m.2) (fun m1 => Option.bind (FX12_take a m1) (fun r2 => mx_let (mx_up r2.2.1 a 3 r2.1, r2.2.2) (fun m3 => mx_let (mx_up m3.1 a 4 x0, m3.2) (fun m4 => mx_let (mx_up m4.1 a 10 0, m4.2) (fun m5 => mx_let (mx_up m5.1 a 5 0, m5.2) (fun m6 => Option.bind (FX12_go a m6) (fun r7 => (some r7))))))))
set_option maxRecDepth 20000 in
theorem CX12_begin {G : mG} {l : Launch} {e : mE} {a : Nat} {x0 : Int32} {m : mB} {r : mB} (h0 : ly12 e a) (h : FX12_begin a x0 m = some r) : mx_Call G l MX12_begin 3 0 0 [.ref a, .int x0] (e, m) (fun v z => v = none ∧ z = (e, r)) := by
  refine mx_entry (L := [.ref a, .int x0]) (by decide +kernel) (Nat.le_of_ble_eq_true rfl) rfl ?_
  unfold FX12_begin at h
  refine mx_aload_n (mx_d tX12_begin_0 0 rfl) rfl rfl ?_
  refine mx_iconst (0) (mx_d tX12_begin_0 1 rfl) (by decide) ?_
  obtain ⟨m1, e_m1, h⟩ := mx_letE h
  refine mx_putI (mx_d tX12_begin_0 2 rfl) fX12_1 rfl ⟨_, rfl, rfl⟩ rfl (ly12_o h0) (mx_eqz (z' := (e, m1)) (by rw [e_m1]) ?_)
  refine mx_aload_n (mx_d tX12_begin_0 3 rfl) rfl rfl ?_
  refine mx_aload_n (mx_d tX12_begin_0 4 rfl) rfl rfl ?_
  obtain ⟨r2, h_r2, h⟩ := Option.bind_eq_some_iff.mp h
  refine mx_cVi (mx_d tX12_begin_0 5 rfl) iX12_89 rfl vX12_take ⟨_, rfl, rfl⟩ (ly12_o h0) (CX12_take h0 h_r2) (by decide) rfl rfl (Nat.le_of_ble_eq_true rfl) ?_
  obtain ⟨m3, e_m3, h⟩ := mx_letE h
  refine mx_putI (mx_d tX12_begin_0 6 rfl) fX12_18 rfl ⟨_, rfl, rfl⟩ rfl (ly12_o h0) (mx_eqz (z' := (e, m3)) (by rw [e_m3]) ?_)
  refine mx_aload_n (mx_d tX12_begin_0 7 rfl) rfl rfl ?_
  refine mx_iload_n (mx_d tX12_begin_0 8 rfl) rfl rfl ?_
  obtain ⟨m4, e_m4, h⟩ := mx_letE h
  refine mx_putI (mx_d tX12_begin_0 9 rfl) fX12_27 rfl ⟨_, rfl, rfl⟩ rfl (ly12_o h0) (mx_eqz (z' := (e, m4)) (by rw [e_m4]) ?_)
  refine mx_aload_n (mx_d tX12_begin_0 10 rfl) rfl rfl ?_
  refine mx_iconst (0) (mx_d tX12_begin_0 11 rfl) (by decide) ?_
  obtain ⟨m5, e_m5, h⟩ := mx_letE h
  refine mx_putI (mx_d tX12_begin_0 12 rfl) fX12_66 rfl ⟨_, rfl, rfl⟩ rfl (ly12_o h0) (mx_eqz (z' := (e, m5)) (by rw [e_m5]) ?_)
  refine mx_aload_n (mx_d tX12_begin_0 13 rfl) rfl rfl ?_
  refine mx_iconst (0) (mx_d tX12_begin_0 14 rfl) (by decide) ?_
  obtain ⟨m6, e_m6, h⟩ := mx_letE h
  refine mx_putI (mx_d tX12_begin_0 15 rfl) fX12_21 rfl ⟨_, rfl, rfl⟩ rfl (ly12_o h0) (mx_eqz (z' := (e, m6)) (by rw [e_m6]) ?_)
  refine mx_aload_n (mx_d tX12_begin_0 16 rfl) rfl rfl ?_
  obtain ⟨r7, h_r7, h⟩ := Option.bind_eq_some_iff.mp h
  refine mx_cVv (mx_d tX12_begin_0 17 rfl) iX12_82 rfl vX12_go ⟨_, rfl, rfl⟩ (ly12_o h0) (CX12_go h0 h_r7) (by decide) rfl rfl (Nat.le_of_ble_eq_true rfl) ?_
  obtain rfl := Option.some.inj h
  exact mx_return (mx_d tX12_begin_0 18 rfl) rfl ⟨rfl, rfl⟩
def FX12_startSo_L3 (q0 : Nat) : Nat → Int32 → mB → Option (mB)
  | 0, _, _ => none
  | f + 1, y1, m => (if 432 ≤ y1 then (some (m)) else mx_chk (mx_inb y1 432) (mx_let (mx_up m.1 (q0 + 2) (Int32.toNatClampNeg y1) 0, m.2) (fun m2 => mx_let (y1 + 1) (fun v4 => (FX12_startSo_L3 q0 f v4 m2)))))
set_option maxRecDepth 20000 in
theorem CX12_startSo_L3 {G : mG} {l : Launch} {e : mE} {Post : Option Value → mS → Prop} {q0 : Nat} (g0 : ly12 e q0) : ∀ (f : Nat) {y1 : Int32} {m : mB} {q : (mB)}, FX12_startSo_L3 q0 f y1 m = some q → (mx_Fr G l MX12_startSo 1 0 0 Post 23 [.ref q0, .float 0] [] (e, q)) → mx_Fr G l MX12_startSo 1 0 0 Post 3 [.ref q0, .int y1] [] (e, m) := by
  intro f
  induction f with
  | zero => intro _ _ _ h; cases h
  | succ f ih =>
    intro y1 m q h hex
    rw [FX12_startSo_L3] at h
    refine mx_iload_n (mx_d tX12_startSo_0 2 rfl) rfl rfl ?_
    refine mx_sipush (432) (mx_d tX12_startSo_0 3 rfl) (by decide) ?_
    refine mx_icmp_ge (tgt := 23) (mx_d tX12_startSo_0 4 rfl) (by decide) (fun hc1 => ?_) (fun hc1 => ?_)
    · rw [if_pos hc1] at h
      obtain rfl := Option.some.inj h
      refine mx_forget (L' := [.ref q0, .float 0]) ⟨rfl, trivial⟩ ?_
      exact hex
    · rw [if_neg hc1] at h
      refine mx_aload_n (mx_d tX12_startSo_0 5 rfl) rfl rfl ?_
      refine mx_getR (mx_d tX12_startSo_0 6 rfl) fX12_98 rfl rfl (ly12_o g0) (ly12_r14 g0) ?_
      refine mx_iload_n (mx_d tX12_startSo_0 7 rfl) rfl rfl ?_
      refine mx_iconst (0) (mx_d tX12_startSo_0 8 rfl) (by decide) ?_
      obtain ⟨hi3, h⟩ := mx_chkE h
      obtain ⟨m2, e_m2, h⟩ := mx_letE h
      refine mx_iastore (mx_d tX12_startSo_0 9 rfl) (ly12_s14 g0) (mx_inbE hi3) (mx_eqz (z' := (e, m2)) (by rw [e_m2]) ?_)
      obtain ⟨v4, e_v4, h⟩ := mx_letE h
      refine mx_iinc v4 (L2 := [.ref q0, .int v4]) (mx_d tX12_startSo_0 10 rfl) rfl (by rw [e_v4]; rfl) (by decide) rfl ?_
      refine mx_goto (tgt := 3) (mx_d tX12_startSo_0 11 rfl) (by decide) ?_
      exact ih h hex
def FX12_startSo_L38 (q0 : Nat) : Nat → Int32 → mB → Option (mB)
  | 0, _, _ => none
  | f + 1, y1, m => (if 30 ≤ y1 then (some (m)) else mx_chk (mx_inb (63 + y1) 432) (mx_chk (mx_inb (128 + y1) 432) (mx_let (mx_up m.1 (q0 + 2) (Int32.toNatClampNeg (128 + y1)) (m.1 (q0 + 2) (Int32.toNatClampNeg (63 + y1))), m.2) (fun m9 => mx_let (y1 + 1) (fun v11 => (FX12_startSo_L38 q0 f v11 m9))))))
set_option maxRecDepth 20000 in
theorem CX12_startSo_L38 {G : mG} {l : Launch} {e : mE} {Post : Option Value → mS → Prop} {q0 : Nat} (g0 : ly12 e q0) : ∀ (f : Nat) {y1 : Int32} {m : mB} {q : (mB)}, FX12_startSo_L38 q0 f y1 m = some q → (mx_Fr G l MX12_startSo 1 0 0 Post 69 [.ref q0, .float 0] [] (e, q)) → mx_Fr G l MX12_startSo 1 0 0 Post 38 [.ref q0, .int y1] [] (e, m) := by
  intro f
  induction f with
  | zero => intro _ _ _ h; cases h
  | succ f ih =>
    intro y1 m q h hex
    rw [FX12_startSo_L38] at h
    refine mx_iload_n (mx_d tX12_startSo_0 22 rfl) rfl rfl ?_
    refine mx_bipush (30) (mx_d tX12_startSo_0 23 rfl) (by decide) ?_
    refine mx_icmp_ge (tgt := 69) (mx_d tX12_startSo_0 24 rfl) (by decide) (fun hc7 => ?_) (fun hc7 => ?_)
    · rw [if_pos hc7] at h
      obtain rfl := Option.some.inj h
      refine mx_forget (L' := [.ref q0, .float 0]) ⟨rfl, trivial⟩ ?_
      exact hex
    · rw [if_neg hc7] at h
      refine mx_aload_n (mx_d tX12_startSo_0 25 rfl) rfl rfl ?_
      refine mx_getR (mx_d tX12_startSo_0 26 rfl) fX12_98 rfl rfl (ly12_o g0) (ly12_r14 g0) ?_
      refine mx_sipush (128) (mx_d tX12_startSo_0 27 rfl) (by decide) ?_
      refine mx_iload_n (mx_d tX12_startSo_0 28 rfl) rfl rfl ?_
      refine mx_iadd (mx_d tX12_startSo_0 29 rfl) ?_
      refine mx_aload_n (mx_d tX12_startSo_0 30 rfl) rfl rfl ?_
      refine mx_getR (mx_d tX12_startSo_0 31 rfl) fX12_98 rfl rfl (ly12_o g0) (ly12_r14 g0) ?_
      refine mx_bipush (63) (mx_d tX12_startSo_0 32 rfl) (by decide) ?_
      refine mx_iload_n (mx_d tX12_startSo_0 33 rfl) rfl rfl ?_
      refine mx_iadd (mx_d tX12_startSo_0 34 rfl) ?_
      obtain ⟨hi8, h⟩ := mx_chkE h
      refine mx_iaload (mx_d tX12_startSo_0 35 rfl) (ly12_s14 g0) (mx_inbE hi8) ?_
      obtain ⟨hi10, h⟩ := mx_chkE h
      obtain ⟨m9, e_m9, h⟩ := mx_letE h
      refine mx_iastore (mx_d tX12_startSo_0 36 rfl) (ly12_s14 g0) (mx_inbE hi10) (mx_eqz (z' := (e, m9)) (by rw [e_m9]) ?_)
      obtain ⟨v11, e_v11, h⟩ := mx_letE h
      refine mx_iinc v11 (L2 := [.ref q0, .int v11]) (mx_d tX12_startSo_0 37 rfl) rfl (by rw [e_v11]; rfl) (by decide) rfl ?_
      refine mx_goto (tgt := 38) (mx_d tX12_startSo_0 38 rfl) (by decide) ?_
      exact ih h hex
def FX12_startSo_L71 (q0 : Nat) : Nat → Int32 → mB → Option (mB)
  | 0, _, _ => none
  | f + 1, y1, m => (if 10 ≤ y1 then (some (m)) else mx_chk (mx_inb (93 + y1) 432) (mx_chk (mx_inb (158 + y1) 432) (mx_let (mx_up m.1 (q0 + 2) (Int32.toNatClampNeg (158 + y1)) (m.1 (q0 + 2) (Int32.toNatClampNeg (93 + y1))), m.2) (fun m15 => mx_chk (mx_inb (103 + y1) 432) (mx_chk (mx_inb (168 + y1) 432) (mx_let (mx_up m15.1 (q0 + 2) (Int32.toNatClampNeg (168 + y1)) (m15.1 (q0 + 2) (Int32.toNatClampNeg (103 + y1))), m15.2) (fun m18 => mx_let (y1 + 1) (fun v20 => (FX12_startSo_L71 q0 f v20 m18)))))))))
set_option maxRecDepth 20000 in
theorem CX12_startSo_L71 {G : mG} {l : Launch} {e : mE} {Post : Option Value → mS → Prop} {q0 : Nat} (g0 : ly12 e q0) : ∀ (f : Nat) {y1 : Int32} {m : mB} {q : (mB)}, FX12_startSo_L71 q0 f y1 m = some q → (mx_Fr G l MX12_startSo 1 0 0 Post 121 [.ref q0, .float 0] [] (e, q)) → mx_Fr G l MX12_startSo 1 0 0 Post 71 [.ref q0, .int y1] [] (e, m) := by
  intro f
  induction f with
  | zero => intro _ _ _ h; cases h
  | succ f ih =>
    intro y1 m q h hex
    rw [FX12_startSo_L71] at h
    refine mx_iload_n (mx_d tX12_startSo_0 41 rfl) rfl rfl ?_
    refine mx_bipush (10) (mx_d tX12_startSo_0 42 rfl) (by decide) ?_
    refine mx_icmp_ge (tgt := 121) (mx_d tX12_startSo_0 43 rfl) (by decide) (fun hc13 => ?_) (fun hc13 => ?_)
    · rw [if_pos hc13] at h
      obtain rfl := Option.some.inj h
      refine mx_forget (L' := [.ref q0, .float 0]) ⟨rfl, trivial⟩ ?_
      exact hex
    · rw [if_neg hc13] at h
      refine mx_aload_n (mx_d tX12_startSo_0 44 rfl) rfl rfl ?_
      refine mx_getR (mx_d tX12_startSo_0 45 rfl) fX12_98 rfl rfl (ly12_o g0) (ly12_r14 g0) ?_
      refine mx_sipush (158) (mx_d tX12_startSo_0 46 rfl) (by decide) ?_
      refine mx_iload_n (mx_d tX12_startSo_0 47 rfl) rfl rfl ?_
      refine mx_iadd (mx_d tX12_startSo_0 48 rfl) ?_
      refine mx_aload_n (mx_d tX12_startSo_0 49 rfl) rfl rfl ?_
      refine mx_getR (mx_d tX12_startSo_0 50 rfl) fX12_98 rfl rfl (ly12_o g0) (ly12_r14 g0) ?_
      refine mx_bipush (93) (mx_d tX12_startSo_0 51 rfl) (by decide) ?_
      refine mx_iload_n (mx_d tX12_startSo_0 52 rfl) rfl rfl ?_
      refine mx_iadd (mx_d tX12_startSo_0 53 rfl) ?_
      obtain ⟨hi14, h⟩ := mx_chkE h
      refine mx_iaload (mx_d tX12_startSo_0 54 rfl) (ly12_s14 g0) (mx_inbE hi14) ?_
      obtain ⟨hi16, h⟩ := mx_chkE h
      obtain ⟨m15, e_m15, h⟩ := mx_letE h
      refine mx_iastore (mx_d tX12_startSo_0 55 rfl) (ly12_s14 g0) (mx_inbE hi16) (mx_eqz (z' := (e, m15)) (by rw [e_m15]) ?_)
      refine mx_aload_n (mx_d tX12_startSo_0 56 rfl) rfl rfl ?_
      refine mx_getR (mx_d tX12_startSo_0 57 rfl) fX12_98 rfl rfl (ly12_o g0) (ly12_r14 g0) ?_
      refine mx_sipush (168) (mx_d tX12_startSo_0 58 rfl) (by decide) ?_
      refine mx_iload_n (mx_d tX12_startSo_0 59 rfl) rfl rfl ?_
      refine mx_iadd (mx_d tX12_startSo_1 0 rfl) ?_
      refine mx_aload_n (mx_d tX12_startSo_1 1 rfl) rfl rfl ?_
      refine mx_getR (mx_d tX12_startSo_1 2 rfl) fX12_98 rfl rfl (ly12_o g0) (ly12_r14 g0) ?_
      refine mx_bipush (103) (mx_d tX12_startSo_1 3 rfl) (by decide) ?_
      refine mx_iload_n (mx_d tX12_startSo_1 4 rfl) rfl rfl ?_
      refine mx_iadd (mx_d tX12_startSo_1 5 rfl) ?_
      obtain ⟨hi17, h⟩ := mx_chkE h
      refine mx_iaload (mx_d tX12_startSo_1 6 rfl) (ly12_s14 g0) (mx_inbE hi17) ?_
      obtain ⟨hi19, h⟩ := mx_chkE h
      obtain ⟨m18, e_m18, h⟩ := mx_letE h
      refine mx_iastore (mx_d tX12_startSo_1 7 rfl) (ly12_s14 g0) (mx_inbE hi19) (mx_eqz (z' := (e, m18)) (by rw [e_m18]) ?_)
      obtain ⟨v20, e_v20, h⟩ := mx_letE h
      refine mx_iinc v20 (L2 := [.ref q0, .int v20]) (mx_d tX12_startSo_1 8 rfl) rfl (by rw [e_v20]; rfl) (by decide) rfl ?_
      refine mx_goto (tgt := 71) (mx_d tX12_startSo_1 9 rfl) (by decide) ?_
      exact ih h hex
def FX12_startSo_L123 (q0 : Nat) : Nat → Int32 → mB → Option (mB)
  | 0, _, _ => none
  | f + 1, y1, m => (if 6 ≤ y1 then (some (m)) else mx_chk (mx_inb (113 + y1) 432) (mx_chk (mx_inb (178 + y1) 432) (mx_let (mx_up m.1 (q0 + 2) (Int32.toNatClampNeg (178 + y1)) (m.1 (q0 + 2) (Int32.toNatClampNeg (113 + y1))), m.2) (fun m24 => mx_chk (mx_inb (119 + y1) 432) (mx_chk (mx_inb (184 + y1) 432) (mx_let (mx_up m24.1 (q0 + 2) (Int32.toNatClampNeg (184 + y1)) (m24.1 (q0 + 2) (Int32.toNatClampNeg (119 + y1))), m24.2) (fun m27 => mx_let (y1 + 1) (fun v29 => (FX12_startSo_L123 q0 f v29 m27)))))))))
set_option maxRecDepth 20000 in
theorem CX12_startSo_L123 {G : mG} {l : Launch} {e : mE} {Post : Option Value → mS → Prop} {q0 : Nat} (g0 : ly12 e q0) : ∀ (f : Nat) {y1 : Int32} {m : mB} {q : (mB)}, FX12_startSo_L123 q0 f y1 m = some q → (mx_Fr G l MX12_startSo 1 0 0 Post 173 [.float 0, .float 0] [] (e, q)) → mx_Fr G l MX12_startSo 1 0 0 Post 123 [.ref q0, .int y1] [] (e, m) := by
  intro f
  induction f with
  | zero => intro _ _ _ h; cases h
  | succ f ih =>
    intro y1 m q h hex
    rw [FX12_startSo_L123] at h
    refine mx_iload_n (mx_d tX12_startSo_1 12 rfl) rfl rfl ?_
    refine mx_bipush (6) (mx_d tX12_startSo_1 13 rfl) (by decide) ?_
    refine mx_icmp_ge (tgt := 173) (mx_d tX12_startSo_1 14 rfl) (by decide) (fun hc22 => ?_) (fun hc22 => ?_)
    · rw [if_pos hc22] at h
      obtain rfl := Option.some.inj h
      refine mx_forget (L' := [.float 0, .float 0]) trivial ?_
      exact hex
    · rw [if_neg hc22] at h
      refine mx_aload_n (mx_d tX12_startSo_1 15 rfl) rfl rfl ?_
      refine mx_getR (mx_d tX12_startSo_1 16 rfl) fX12_98 rfl rfl (ly12_o g0) (ly12_r14 g0) ?_
      refine mx_sipush (178) (mx_d tX12_startSo_1 17 rfl) (by decide) ?_
      refine mx_iload_n (mx_d tX12_startSo_1 18 rfl) rfl rfl ?_
      refine mx_iadd (mx_d tX12_startSo_1 19 rfl) ?_
      refine mx_aload_n (mx_d tX12_startSo_1 20 rfl) rfl rfl ?_
      refine mx_getR (mx_d tX12_startSo_1 21 rfl) fX12_98 rfl rfl (ly12_o g0) (ly12_r14 g0) ?_
      refine mx_bipush (113) (mx_d tX12_startSo_1 22 rfl) (by decide) ?_
      refine mx_iload_n (mx_d tX12_startSo_1 23 rfl) rfl rfl ?_
      refine mx_iadd (mx_d tX12_startSo_1 24 rfl) ?_
      obtain ⟨hi23, h⟩ := mx_chkE h
      refine mx_iaload (mx_d tX12_startSo_1 25 rfl) (ly12_s14 g0) (mx_inbE hi23) ?_
      obtain ⟨hi25, h⟩ := mx_chkE h
      obtain ⟨m24, e_m24, h⟩ := mx_letE h
      refine mx_iastore (mx_d tX12_startSo_1 26 rfl) (ly12_s14 g0) (mx_inbE hi25) (mx_eqz (z' := (e, m24)) (by rw [e_m24]) ?_)
      refine mx_aload_n (mx_d tX12_startSo_1 27 rfl) rfl rfl ?_
      refine mx_getR (mx_d tX12_startSo_1 28 rfl) fX12_98 rfl rfl (ly12_o g0) (ly12_r14 g0) ?_
      refine mx_sipush (184) (mx_d tX12_startSo_1 29 rfl) (by decide) ?_
      refine mx_iload_n (mx_d tX12_startSo_1 30 rfl) rfl rfl ?_
      refine mx_iadd (mx_d tX12_startSo_1 31 rfl) ?_
      refine mx_aload_n (mx_d tX12_startSo_1 32 rfl) rfl rfl ?_
      refine mx_getR (mx_d tX12_startSo_1 33 rfl) fX12_98 rfl rfl (ly12_o g0) (ly12_r14 g0) ?_
      refine mx_bipush (119) (mx_d tX12_startSo_1 34 rfl) (by decide) ?_
      refine mx_iload_n (mx_d tX12_startSo_1 35 rfl) rfl rfl ?_
      refine mx_iadd (mx_d tX12_startSo_1 36 rfl) ?_
      obtain ⟨hi26, h⟩ := mx_chkE h
      refine mx_iaload (mx_d tX12_startSo_1 37 rfl) (ly12_s14 g0) (mx_inbE hi26) ?_
      obtain ⟨hi28, h⟩ := mx_chkE h
      obtain ⟨m27, e_m27, h⟩ := mx_letE h
      refine mx_iastore (mx_d tX12_startSo_1 38 rfl) (ly12_s14 g0) (mx_inbE hi28) (mx_eqz (z' := (e, m27)) (by rw [e_m27]) ?_)
      obtain ⟨v29, e_v29, h⟩ := mx_letE h
      refine mx_iinc v29 (L2 := [.ref q0, .int v29]) (mx_d tX12_startSo_1 39 rfl) rfl (by rw [e_v29]; rfl) (by decide) rfl ?_
      refine mx_goto (tgt := 123) (mx_d tX12_startSo_1 40 rfl) (by decide) ?_
      exact ih h hex
def FX12_startSo (a : Nat) (m : mB) : Option mB := Option.bind (FX12_startSo_L3 a mx_FU 125 m) (fun q5 => mx_let (mx_up q5.1 (a + 2) 125 (q5.1 (a + 2) 2), q5.2) (fun m6 => Option.bind (FX12_startSo_L38 a mx_FU 0 m6) (fun q12 => Option.bind (FX12_startSo_L71 a mx_FU 0 q12) (fun q21 => Option.bind (FX12_startSo_L123 a mx_FU 0 q21) (fun q30 => (some q30))))))
set_option maxRecDepth 20000 in
theorem CX12_startSo {G : mG} {l : Launch} {e : mE} {a : Nat} {m : mB} {r : mB} (h0 : ly12 e a) (h : FX12_startSo a m = some r) : mx_Call G l MX12_startSo 1 0 0 [.ref a] (e, m) (fun v z => v = none ∧ z = (e, r)) := by
  refine mx_entry (L := [.ref a, .float 0]) (by decide +kernel) (Nat.le_of_ble_eq_true rfl) rfl ?_
  unfold FX12_startSo at h
  refine mx_bipush (125) (mx_d tX12_startSo_0 0 rfl) (by decide) ?_
  refine mx_istore_n (L2 := [.ref a, .int 125]) (mx_d tX12_startSo_0 1 rfl) rfl (by decide) (by rfl) ?_
  obtain ⟨q5, h_q5, h⟩ := Option.bind_eq_some_iff.mp h
  refine CX12_startSo_L3 h0 mx_FU h_q5 ?_
  refine mx_aload_n (mx_d tX12_startSo_0 12 rfl) rfl rfl ?_
  refine mx_getR (mx_d tX12_startSo_0 13 rfl) fX12_98 rfl rfl (ly12_o h0) (ly12_r14 h0) ?_
  refine mx_bipush (125) (mx_d tX12_startSo_0 14 rfl) (by decide) ?_
  refine mx_aload_n (mx_d tX12_startSo_0 15 rfl) rfl rfl ?_
  refine mx_getR (mx_d tX12_startSo_0 16 rfl) fX12_98 rfl rfl (ly12_o h0) (ly12_r14 h0) ?_
  refine mx_iconst (2) (mx_d tX12_startSo_0 17 rfl) (by decide) ?_
  refine mx_ialoadC 2 (mx_d tX12_startSo_0 18 rfl) (ly12_s14 h0) (by decide) (mx_inbE (by decide)) ?_
  obtain ⟨m6, e_m6, h⟩ := mx_letE h
  refine mx_iastoreC 125 (mx_d tX12_startSo_0 19 rfl) (ly12_s14 h0) (by decide) (mx_inbE (by decide)) (mx_eqz (z' := (e, m6)) (by rw [e_m6]) ?_)
  refine mx_iconst (0) (mx_d tX12_startSo_0 20 rfl) (by decide) ?_
  refine mx_istore_n (L2 := [.ref a, .int 0]) (mx_d tX12_startSo_0 21 rfl) rfl (by decide) (by rfl) ?_
  obtain ⟨q12, h_q12, h⟩ := Option.bind_eq_some_iff.mp h
  refine CX12_startSo_L38 h0 mx_FU h_q12 ?_
  refine mx_iconst (0) (mx_d tX12_startSo_0 39 rfl) (by decide) ?_
  refine mx_istore_n (L2 := [.ref a, .int 0]) (mx_d tX12_startSo_0 40 rfl) rfl (by decide) (by rfl) ?_
  obtain ⟨q21, h_q21, h⟩ := Option.bind_eq_some_iff.mp h
  refine CX12_startSo_L71 h0 mx_FU h_q21 ?_
  refine mx_iconst (0) (mx_d tX12_startSo_1 10 rfl) (by decide) ?_
  refine mx_istore_n (L2 := [.ref a, .int 0]) (mx_d tX12_startSo_1 11 rfl) rfl (by decide) (by rfl) ?_
  obtain ⟨q30, h_q30, h⟩ := Option.bind_eq_some_iff.mp h
  refine CX12_startSo_L123 h0 mx_FU h_q30 ?_
  obtain rfl := Option.some.inj h
  exact mx_return (mx_d tX12_startSo_1 41 rfl) rfl ⟨rfl, rfl⟩
def FX12_findIn_L3 (q0 : Nat) (w0 : Nat) (y1 : Int32) (y2 : Int32) (y3 : Int64) (m : mB) : Nat → Int32 → Option (Int32 ⊕ (Unit))
  | 0, _ => none
  | f + 1, y5 => (if y2 ≤ y5 then (some (.inr ())) else mx_chk (mx_inb (y1 + y5) w0) ((if (lg_cmp (m.2 q0 (Int32.toNatClampNeg (y1 + y5))) y3) = 0 then (some (.inl y5)) else mx_let (y5 + 1) (fun v4 => (FX12_findIn_L3 q0 w0 y1 y2 y3 m f v4)))))
set_option maxRecDepth 20000 in
theorem CX12_findIn_L3 {G : mG} {l : Launch} {e : mE} {Post : Option Value → mS → Prop} {q0 : Nat} {w0 : Nat} {y1 : Int32} {y2 : Int32} {y3 : Int64} {m : mB} (g0 : mx_is e q0 101 w0) : ∀ (f : Nat) {y5 : Int32} {q : (Int32 ⊕ (Unit))}, FX12_findIn_L3 q0 w0 y1 y2 y3 m f y5 = some q → (∀ rr, q = .inl rr → Post (some (.int rr)) (e, m)) → (∀ u, q = .inr u → mx_Fr G l MX12_findIn 1 0 0 Post 29 [.float 0, .float 0, .float 0, .float 0, .float 0, .float 0] [] (e, m)) → mx_Fr G l MX12_findIn 1 0 0 Post 3 [.ref q0, .int y1, .int y2, .long y3, .float 0, .int y5] [] (e, m) := by
  intro f
  induction f with
  | zero => intro _ _ h; cases h
  | succ f ih =>
    intro y5 q h hret hex
    rw [FX12_findIn_L3] at h
    refine mx_iload (mx_d tX12_findIn_0 2 rfl) rfl ?_
    refine mx_iload_n (mx_d tX12_findIn_0 3 rfl) rfl rfl ?_
    refine mx_icmp_ge (tgt := 29) (mx_d tX12_findIn_0 4 rfl) (by decide) (fun hc1 => ?_) (fun hc1 => ?_)
    · rw [if_pos hc1] at h
      obtain rfl := Option.some.inj h
      refine mx_forget (L' := [.float 0, .float 0, .float 0, .float 0, .float 0, .float 0]) trivial ?_
      exact (hex _ rfl)
    · rw [if_neg hc1] at h
      refine mx_aload_n (mx_d tX12_findIn_0 5 rfl) rfl rfl ?_
      refine mx_iload_n (mx_d tX12_findIn_0 6 rfl) rfl rfl ?_
      refine mx_iload (mx_d tX12_findIn_0 7 rfl) rfl ?_
      refine mx_iadd (mx_d tX12_findIn_0 8 rfl) ?_
      obtain ⟨hi2, h⟩ := mx_chkE h
      refine mx_laload (mx_d tX12_findIn_0 9 rfl) g0 (mx_inbE hi2) ?_
      refine mx_lload_n (mx_d tX12_findIn_0 10 rfl) rfl rfl ?_
      refine mx_lcmp (mx_d tX12_findIn_0 11 rfl) ?_
      refine mx_if_ne (tgt := 23) (mx_d tX12_findIn_0 12 rfl) (by decide) (fun hc3 => ?_) (fun hc3 => ?_)
      · rw [if_neg hc3] at h
        obtain ⟨v4, e_v4, h⟩ := mx_letE h
        refine mx_iinc v4 (L2 := [.ref q0, .int y1, .int y2, .long y3, .float 0, .int v4]) (mx_d tX12_findIn_0 15 rfl) rfl (by rw [e_v4]; rfl) (by decide) rfl ?_
        refine mx_goto (tgt := 3) (mx_d tX12_findIn_0 16 rfl) (by decide) ?_
        exact ih h hret hex
      · rw [if_pos hc3] at h
        refine mx_iload (mx_d tX12_findIn_0 13 rfl) rfl ?_
        obtain rfl := Option.some.inj h
        exact mx_ireturn (mx_d tX12_findIn_0 14 rfl) rfl (hret y5 rfl)
def FX12_findIn (p0 : Nat) (n0 : Nat) (x1 : Int32) (x2 : Int32) (x3 : Int64) (m : mB) : Option Int32 := Option.bind (FX12_findIn_L3 p0 n0 x1 x2 x3 m mx_FU 0) (fun q5 => Sum.elim (fun rr => some rr) (fun u6 => (some (-1))) q5)
set_option maxRecDepth 20000 in
theorem CX12_findIn {G : mG} {l : Launch} {e : mE} {p0 : Nat} {n0 : Nat} {x1 : Int32} {x2 : Int32} {x3 : Int64} {m : mB} {r : Int32} (h1 : mx_is e p0 101 n0) (h : FX12_findIn p0 n0 x1 x2 x3 m = some r) : mx_Call G l MX12_findIn 1 0 0 [.ref p0, .int x1, .int x2, .long x3] (e, m) (fun v z => v = some (.int r) ∧ z = (e, m)) := by
  refine mx_entry (L := [.ref p0, .int x1, .int x2, .long x3, .float 0, .float 0]) (by decide +kernel) (Nat.le_of_ble_eq_true rfl) rfl ?_
  unfold FX12_findIn at h
  refine mx_iconst (0) (mx_d tX12_findIn_0 0 rfl) (by decide) ?_
  refine mx_istore (L2 := [.ref p0, .int x1, .int x2, .long x3, .float 0, .int 0]) (mx_d tX12_findIn_0 1 rfl) (by decide) (by rfl) ?_
  obtain ⟨q5, h_q5, h⟩ := Option.bind_eq_some_iff.mp h
  refine CX12_findIn_L3 h1 mx_FU h_q5 (fun rr7 e_rr7 => ?_) (fun u6 e_u6 => ?_)
  · subst e_rr7
    rw [Sum.elim_inl] at h
    obtain rfl := Option.some.inj h
    exact ⟨rfl, rfl⟩
  · subst e_u6
    rw [Sum.elim_inr] at h
    refine mx_iconst ((-1)) (mx_d tX12_findIn_0 17 rfl) (by decide) ?_
    obtain rfl := Option.some.inj h
    exact mx_ireturn (mx_d tX12_findIn_0 18 rfl) rfl ⟨rfl, rfl⟩
def FX12_readFirst (a : Nat) (x0 : Int32) (x1 : Int32) (m : mB) : Option (Int32 × mB) := mx_chk (mx_inb x0 125) ((if (m.1 (a + 3) (Int32.toNatClampNeg x0)) = x1 then Option.bind (FX12_bad a 4 m) (fun r4 => mx_chk (mx_b01 r4.1) ((some (r4.1, r4.2)))) else Option.bind (FX12_go a m) (fun r3 => (some (1, r3)))))
set_option maxRecDepth 20000 in
theorem CX12_readFirst {G : mG} {l : Launch} {e : mE} {a : Nat} {x0 : Int32} {x1 : Int32} {m : mB} {r : (Int32 × mB)} (h0 : ly12 e a) (h : FX12_readFirst a x0 x1 m = some r) : mx_Call G l MX12_readFirst 3 0 0 [.ref a, .int x0, .int x1] (e, m) (fun v z => v = some (.int r.1) ∧ z = (e, r.2)) := by
  refine mx_entry (L := [.ref a, .int x0, .int x1]) (by decide +kernel) (Nat.le_of_ble_eq_true rfl) rfl ?_
  unfold FX12_readFirst at h
  refine mx_aload_n (mx_d tX12_readFirst_0 0 rfl) rfl rfl ?_
  refine mx_getR (mx_d tX12_readFirst_0 1 rfl) fX12_101 rfl rfl (ly12_o h0) (ly12_r15 h0) ?_
  refine mx_iload_n (mx_d tX12_readFirst_0 2 rfl) rfl rfl ?_
  obtain ⟨hi1, h⟩ := mx_chkE h
  refine mx_iaload (mx_d tX12_readFirst_0 3 rfl) (ly12_s15 h0) (mx_inbE hi1) ?_
  refine mx_iload_n (mx_d tX12_readFirst_0 4 rfl) rfl rfl ?_
  refine mx_icmp_ne (tgt := 16) (mx_d tX12_readFirst_0 5 rfl) (by decide) (fun hc2 => ?_) (fun hc2 => ?_)
  · rw [if_neg hc2] at h
    refine mx_aload_n (mx_d tX12_readFirst_0 10 rfl) rfl rfl ?_
    obtain ⟨r3, h_r3, h⟩ := Option.bind_eq_some_iff.mp h
    refine mx_cVv (mx_d tX12_readFirst_0 11 rfl) iX12_82 rfl vX12_go ⟨_, rfl, rfl⟩ (ly12_o h0) (CX12_go h0 h_r3) (by decide) rfl rfl (Nat.le_of_ble_eq_true rfl) ?_
    refine mx_iconst (1) (mx_d tX12_readFirst_0 12 rfl) (by decide) ?_
    obtain rfl := Option.some.inj h
    exact mx_zreturn (mx_d tX12_readFirst_0 13 rfl) rfl rfl ⟨rfl, rfl⟩
  · rw [if_pos hc2] at h
    refine mx_aload_n (mx_d tX12_readFirst_0 6 rfl) rfl rfl ?_
    refine mx_iconst (4) (mx_d tX12_readFirst_0 7 rfl) (by decide) ?_
    obtain ⟨r4, h_r4, h⟩ := Option.bind_eq_some_iff.mp h
    refine mx_cVi (mx_d tX12_readFirst_0 8 rfl) iX12_72 rfl vX12_bad ⟨_, rfl, rfl⟩ (ly12_o h0) (CX12_bad h0 h_r4) (by decide) rfl rfl (Nat.le_of_ble_eq_true rfl) ?_
    obtain ⟨hb5, h⟩ := mx_chkE h
    obtain rfl := Option.some.inj h
    exact mx_zreturn (mx_d tX12_readFirst_0 9 rfl) rfl (mx_nb (mx_b01E hb5)) ⟨rfl, rfl⟩
def FX12_noted (a : Nat) (x0 : Int32) (x1 : Int32) (m : mB) : Option (Int32 × mB) := (if x1 = 0 then mx_chk (mx_b01 x1) ((some (x1, m))) else mx_chk (mx_inb x0 125) (mx_let (mx_up m.1 (a + 3) (Int32.toNatClampNeg x0) (m.1 a 13), m.2) (fun m3 => mx_chk (mx_b01 x1) ((some (x1, m3))))))
set_option maxRecDepth 20000 in
theorem CX12_noted {G : mG} {l : Launch} {e : mE} {a : Nat} {x0 : Int32} {x1 : Int32} {m : mB} {r : (Int32 × mB)} (h0 : ly12 e a) (h : FX12_noted a x0 x1 m = some r) : mx_Call G l MX12_noted 1 0 0 [.ref a, .int x0, .int x1] (e, m) (fun v z => v = some (.int r.1) ∧ z = (e, r.2)) := by
  refine mx_entry (L := [.ref a, .int x0, .int x1]) (by decide +kernel) (Nat.le_of_ble_eq_true rfl) rfl ?_
  unfold FX12_noted at h
  refine mx_iload_n (mx_d tX12_noted_0 0 rfl) rfl rfl ?_
  refine mx_if_eq (tgt := 14) (mx_d tX12_noted_0 1 rfl) (by decide) (fun hc1 => ?_) (fun hc1 => ?_)
  · rw [if_pos hc1] at h
    refine mx_iload_n (mx_d tX12_noted_0 8 rfl) rfl rfl ?_
    obtain ⟨hb2, h⟩ := mx_chkE h
    obtain rfl := Option.some.inj h
    exact mx_zreturn (mx_d tX12_noted_0 9 rfl) rfl (mx_nb (mx_b01E hb2)) ⟨rfl, rfl⟩
  · rw [if_neg hc1] at h
    refine mx_aload_n (mx_d tX12_noted_0 2 rfl) rfl rfl ?_
    refine mx_getR (mx_d tX12_noted_0 3 rfl) fX12_101 rfl rfl (ly12_o h0) (ly12_r15 h0) ?_
    refine mx_iload_n (mx_d tX12_noted_0 4 rfl) rfl rfl ?_
    refine mx_aload_n (mx_d tX12_noted_0 5 rfl) rfl rfl ?_
    refine mx_getI (mx_d tX12_noted_0 6 rfl) fX12_79 rfl (Or.inl rfl) (ly12_o h0) ?_
    obtain ⟨hi4, h⟩ := mx_chkE h
    obtain ⟨m3, e_m3, h⟩ := mx_letE h
    refine mx_iastore (mx_d tX12_noted_0 7 rfl) (ly12_s15 h0) (mx_inbE hi4) (mx_eqz (z' := (e, m3)) (by rw [e_m3]) ?_)
    refine mx_iload_n (mx_d tX12_noted_0 8 rfl) rfl rfl ?_
    obtain ⟨hb5, h⟩ := mx_chkE h
    obtain rfl := Option.some.inj h
    exact mx_zreturn (mx_d tX12_noted_0 9 rfl) rfl (mx_nb (mx_b01E hb5)) ⟨rfl, rfl⟩
def FX12_readPoint (a : Nat) (m : mB) : Option (Int32 × mB) := Option.bind (FX12_readFirst a 0 10 m) (fun r1 => (if r1.1 = 0 then (some (0, r1.2)) else Option.bind (FX12_isName a r1.2) (fun r3 => (if r3 = 0 then Option.bind (FX12_bad a 1 r1.2) (fun r13 => mx_chk (mx_b01 r13.1) ((some (r13.1, r13.2)))) else Option.bind (FX12_findIn (a + 9) 10 0 (r1.2.1 (a + 3) 0) (r1.2.2 a 12) r1.2) (fun r5 => (if r5 = (-1) then mx_chk (mx_inb (r1.2.1 (a + 3) 0) 10) (mx_let (r1.2.1, mx_ul r1.2.2 (a + 9) (Int32.toNatClampNeg (r1.2.1 (a + 3) 0)) (r1.2.2 a 12)) (fun m7 => mx_let (mx_up m7.1 (a + 3) 0 ((m7.1 (a + 3) 0) + 1), m7.2) (fun m9 => Option.bind (FX12_go a m9) (fun r10 => (some (1, r10)))))) else Option.bind (FX12_bad a 3 r1.2) (fun r11 => mx_chk (mx_b01 r11.1) ((some (r11.1, r11.2))))))))))
set_option maxRecDepth 20000 in
theorem CX12_readPoint {G : mG} {l : Launch} {e : mE} {a : Nat} {m : mB} {r : (Int32 × mB)} (h0 : ly12 e a) (h : FX12_readPoint a m = some r) : mx_Call G l MX12_readPoint 4 0 0 [.ref a] (e, m) (fun v z => v = some (.int r.1) ∧ z = (e, r.2)) := by
  refine mx_entry (L := [.ref a]) (by decide +kernel) (Nat.le_of_ble_eq_true rfl) rfl ?_
  unfold FX12_readPoint at h
  refine mx_aload_n (mx_d tX12_readPoint_0 0 rfl) rfl rfl ?_
  refine mx_iconst (0) (mx_d tX12_readPoint_0 1 rfl) (by decide) ?_
  refine mx_bipush (10) (mx_d tX12_readPoint_0 2 rfl) (by decide) ?_
  obtain ⟨r1, h_r1, h⟩ := Option.bind_eq_some_iff.mp h
  refine mx_cVi (mx_d tX12_readPoint_0 3 rfl) iX12_184 rfl vX12_readFirst ⟨_, rfl, rfl⟩ (ly12_o h0) (CX12_readFirst h0 h_r1) (by decide) rfl rfl (Nat.le_of_ble_eq_true rfl) ?_
  refine mx_if_ne (tgt := 12) (mx_d tX12_readPoint_0 4 rfl) (by decide) (fun hc2 => ?_) (fun hc2 => ?_)
  · rw [if_neg hc2] at h
    refine mx_aload_n (mx_d tX12_readPoint_0 7 rfl) rfl rfl ?_
    obtain ⟨r3, h_r3, h⟩ := Option.bind_eq_some_iff.mp h
    refine mx_cVi (mx_d tX12_readPoint_0 8 rfl) iX12_188 rfl vX12_isName ⟨_, rfl, rfl⟩ (ly12_o h0) (CX12_isName h0 h_r3) (by decide) rfl rfl (Nat.le_of_ble_eq_true rfl) ?_
    refine mx_if_ne (tgt := 25) (mx_d tX12_readPoint_0 9 rfl) (by decide) (fun hc4 => ?_) (fun hc4 => ?_)
    · rw [if_neg hc4] at h
      refine mx_aload_n (mx_d tX12_readPoint_0 14 rfl) rfl rfl ?_
      refine mx_getR (mx_d tX12_readPoint_0 15 rfl) fX12_120 rfl rfl (ly12_o h0) (ly12_r21 h0) ?_
      refine mx_iconst (0) (mx_d tX12_readPoint_0 16 rfl) (by decide) ?_
      refine mx_aload_n (mx_d tX12_readPoint_0 17 rfl) rfl rfl ?_
      refine mx_getR (mx_d tX12_readPoint_0 18 rfl) fX12_101 rfl rfl (ly12_o h0) (ly12_r15 h0) ?_
      refine mx_iconst (0) (mx_d tX12_readPoint_0 19 rfl) (by decide) ?_
      refine mx_ialoadC 0 (mx_d tX12_readPoint_0 20 rfl) (ly12_s15 h0) (by decide) (mx_inbE (by decide)) ?_
      refine mx_aload_n (mx_d tX12_readPoint_0 21 rfl) rfl rfl ?_
      refine mx_getJ (mx_d tX12_readPoint_0 22 rfl) fX12_43 rfl rfl (ly12_o h0) ?_
      obtain ⟨r5, h_r5, h⟩ := Option.bind_eq_some_iff.mp h
      refine mx_cSi (mx_d tX12_readPoint_0 23 rfl) iX12_192 rfl sX12_findIn (CX12_findIn (ly12_s21 h0) h_r5) (by decide) rfl rfl (Nat.le_of_ble_eq_true rfl) ?_
      refine mx_iconst ((-1)) (mx_d tX12_readPoint_0 24 rfl) (by decide) ?_
      refine mx_icmp_eq (tgt := 53) (mx_d tX12_readPoint_0 25 rfl) (by decide) (fun hc6 => ?_) (fun hc6 => ?_)
      · rw [if_pos hc6] at h
        refine mx_aload_n (mx_d tX12_readPoint_0 30 rfl) rfl rfl ?_
        refine mx_getR (mx_d tX12_readPoint_0 31 rfl) fX12_120 rfl rfl (ly12_o h0) (ly12_r21 h0) ?_
        refine mx_aload_n (mx_d tX12_readPoint_0 32 rfl) rfl rfl ?_
        refine mx_getR (mx_d tX12_readPoint_0 33 rfl) fX12_101 rfl rfl (ly12_o h0) (ly12_r15 h0) ?_
        refine mx_iconst (0) (mx_d tX12_readPoint_0 34 rfl) (by decide) ?_
        refine mx_ialoadC 0 (mx_d tX12_readPoint_0 35 rfl) (ly12_s15 h0) (by decide) (mx_inbE (by decide)) ?_
        refine mx_aload_n (mx_d tX12_readPoint_0 36 rfl) rfl rfl ?_
        refine mx_getJ (mx_d tX12_readPoint_0 37 rfl) fX12_43 rfl rfl (ly12_o h0) ?_
        obtain ⟨hi8, h⟩ := mx_chkE h
        obtain ⟨m7, e_m7, h⟩ := mx_letE h
        refine mx_lastore (mx_d tX12_readPoint_0 38 rfl) (ly12_s21 h0) (mx_inbE hi8) (mx_eqz (z' := (e, m7)) (by rw [e_m7]) ?_)
        refine mx_aload_n (mx_d tX12_readPoint_0 39 rfl) rfl rfl ?_
        refine mx_getR (mx_d tX12_readPoint_0 40 rfl) fX12_101 rfl rfl (ly12_o h0) (ly12_r15 h0) ?_
        refine mx_iconst (0) (mx_d tX12_readPoint_0 41 rfl) (by decide) ?_
        refine mx_dup2 (mx_d tX12_readPoint_0 42 rfl) rfl rfl ?_
        refine mx_ialoadC 0 (mx_d tX12_readPoint_0 43 rfl) (ly12_s15 h0) (by decide) (mx_inbE (by decide)) ?_
        refine mx_iconst (1) (mx_d tX12_readPoint_0 44 rfl) (by decide) ?_
        refine mx_iadd (mx_d tX12_readPoint_0 45 rfl) ?_
        obtain ⟨m9, e_m9, h⟩ := mx_letE h
        refine mx_iastoreC 0 (mx_d tX12_readPoint_0 46 rfl) (ly12_s15 h0) (by decide) (mx_inbE (by decide)) (mx_eqz (z' := (e, m9)) (by rw [e_m9]) ?_)
        refine mx_aload_n (mx_d tX12_readPoint_0 47 rfl) rfl rfl ?_
        obtain ⟨r10, h_r10, h⟩ := Option.bind_eq_some_iff.mp h
        refine mx_cVv (mx_d tX12_readPoint_0 48 rfl) iX12_82 rfl vX12_go ⟨_, rfl, rfl⟩ (ly12_o h0) (CX12_go h0 h_r10) (by decide) rfl rfl (Nat.le_of_ble_eq_true rfl) ?_
        refine mx_iconst (1) (mx_d tX12_readPoint_0 49 rfl) (by decide) ?_
        obtain rfl := Option.some.inj h
        exact mx_zreturn (mx_d tX12_readPoint_0 50 rfl) rfl rfl ⟨rfl, rfl⟩
      · rw [if_neg hc6] at h
        refine mx_aload_n (mx_d tX12_readPoint_0 26 rfl) rfl rfl ?_
        refine mx_iconst (3) (mx_d tX12_readPoint_0 27 rfl) (by decide) ?_
        obtain ⟨r11, h_r11, h⟩ := Option.bind_eq_some_iff.mp h
        refine mx_cVi (mx_d tX12_readPoint_0 28 rfl) iX12_72 rfl vX12_bad ⟨_, rfl, rfl⟩ (ly12_o h0) (CX12_bad h0 h_r11) (by decide) rfl rfl (Nat.le_of_ble_eq_true rfl) ?_
        obtain ⟨hb12, h⟩ := mx_chkE h
        obtain rfl := Option.some.inj h
        exact mx_zreturn (mx_d tX12_readPoint_0 29 rfl) rfl (mx_nb (mx_b01E hb12)) ⟨rfl, rfl⟩
    · rw [if_pos hc4] at h
      refine mx_aload_n (mx_d tX12_readPoint_0 10 rfl) rfl rfl ?_
      refine mx_iconst (1) (mx_d tX12_readPoint_0 11 rfl) (by decide) ?_
      obtain ⟨r13, h_r13, h⟩ := Option.bind_eq_some_iff.mp h
      refine mx_cVi (mx_d tX12_readPoint_0 12 rfl) iX12_72 rfl vX12_bad ⟨_, rfl, rfl⟩ (ly12_o h0) (CX12_bad h0 h_r13) (by decide) rfl rfl (Nat.le_of_ble_eq_true rfl) ?_
      obtain ⟨hb14, h⟩ := mx_chkE h
      obtain rfl := Option.some.inj h
      exact mx_zreturn (mx_d tX12_readPoint_0 13 rfl) rfl (mx_nb (mx_b01E hb14)) ⟨rfl, rfl⟩
  · rw [if_pos hc2] at h
    refine mx_iconst (0) (mx_d tX12_readPoint_0 5 rfl) (by decide) ?_
    obtain rfl := Option.some.inj h
    exact mx_zreturn (mx_d tX12_readPoint_0 6 rfl) rfl rfl ⟨rfl, rfl⟩
def FX12_isHere (a : Nat) (m : mB) : Option (Int32 × mB) := Option.bind (FX12_isName a m) (fun r1 => (if r1 = 0 then Option.bind (FX12_bad a 1 m) (fun r8 => mx_chk (mx_b01 r8.1) ((some (r8.1, r8.2)))) else Option.bind (FX12_findIn (a + 9) 10 0 (m.1 (a + 3) 0) (m.2 a 12) m) (fun r3 => mx_let (mx_up m.1 a 13 r3, m.2) (fun m4 => (if (m4.1 a 13) = (-1) then Option.bind (FX12_bad a 3 m4) (fun r6 => (if r6.1 = 0 then (some (0, r6.2)) else (some (1, r6.2)))) else (some (1, m4)))))))
set_option maxRecDepth 20000 in
theorem CX12_isHere {G : mG} {l : Launch} {e : mE} {a : Nat} {m : mB} {r : (Int32 × mB)} (h0 : ly12 e a) (h : FX12_isHere a m = some r) : mx_Call G l MX12_isHere 4 0 0 [.ref a] (e, m) (fun v z => v = some (.int r.1) ∧ z = (e, r.2)) := by
  refine mx_entry (L := [.ref a]) (by decide +kernel) (Nat.le_of_ble_eq_true rfl) rfl ?_
  unfold FX12_isHere at h
  refine mx_aload_n (mx_d tX12_isHere_0 0 rfl) rfl rfl ?_
  obtain ⟨r1, h_r1, h⟩ := Option.bind_eq_some_iff.mp h
  refine mx_cVi (mx_d tX12_isHere_0 1 rfl) iX12_188 rfl vX12_isName ⟨_, rfl, rfl⟩ (ly12_o h0) (CX12_isName h0 h_r1) (by decide) rfl rfl (Nat.le_of_ble_eq_true rfl) ?_
  refine mx_if_ne (tgt := 13) (mx_d tX12_isHere_0 2 rfl) (by decide) (fun hc2 => ?_) (fun hc2 => ?_)
  · rw [if_neg hc2] at h
    refine mx_aload_n (mx_d tX12_isHere_0 7 rfl) rfl rfl ?_
    refine mx_aload_n (mx_d tX12_isHere_0 8 rfl) rfl rfl ?_
    refine mx_getR (mx_d tX12_isHere_0 9 rfl) fX12_120 rfl rfl (ly12_o h0) (ly12_r21 h0) ?_
    refine mx_iconst (0) (mx_d tX12_isHere_0 10 rfl) (by decide) ?_
    refine mx_aload_n (mx_d tX12_isHere_0 11 rfl) rfl rfl ?_
    refine mx_getR (mx_d tX12_isHere_0 12 rfl) fX12_101 rfl rfl (ly12_o h0) (ly12_r15 h0) ?_
    refine mx_iconst (0) (mx_d tX12_isHere_0 13 rfl) (by decide) ?_
    refine mx_ialoadC 0 (mx_d tX12_isHere_0 14 rfl) (ly12_s15 h0) (by decide) (mx_inbE (by decide)) ?_
    refine mx_aload_n (mx_d tX12_isHere_0 15 rfl) rfl rfl ?_
    refine mx_getJ (mx_d tX12_isHere_0 16 rfl) fX12_43 rfl rfl (ly12_o h0) ?_
    obtain ⟨r3, h_r3, h⟩ := Option.bind_eq_some_iff.mp h
    refine mx_cSi (mx_d tX12_isHere_0 17 rfl) iX12_192 rfl sX12_findIn (CX12_findIn (ly12_s21 h0) h_r3) (by decide) rfl rfl (Nat.le_of_ble_eq_true rfl) ?_
    obtain ⟨m4, e_m4, h⟩ := mx_letE h
    refine mx_putI (mx_d tX12_isHere_0 18 rfl) fX12_79 rfl ⟨_, rfl, rfl⟩ rfl (ly12_o h0) (mx_eqz (z' := (e, m4)) (by rw [e_m4]) ?_)
    refine mx_aload_n (mx_d tX12_isHere_0 19 rfl) rfl rfl ?_
    refine mx_getI (mx_d tX12_isHere_0 20 rfl) fX12_79 rfl (Or.inl rfl) (ly12_o h0) ?_
    refine mx_iconst ((-1)) (mx_d tX12_isHere_0 21 rfl) (by decide) ?_
    refine mx_icmp_ne (tgt := 51) (mx_d tX12_isHere_0 22 rfl) (by decide) (fun hc5 => ?_) (fun hc5 => ?_)
    · rw [if_neg hc5] at h
      refine mx_iconst (1) (mx_d tX12_isHere_0 27 rfl) (by decide) ?_
      refine mx_goto (tgt := 56) (mx_d tX12_isHere_0 28 rfl) (by decide) ?_
      obtain rfl := Option.some.inj h
      exact mx_zreturn (mx_d tX12_isHere_0 30 rfl) rfl rfl ⟨rfl, rfl⟩
    · rw [if_pos hc5] at h
      refine mx_aload_n (mx_d tX12_isHere_0 23 rfl) rfl rfl ?_
      refine mx_iconst (3) (mx_d tX12_isHere_0 24 rfl) (by decide) ?_
      obtain ⟨r6, h_r6, h⟩ := Option.bind_eq_some_iff.mp h
      refine mx_cVi (mx_d tX12_isHere_0 25 rfl) iX12_72 rfl vX12_bad ⟨_, rfl, rfl⟩ (ly12_o h0) (CX12_bad h0 h_r6) (by decide) rfl rfl (Nat.le_of_ble_eq_true rfl) ?_
      refine mx_if_eq (tgt := 55) (mx_d tX12_isHere_0 26 rfl) (by decide) (fun hc7 => ?_) (fun hc7 => ?_)
      · rw [if_pos hc7] at h
        refine mx_iconst (0) (mx_d tX12_isHere_0 29 rfl) (by decide) ?_
        obtain rfl := Option.some.inj h
        exact mx_zreturn (mx_d tX12_isHere_0 30 rfl) rfl rfl ⟨rfl, rfl⟩
      · rw [if_neg hc7] at h
        refine mx_iconst (1) (mx_d tX12_isHere_0 27 rfl) (by decide) ?_
        refine mx_goto (tgt := 56) (mx_d tX12_isHere_0 28 rfl) (by decide) ?_
        obtain rfl := Option.some.inj h
        exact mx_zreturn (mx_d tX12_isHere_0 30 rfl) rfl rfl ⟨rfl, rfl⟩
  · rw [if_pos hc2] at h
    refine mx_aload_n (mx_d tX12_isHere_0 3 rfl) rfl rfl ?_
    refine mx_iconst (1) (mx_d tX12_isHere_0 4 rfl) (by decide) ?_
    obtain ⟨r8, h_r8, h⟩ := Option.bind_eq_some_iff.mp h
    refine mx_cVi (mx_d tX12_isHere_0 5 rfl) iX12_72 rfl vX12_bad ⟨_, rfl, rfl⟩ (ly12_o h0) (CX12_bad h0 h_r8) (by decide) rfl rfl (Nat.le_of_ble_eq_true rfl) ?_
    obtain ⟨hb9, h⟩ := mx_chkE h
    obtain rfl := Option.some.inj h
    exact mx_zreturn (mx_d tX12_isHere_0 6 rfl) rfl (mx_nb (mx_b01E hb9)) ⟨rfl, rfl⟩
def FX12_linkIn_L2 (q0 : Nat) (w0 : Nat) (y1 : Int32) (y2 : Int32) (m : mB) : Nat → Int32 → Option (Int32 ⊕ (Unit))
  | 0, _ => none
  | f + 1, y3 => mx_chk (mx_inb 1 w0) ((if (m.1 q0 (Int32.toNatClampNeg 1)) ≤ y3 then (some (.inr ())) else mx_chk (mx_inb (3 + y3) w0) (mx_let ((if (m.1 q0 (Int32.toNatClampNeg (3 + y3))) = y2 then mx_chk (mx_inb (33 + y3) w0) ((if (m.1 q0 (Int32.toNatClampNeg (33 + y3))) = y1 then (some (.inl y3)) else mx_let (y3 + 1) (fun v10 => (FX12_linkIn_L2 q0 w0 y1 y2 m f v10)))) else mx_let (y3 + 1) (fun v7 => (FX12_linkIn_L2 q0 w0 y1 y2 m f v7)))) (fun k5 => (if (m.1 q0 (Int32.toNatClampNeg (3 + y3))) = y1 then mx_chk (mx_inb (33 + y3) w0) ((if (m.1 q0 (Int32.toNatClampNeg (33 + y3))) = y2 then (some (.inl y3)) else k5)) else k5)))))
set_option maxRecDepth 20000 in
theorem CX12_linkIn_L2 {G : mG} {l : Launch} {e : mE} {Post : Option Value → mS → Prop} {q0 : Nat} {w0 : Nat} {y1 : Int32} {y2 : Int32} {m : mB} (g0 : mx_is e q0 100 w0) : ∀ (f : Nat) {y3 : Int32} {q : (Int32 ⊕ (Unit))}, FX12_linkIn_L2 q0 w0 y1 y2 m f y3 = some q → (∀ rr, q = .inl rr → Post (some (.int rr)) (e, m)) → (∀ u, q = .inr u → mx_Fr G l MX12_linkIn 1 0 0 Post 55 [.float 0, .float 0, .float 0, .float 0] [] (e, m)) → mx_Fr G l MX12_linkIn 1 0 0 Post 2 [.ref q0, .int y1, .int y2, .int y3] [] (e, m) := by
  intro f
  induction f with
  | zero => intro _ _ h; cases h
  | succ f ih =>
    intro y3 q h hret hex
    rw [FX12_linkIn_L2] at h
    refine mx_iload_n (mx_d tX12_linkIn_0 2 rfl) rfl rfl ?_
    refine mx_aload_n (mx_d tX12_linkIn_0 3 rfl) rfl rfl ?_
    refine mx_iconst (1) (mx_d tX12_linkIn_0 4 rfl) (by decide) ?_
    obtain ⟨hi1, h⟩ := mx_chkE h
    refine mx_iaload (mx_d tX12_linkIn_0 5 rfl) g0 (mx_inbE hi1) ?_
    refine mx_icmp_ge (tgt := 55) (mx_d tX12_linkIn_0 6 rfl) (by decide) (fun hc2 => ?_) (fun hc2 => ?_)
    · rw [if_pos hc2] at h
      obtain rfl := Option.some.inj h
      refine mx_forget (L' := [.float 0, .float 0, .float 0, .float 0]) trivial ?_
      exact (hex _ rfl)
    · rw [if_neg hc2] at h
      refine mx_aload_n (mx_d tX12_linkIn_0 7 rfl) rfl rfl ?_
      refine mx_iconst (3) (mx_d tX12_linkIn_0 8 rfl) (by decide) ?_
      refine mx_iload_n (mx_d tX12_linkIn_0 9 rfl) rfl rfl ?_
      refine mx_iadd (mx_d tX12_linkIn_0 10 rfl) ?_
      obtain ⟨hi3, h⟩ := mx_chkE h
      refine mx_iaload (mx_d tX12_linkIn_0 11 rfl) g0 (mx_inbE hi3) ?_
      refine mx_iload_n (mx_d tX12_linkIn_0 12 rfl) rfl rfl ?_
      refine mx_letK (J := fun k5 => k5 = some q → mx_Fr G l MX12_linkIn 1 0 0 Post 28 [.ref q0, .int y1, .int y2, .int y3] [] (e, m)) h ?_ (fun k5 j_k5 h => ?_)
      · intro h
        refine mx_aload_n (mx_d tX12_linkIn_0 21 rfl) rfl rfl ?_
        refine mx_iconst (3) (mx_d tX12_linkIn_0 22 rfl) (by decide) ?_
        refine mx_iload_n (mx_d tX12_linkIn_0 23 rfl) rfl rfl ?_
        refine mx_iadd (mx_d tX12_linkIn_0 24 rfl) ?_
        refine mx_iaload (mx_d tX12_linkIn_0 25 rfl) g0 (mx_inbE hi3) ?_
        refine mx_iload_n (mx_d tX12_linkIn_0 26 rfl) rfl rfl ?_
        refine mx_icmp_ne (tgt := 49) (mx_d tX12_linkIn_0 27 rfl) (by decide) (fun hc6 => ?_) (fun hc6 => ?_)
        · rw [if_neg hc6] at h
          obtain ⟨v7, e_v7, h⟩ := mx_letE h
          refine mx_iinc v7 (L2 := [.ref q0, .int y1, .int y2, .int v7]) (mx_d tX12_linkIn_0 37 rfl) rfl (by rw [e_v7]; rfl) (by decide) rfl ?_
          refine mx_goto (tgt := 2) (mx_d tX12_linkIn_0 38 rfl) (by decide) ?_
          exact ih h hret hex
        · rw [if_pos hc6] at h
          refine mx_aload_n (mx_d tX12_linkIn_0 28 rfl) rfl rfl ?_
          refine mx_bipush (33) (mx_d tX12_linkIn_0 29 rfl) (by decide) ?_
          refine mx_iload_n (mx_d tX12_linkIn_0 30 rfl) rfl rfl ?_
          refine mx_iadd (mx_d tX12_linkIn_0 31 rfl) ?_
          obtain ⟨hi8, h⟩ := mx_chkE h
          refine mx_iaload (mx_d tX12_linkIn_0 32 rfl) g0 (mx_inbE hi8) ?_
          refine mx_iload_n (mx_d tX12_linkIn_0 33 rfl) rfl rfl ?_
          refine mx_icmp_ne (tgt := 49) (mx_d tX12_linkIn_0 34 rfl) (by decide) (fun hc9 => ?_) (fun hc9 => ?_)
          · rw [if_neg hc9] at h
            obtain ⟨v10, e_v10, h⟩ := mx_letE h
            refine mx_iinc v10 (L2 := [.ref q0, .int y1, .int y2, .int v10]) (mx_d tX12_linkIn_0 37 rfl) rfl (by rw [e_v10]; rfl) (by decide) rfl ?_
            refine mx_goto (tgt := 2) (mx_d tX12_linkIn_0 38 rfl) (by decide) ?_
            exact ih h hret hex
          · rw [if_pos hc9] at h
            refine mx_iload_n (mx_d tX12_linkIn_0 35 rfl) rfl rfl ?_
            obtain rfl := Option.some.inj h
            exact mx_ireturn (mx_d tX12_linkIn_0 36 rfl) rfl (hret y3 rfl)
      refine mx_icmp_ne (tgt := 28) (mx_d tX12_linkIn_0 13 rfl) (by decide) (fun hc4 => ?_) (fun hc4 => ?_)
      · rw [if_neg hc4] at h
        exact j_k5 h
      · rw [if_pos hc4] at h
        refine mx_aload_n (mx_d tX12_linkIn_0 14 rfl) rfl rfl ?_
        refine mx_bipush (33) (mx_d tX12_linkIn_0 15 rfl) (by decide) ?_
        refine mx_iload_n (mx_d tX12_linkIn_0 16 rfl) rfl rfl ?_
        refine mx_iadd (mx_d tX12_linkIn_0 17 rfl) ?_
        obtain ⟨hi11, h⟩ := mx_chkE h
        refine mx_iaload (mx_d tX12_linkIn_0 18 rfl) g0 (mx_inbE hi11) ?_
        refine mx_iload_n (mx_d tX12_linkIn_0 19 rfl) rfl rfl ?_
        refine mx_icmp_eq (tgt := 47) (mx_d tX12_linkIn_0 20 rfl) (by decide) (fun hc12 => ?_) (fun hc12 => ?_)
        · rw [if_pos hc12] at h
          refine mx_iload_n (mx_d tX12_linkIn_0 35 rfl) rfl rfl ?_
          obtain rfl := Option.some.inj h
          exact mx_ireturn (mx_d tX12_linkIn_0 36 rfl) rfl (hret y3 rfl)
        · rw [if_neg hc12] at h
          exact j_k5 h
def FX12_linkIn (p0 : Nat) (n0 : Nat) (x1 : Int32) (x2 : Int32) (m : mB) : Option Int32 := Option.bind (FX12_linkIn_L2 p0 n0 x1 x2 m mx_FU 0) (fun q13 => Sum.elim (fun rr => some rr) (fun u14 => (some (-1))) q13)
set_option maxRecDepth 20000 in
theorem CX12_linkIn {G : mG} {l : Launch} {e : mE} {p0 : Nat} {n0 : Nat} {x1 : Int32} {x2 : Int32} {m : mB} {r : Int32} (h1 : mx_is e p0 100 n0) (h : FX12_linkIn p0 n0 x1 x2 m = some r) : mx_Call G l MX12_linkIn 1 0 0 [.ref p0, .int x1, .int x2] (e, m) (fun v z => v = some (.int r) ∧ z = (e, m)) := by
  refine mx_entry (L := [.ref p0, .int x1, .int x2, .float 0]) (by decide +kernel) (Nat.le_of_ble_eq_true rfl) rfl ?_
  unfold FX12_linkIn at h
  refine mx_iconst (0) (mx_d tX12_linkIn_0 0 rfl) (by decide) ?_
  refine mx_istore_n (L2 := [.ref p0, .int x1, .int x2, .int 0]) (mx_d tX12_linkIn_0 1 rfl) rfl (by decide) (by rfl) ?_
  obtain ⟨q13, h_q13, h⟩ := Option.bind_eq_some_iff.mp h
  refine CX12_linkIn_L2 h1 mx_FU h_q13 (fun rr15 e_rr15 => ?_) (fun u14 e_u14 => ?_)
  · subst e_rr15
    rw [Sum.elim_inl] at h
    obtain rfl := Option.some.inj h
    exact ⟨rfl, rfl⟩
  · subst e_u14
    rw [Sum.elim_inr] at h
    refine mx_iconst ((-1)) (mx_d tX12_linkIn_0 39 rfl) (by decide) ?_
    obtain rfl := Option.some.inj h
    exact mx_ireturn (mx_d tX12_linkIn_0 40 rfl) rfl ⟨rfl, rfl⟩
def FX12_readLink (a : Nat) (m : mB) : Option (Int32 × mB) := Option.bind (FX12_readFirst a 1 30 m) (fun r1 => (if r1.1 = 0 then (some (0, r1.2)) else Option.bind (FX12_isHere a r1.2) (fun r3 => (if r3.1 = 0 then (some (0, r3.2)) else mx_let (r3.2.1 (a + 3) 1) (fun v5 => mx_let (r3.2.1 a 13) (fun v6 => Option.bind (FX12_go a r3.2) (fun r7 => Option.bind (FX12_isHere a r7) (fun r8 => (if r8.1 = 0 then (some (0, r8.2)) else (if (r8.2.1 a 13) = v6 then Option.bind (FX12_bad a 3 r8.2) (fun r11 => mx_chk (mx_b01 r11.1) ((some (r11.1, r11.2)))) else Option.bind (FX12_linkIn (a + 3) 125 v6 (r8.2.1 a 13) r8.2) (fun r13 => (if r13 = (-1) then mx_chk (mx_inb (3 + v5) 125) (mx_let (mx_up r8.2.1 (a + 3) (Int32.toNatClampNeg (3 + v5)) v6, r8.2.2) (fun m15 => mx_chk (mx_inb (33 + v5) 125) (mx_let (mx_up m15.1 (a + 3) (Int32.toNatClampNeg (33 + v5)) (m15.1 a 13), m15.2) (fun m17 => Option.bind (FX12_go a m17) (fun r19 => Option.bind (FX12_readNumber a 1 99 r19) (fun r20 => Option.bind (FX12_noted a (63 + v5) r20.1 r20.2) (fun r21 => (if r21.1 = 0 then (some (0, r21.2)) else mx_let (mx_up r21.2.1 (a + 3) 1 ((r21.2.1 (a + 3) 1) + 1), r21.2.2) (fun m23 => (some (1, m23))))))))))) else Option.bind (FX12_bad a 3 r8.2) (fun r24 => mx_chk (mx_b01 r24.1) ((some (r24.1, r24.2))))))))))))))))
set_option maxRecDepth 20000 in
theorem CX12_readLink {G : mG} {l : Launch} {e : mE} {a : Nat} {m : mB} {r : (Int32 × mB)} (h0 : ly12 e a) (h : FX12_readLink a m = some r) : mx_Call G l MX12_readLink 5 0 0 [.ref a] (e, m) (fun v z => v = some (.int r.1) ∧ z = (e, r.2)) := by
  refine mx_entry (L := [.ref a, .float 0, .float 0]) (by decide +kernel) (Nat.le_of_ble_eq_true rfl) rfl ?_
  unfold FX12_readLink at h
  refine mx_aload_n (mx_d tX12_readLink_0 0 rfl) rfl rfl ?_
  refine mx_iconst (1) (mx_d tX12_readLink_0 1 rfl) (by decide) ?_
  refine mx_bipush (30) (mx_d tX12_readLink_0 2 rfl) (by decide) ?_
  obtain ⟨r1, h_r1, h⟩ := Option.bind_eq_some_iff.mp h
  refine mx_cVi (mx_d tX12_readLink_0 3 rfl) iX12_184 rfl vX12_readFirst ⟨_, rfl, rfl⟩ (ly12_o h0) (CX12_readFirst h0 h_r1) (by decide) rfl rfl (Nat.le_of_ble_eq_true rfl) ?_
  refine mx_if_eq (tgt := 17) (mx_d tX12_readLink_0 4 rfl) (by decide) (fun hc2 => ?_) (fun hc2 => ?_)
  · rw [if_pos hc2] at h
    refine mx_iconst (0) (mx_d tX12_readLink_0 8 rfl) (by decide) ?_
    obtain rfl := Option.some.inj h
    exact mx_zreturn (mx_d tX12_readLink_0 9 rfl) rfl rfl ⟨rfl, rfl⟩
  · rw [if_neg hc2] at h
    refine mx_aload_n (mx_d tX12_readLink_0 5 rfl) rfl rfl ?_
    obtain ⟨r3, h_r3, h⟩ := Option.bind_eq_some_iff.mp h
    refine mx_cVi (mx_d tX12_readLink_0 6 rfl) iX12_196 rfl vX12_isHere ⟨_, rfl, rfl⟩ (ly12_o h0) (CX12_isHere h0 h_r3) (by decide) rfl rfl (Nat.le_of_ble_eq_true rfl) ?_
    refine mx_if_ne (tgt := 19) (mx_d tX12_readLink_0 7 rfl) (by decide) (fun hc4 => ?_) (fun hc4 => ?_)
    · rw [if_neg hc4] at h
      refine mx_aload_n (mx_d tX12_readLink_0 10 rfl) rfl rfl ?_
      refine mx_getR (mx_d tX12_readLink_0 11 rfl) fX12_101 rfl rfl (ly12_o h0) (ly12_r15 h0) ?_
      refine mx_iconst (1) (mx_d tX12_readLink_0 12 rfl) (by decide) ?_
      refine mx_ialoadC 1 (mx_d tX12_readLink_0 13 rfl) (ly12_s15 h0) (by decide) (mx_inbE (by decide)) ?_
      obtain ⟨v5, e_v5, h⟩ := mx_letE h
      refine mx_istore_n (L2 := [.ref a, .int v5, .float 0]) (mx_d tX12_readLink_0 14 rfl) rfl (by decide) (by rw [e_v5]; rfl) ?_
      refine mx_aload_n (mx_d tX12_readLink_0 15 rfl) rfl rfl ?_
      refine mx_getI (mx_d tX12_readLink_0 16 rfl) fX12_79 rfl (Or.inl rfl) (ly12_o h0) ?_
      obtain ⟨v6, e_v6, h⟩ := mx_letE h
      refine mx_istore_n (L2 := [.ref a, .int v5, .int v6]) (mx_d tX12_readLink_0 17 rfl) rfl (by decide) (by rw [e_v6]; rfl) ?_
      refine mx_aload_n (mx_d tX12_readLink_0 18 rfl) rfl rfl ?_
      obtain ⟨r7, h_r7, h⟩ := Option.bind_eq_some_iff.mp h
      refine mx_cVv (mx_d tX12_readLink_0 19 rfl) iX12_82 rfl vX12_go ⟨_, rfl, rfl⟩ (ly12_o h0) (CX12_go h0 h_r7) (by decide) rfl rfl (Nat.le_of_ble_eq_true rfl) ?_
      refine mx_aload_n (mx_d tX12_readLink_0 20 rfl) rfl rfl ?_
      obtain ⟨r8, h_r8, h⟩ := Option.bind_eq_some_iff.mp h
      refine mx_cVi (mx_d tX12_readLink_0 21 rfl) iX12_196 rfl vX12_isHere ⟨_, rfl, rfl⟩ (ly12_o h0) (CX12_isHere h0 h_r8) (by decide) rfl rfl (Nat.le_of_ble_eq_true rfl) ?_
      refine mx_if_ne (tgt := 44) (mx_d tX12_readLink_0 22 rfl) (by decide) (fun hc9 => ?_) (fun hc9 => ?_)
      · rw [if_neg hc9] at h
        refine mx_aload_n (mx_d tX12_readLink_0 25 rfl) rfl rfl ?_
        refine mx_getI (mx_d tX12_readLink_0 26 rfl) fX12_79 rfl (Or.inl rfl) (ly12_o h0) ?_
        refine mx_iload_n (mx_d tX12_readLink_0 27 rfl) rfl rfl ?_
        refine mx_icmp_eq (tgt := 68) (mx_d tX12_readLink_0 28 rfl) (by decide) (fun hc10 => ?_) (fun hc10 => ?_)
        · rw [if_pos hc10] at h
          refine mx_aload_n (mx_d tX12_readLink_0 37 rfl) rfl rfl ?_
          refine mx_iconst (3) (mx_d tX12_readLink_0 38 rfl) (by decide) ?_
          obtain ⟨r11, h_r11, h⟩ := Option.bind_eq_some_iff.mp h
          refine mx_cVi (mx_d tX12_readLink_0 39 rfl) iX12_72 rfl vX12_bad ⟨_, rfl, rfl⟩ (ly12_o h0) (CX12_bad h0 h_r11) (by decide) rfl rfl (Nat.le_of_ble_eq_true rfl) ?_
          obtain ⟨hb12, h⟩ := mx_chkE h
          obtain rfl := Option.some.inj h
          exact mx_zreturn (mx_d tX12_readLink_0 40 rfl) rfl (mx_nb (mx_b01E hb12)) ⟨rfl, rfl⟩
        · rw [if_neg hc10] at h
          refine mx_aload_n (mx_d tX12_readLink_0 29 rfl) rfl rfl ?_
          refine mx_getR (mx_d tX12_readLink_0 30 rfl) fX12_101 rfl rfl (ly12_o h0) (ly12_r15 h0) ?_
          refine mx_iload_n (mx_d tX12_readLink_0 31 rfl) rfl rfl ?_
          refine mx_aload_n (mx_d tX12_readLink_0 32 rfl) rfl rfl ?_
          refine mx_getI (mx_d tX12_readLink_0 33 rfl) fX12_79 rfl (Or.inl rfl) (ly12_o h0) ?_
          obtain ⟨r13, h_r13, h⟩ := Option.bind_eq_some_iff.mp h
          refine mx_cSi (mx_d tX12_readLink_0 34 rfl) iX12_199 rfl sX12_linkIn (CX12_linkIn (ly12_s15 h0) h_r13) (by decide) rfl rfl (Nat.le_of_ble_eq_true rfl) ?_
          refine mx_iconst ((-1)) (mx_d tX12_readLink_0 35 rfl) (by decide) ?_
          refine mx_icmp_eq (tgt := 74) (mx_d tX12_readLink_0 36 rfl) (by decide) (fun hc14 => ?_) (fun hc14 => ?_)
          · rw [if_pos hc14] at h
            refine mx_aload_n (mx_d tX12_readLink_0 41 rfl) rfl rfl ?_
            refine mx_getR (mx_d tX12_readLink_0 42 rfl) fX12_101 rfl rfl (ly12_o h0) (ly12_r15 h0) ?_
            refine mx_iconst (3) (mx_d tX12_readLink_0 43 rfl) (by decide) ?_
            refine mx_iload_n (mx_d tX12_readLink_0 44 rfl) rfl rfl ?_
            refine mx_iadd (mx_d tX12_readLink_0 45 rfl) ?_
            refine mx_iload_n (mx_d tX12_readLink_0 46 rfl) rfl rfl ?_
            obtain ⟨hi16, h⟩ := mx_chkE h
            obtain ⟨m15, e_m15, h⟩ := mx_letE h
            refine mx_iastore (mx_d tX12_readLink_0 47 rfl) (ly12_s15 h0) (mx_inbE hi16) (mx_eqz (z' := (e, m15)) (by rw [e_m15]) ?_)
            refine mx_aload_n (mx_d tX12_readLink_0 48 rfl) rfl rfl ?_
            refine mx_getR (mx_d tX12_readLink_0 49 rfl) fX12_101 rfl rfl (ly12_o h0) (ly12_r15 h0) ?_
            refine mx_bipush (33) (mx_d tX12_readLink_0 50 rfl) (by decide) ?_
            refine mx_iload_n (mx_d tX12_readLink_0 51 rfl) rfl rfl ?_
            refine mx_iadd (mx_d tX12_readLink_0 52 rfl) ?_
            refine mx_aload_n (mx_d tX12_readLink_0 53 rfl) rfl rfl ?_
            refine mx_getI (mx_d tX12_readLink_0 54 rfl) fX12_79 rfl (Or.inl rfl) (ly12_o h0) ?_
            obtain ⟨hi18, h⟩ := mx_chkE h
            obtain ⟨m17, e_m17, h⟩ := mx_letE h
            refine mx_iastore (mx_d tX12_readLink_0 55 rfl) (ly12_s15 h0) (mx_inbE hi18) (mx_eqz (z' := (e, m17)) (by rw [e_m17]) ?_)
            refine mx_aload_n (mx_d tX12_readLink_0 56 rfl) rfl rfl ?_
            obtain ⟨r19, h_r19, h⟩ := Option.bind_eq_some_iff.mp h
            refine mx_cVv (mx_d tX12_readLink_0 57 rfl) iX12_82 rfl vX12_go ⟨_, rfl, rfl⟩ (ly12_o h0) (CX12_go h0 h_r19) (by decide) rfl rfl (Nat.le_of_ble_eq_true rfl) ?_
            refine mx_aload_n (mx_d tX12_readLink_0 58 rfl) rfl rfl ?_
            refine mx_bipush (63) (mx_d tX12_readLink_0 59 rfl) (by decide) ?_
            refine mx_iload_n (mx_d tX12_readLink_1 0 rfl) rfl rfl ?_
            refine mx_iadd (mx_d tX12_readLink_1 1 rfl) ?_
            refine mx_aload_n (mx_d tX12_readLink_1 2 rfl) rfl rfl ?_
            refine mx_iconst (1) (mx_d tX12_readLink_1 3 rfl) (by decide) ?_
            refine mx_bipush (99) (mx_d tX12_readLink_1 4 rfl) (by decide) ?_
            obtain ⟨r20, h_r20, h⟩ := Option.bind_eq_some_iff.mp h
            refine mx_cVi (mx_d tX12_readLink_1 5 rfl) iX12_203 rfl vX12_readNumber ⟨_, rfl, rfl⟩ (ly12_o h0) (CX12_readNumber h0 h_r20) (by decide) rfl rfl (Nat.le_of_ble_eq_true rfl) ?_
            obtain ⟨r21, h_r21, h⟩ := Option.bind_eq_some_iff.mp h
            refine mx_cVi (mx_d tX12_readLink_1 6 rfl) iX12_206 rfl vX12_noted ⟨_, rfl, rfl⟩ (ly12_o h0) (CX12_noted h0 h_r21) (by decide) rfl rfl (Nat.le_of_ble_eq_true rfl) ?_
            refine mx_if_ne (tgt := 120) (mx_d tX12_readLink_1 7 rfl) (by decide) (fun hc22 => ?_) (fun hc22 => ?_)
            · rw [if_neg hc22] at h
              refine mx_aload_n (mx_d tX12_readLink_1 10 rfl) rfl rfl ?_
              refine mx_getR (mx_d tX12_readLink_1 11 rfl) fX12_101 rfl rfl (ly12_o h0) (ly12_r15 h0) ?_
              refine mx_iconst (1) (mx_d tX12_readLink_1 12 rfl) (by decide) ?_
              refine mx_dup2 (mx_d tX12_readLink_1 13 rfl) rfl rfl ?_
              refine mx_ialoadC 1 (mx_d tX12_readLink_1 14 rfl) (ly12_s15 h0) (by decide) (mx_inbE (by decide)) ?_
              refine mx_iconst (1) (mx_d tX12_readLink_1 15 rfl) (by decide) ?_
              refine mx_iadd (mx_d tX12_readLink_1 16 rfl) ?_
              obtain ⟨m23, e_m23, h⟩ := mx_letE h
              refine mx_iastoreC 1 (mx_d tX12_readLink_1 17 rfl) (ly12_s15 h0) (by decide) (mx_inbE (by decide)) (mx_eqz (z' := (e, m23)) (by rw [e_m23]) ?_)
              refine mx_iconst (1) (mx_d tX12_readLink_1 18 rfl) (by decide) ?_
              obtain rfl := Option.some.inj h
              exact mx_zreturn (mx_d tX12_readLink_1 19 rfl) rfl rfl ⟨rfl, rfl⟩
            · rw [if_pos hc22] at h
              refine mx_iconst (0) (mx_d tX12_readLink_1 8 rfl) (by decide) ?_
              obtain rfl := Option.some.inj h
              exact mx_zreturn (mx_d tX12_readLink_1 9 rfl) rfl rfl ⟨rfl, rfl⟩
          · rw [if_neg hc14] at h
            refine mx_aload_n (mx_d tX12_readLink_0 37 rfl) rfl rfl ?_
            refine mx_iconst (3) (mx_d tX12_readLink_0 38 rfl) (by decide) ?_
            obtain ⟨r24, h_r24, h⟩ := Option.bind_eq_some_iff.mp h
            refine mx_cVi (mx_d tX12_readLink_0 39 rfl) iX12_72 rfl vX12_bad ⟨_, rfl, rfl⟩ (ly12_o h0) (CX12_bad h0 h_r24) (by decide) rfl rfl (Nat.le_of_ble_eq_true rfl) ?_
            obtain ⟨hb25, h⟩ := mx_chkE h
            obtain rfl := Option.some.inj h
            exact mx_zreturn (mx_d tX12_readLink_0 40 rfl) rfl (mx_nb (mx_b01E hb25)) ⟨rfl, rfl⟩
      · rw [if_pos hc9] at h
        refine mx_iconst (0) (mx_d tX12_readLink_0 23 rfl) (by decide) ?_
        obtain rfl := Option.some.inj h
        exact mx_zreturn (mx_d tX12_readLink_0 24 rfl) rfl rfl ⟨rfl, rfl⟩
    · rw [if_pos hc4] at h
      refine mx_iconst (0) (mx_d tX12_readLink_0 8 rfl) (by decide) ?_
      obtain rfl := Option.some.inj h
      exact mx_zreturn (mx_d tX12_readLink_0 9 rfl) rfl rfl ⟨rfl, rfl⟩
def FX12_readPair (a : Nat) (m : mB) : Option (Int32 × mB) := Option.bind (FX12_go a m) (fun r1 => Option.bind (FX12_isHere a r1) (fun r2 => (if r2.1 = 0 then (some (0, r2.2)) else mx_let (r2.2.1 a 13) (fun v4 => Option.bind (FX12_go a r2.2) (fun r5 => Option.bind (FX12_isHere a r5) (fun r6 => (if r6.1 = 0 then (some (0, r6.2)) else (if (r6.2.1 a 13) = v4 then Option.bind (FX12_bad a 3 r6.2) (fun r9 => mx_chk (mx_b01 r9.1) ((some (r9.1, r9.2)))) else Option.bind (FX12_linkIn (a + 3) 125 v4 (r6.2.1 a 13) r6.2) (fun r11 => (if r11 = (-1) then Option.bind (FX12_bad a 3 r6.2) (fun r13 => mx_chk (mx_b01 r13.1) ((some (r13.1, r13.2)))) else mx_chk (mx_inb (93 + v4) 125) ((if (r6.2.1 (a + 3) (Int32.toNatClampNeg (93 + v4))) = (-1) then mx_chk (mx_inb (93 + (r6.2.1 a 13)) 125) ((if (r6.2.1 (a + 3) (Int32.toNatClampNeg (93 + (r6.2.1 a 13)))) = (-1) then mx_let (mx_up r6.2.1 (a + 3) (Int32.toNatClampNeg (93 + v4)) (r6.2.1 a 13), r6.2.2) (fun m21 => mx_chk (mx_inb (93 + (m21.1 a 13)) 125) (mx_let (mx_up m21.1 (a + 3) (Int32.toNatClampNeg (93 + (m21.1 a 13))) v4, m21.2) (fun m22 => Option.bind (FX12_go a m22) (fun r24 => (some (1, r24)))))) else Option.bind (FX12_bad a 3 r6.2) (fun r25 => mx_chk (mx_b01 r25.1) ((some (r25.1, r25.2)))))) else Option.bind (FX12_bad a 3 r6.2) (fun r17 => mx_chk (mx_b01 r17.1) ((some (r17.1, r17.2))))))))))))))))
set_option maxRecDepth 20000 in
theorem CX12_readPair {G : mG} {l : Launch} {e : mE} {a : Nat} {m : mB} {r : (Int32 × mB)} (h0 : ly12 e a) (h : FX12_readPair a m = some r) : mx_Call G l MX12_readPair 5 0 0 [.ref a] (e, m) (fun v z => v = some (.int r.1) ∧ z = (e, r.2)) := by
  refine mx_entry (L := [.ref a, .float 0]) (by decide +kernel) (Nat.le_of_ble_eq_true rfl) rfl ?_
  unfold FX12_readPair at h
  refine mx_aload_n (mx_d tX12_readPair_0 0 rfl) rfl rfl ?_
  obtain ⟨r1, h_r1, h⟩ := Option.bind_eq_some_iff.mp h
  refine mx_cVv (mx_d tX12_readPair_0 1 rfl) iX12_82 rfl vX12_go ⟨_, rfl, rfl⟩ (ly12_o h0) (CX12_go h0 h_r1) (by decide) rfl rfl (Nat.le_of_ble_eq_true rfl) ?_
  refine mx_aload_n (mx_d tX12_readPair_0 2 rfl) rfl rfl ?_
  obtain ⟨r2, h_r2, h⟩ := Option.bind_eq_some_iff.mp h
  refine mx_cVi (mx_d tX12_readPair_0 3 rfl) iX12_196 rfl vX12_isHere ⟨_, rfl, rfl⟩ (ly12_o h0) (CX12_isHere h0 h_r2) (by decide) rfl rfl (Nat.le_of_ble_eq_true rfl) ?_
  refine mx_if_ne (tgt := 13) (mx_d tX12_readPair_0 4 rfl) (by decide) (fun hc3 => ?_) (fun hc3 => ?_)
  · rw [if_neg hc3] at h
    refine mx_aload_n (mx_d tX12_readPair_0 7 rfl) rfl rfl ?_
    refine mx_getI (mx_d tX12_readPair_0 8 rfl) fX12_79 rfl (Or.inl rfl) (ly12_o h0) ?_
    obtain ⟨v4, e_v4, h⟩ := mx_letE h
    refine mx_istore_n (L2 := [.ref a, .int v4]) (mx_d tX12_readPair_0 9 rfl) rfl (by decide) (by rw [e_v4]; rfl) ?_
    refine mx_aload_n (mx_d tX12_readPair_0 10 rfl) rfl rfl ?_
    obtain ⟨r5, h_r5, h⟩ := Option.bind_eq_some_iff.mp h
    refine mx_cVv (mx_d tX12_readPair_0 11 rfl) iX12_82 rfl vX12_go ⟨_, rfl, rfl⟩ (ly12_o h0) (CX12_go h0 h_r5) (by decide) rfl rfl (Nat.le_of_ble_eq_true rfl) ?_
    refine mx_aload_n (mx_d tX12_readPair_0 12 rfl) rfl rfl ?_
    obtain ⟨r6, h_r6, h⟩ := Option.bind_eq_some_iff.mp h
    refine mx_cVi (mx_d tX12_readPair_0 13 rfl) iX12_196 rfl vX12_isHere ⟨_, rfl, rfl⟩ (ly12_o h0) (CX12_isHere h0 h_r6) (by decide) rfl rfl (Nat.le_of_ble_eq_true rfl) ?_
    refine mx_if_ne (tgt := 31) (mx_d tX12_readPair_0 14 rfl) (by decide) (fun hc7 => ?_) (fun hc7 => ?_)
    · rw [if_neg hc7] at h
      refine mx_aload_n (mx_d tX12_readPair_0 17 rfl) rfl rfl ?_
      refine mx_getI (mx_d tX12_readPair_0 18 rfl) fX12_79 rfl (Or.inl rfl) (ly12_o h0) ?_
      refine mx_iload_n (mx_d tX12_readPair_0 19 rfl) rfl rfl ?_
      refine mx_icmp_eq (tgt := 84) (mx_d tX12_readPair_0 20 rfl) (by decide) (fun hc8 => ?_) (fun hc8 => ?_)
      · rw [if_pos hc8] at h
        refine mx_aload_n (mx_d tX12_readPair_0 46 rfl) rfl rfl ?_
        refine mx_iconst (3) (mx_d tX12_readPair_0 47 rfl) (by decide) ?_
        obtain ⟨r9, h_r9, h⟩ := Option.bind_eq_some_iff.mp h
        refine mx_cVi (mx_d tX12_readPair_0 48 rfl) iX12_72 rfl vX12_bad ⟨_, rfl, rfl⟩ (ly12_o h0) (CX12_bad h0 h_r9) (by decide) rfl rfl (Nat.le_of_ble_eq_true rfl) ?_
        obtain ⟨hb10, h⟩ := mx_chkE h
        obtain rfl := Option.some.inj h
        exact mx_zreturn (mx_d tX12_readPair_0 49 rfl) rfl (mx_nb (mx_b01E hb10)) ⟨rfl, rfl⟩
      · rw [if_neg hc8] at h
        refine mx_aload_n (mx_d tX12_readPair_0 21 rfl) rfl rfl ?_
        refine mx_getR (mx_d tX12_readPair_0 22 rfl) fX12_101 rfl rfl (ly12_o h0) (ly12_r15 h0) ?_
        refine mx_iload_n (mx_d tX12_readPair_0 23 rfl) rfl rfl ?_
        refine mx_aload_n (mx_d tX12_readPair_0 24 rfl) rfl rfl ?_
        refine mx_getI (mx_d tX12_readPair_0 25 rfl) fX12_79 rfl (Or.inl rfl) (ly12_o h0) ?_
        obtain ⟨r11, h_r11, h⟩ := Option.bind_eq_some_iff.mp h
        refine mx_cSi (mx_d tX12_readPair_0 26 rfl) iX12_199 rfl sX12_linkIn (CX12_linkIn (ly12_s15 h0) h_r11) (by decide) rfl rfl (Nat.le_of_ble_eq_true rfl) ?_
        refine mx_iconst ((-1)) (mx_d tX12_readPair_0 27 rfl) (by decide) ?_
        refine mx_icmp_eq (tgt := 84) (mx_d tX12_readPair_0 28 rfl) (by decide) (fun hc12 => ?_) (fun hc12 => ?_)
        · rw [if_pos hc12] at h
          refine mx_aload_n (mx_d tX12_readPair_0 46 rfl) rfl rfl ?_
          refine mx_iconst (3) (mx_d tX12_readPair_0 47 rfl) (by decide) ?_
          obtain ⟨r13, h_r13, h⟩ := Option.bind_eq_some_iff.mp h
          refine mx_cVi (mx_d tX12_readPair_0 48 rfl) iX12_72 rfl vX12_bad ⟨_, rfl, rfl⟩ (ly12_o h0) (CX12_bad h0 h_r13) (by decide) rfl rfl (Nat.le_of_ble_eq_true rfl) ?_
          obtain ⟨hb14, h⟩ := mx_chkE h
          obtain rfl := Option.some.inj h
          exact mx_zreturn (mx_d tX12_readPair_0 49 rfl) rfl (mx_nb (mx_b01E hb14)) ⟨rfl, rfl⟩
        · rw [if_neg hc12] at h
          refine mx_aload_n (mx_d tX12_readPair_0 29 rfl) rfl rfl ?_
          refine mx_getR (mx_d tX12_readPair_0 30 rfl) fX12_101 rfl rfl (ly12_o h0) (ly12_r15 h0) ?_
          refine mx_bipush (93) (mx_d tX12_readPair_0 31 rfl) (by decide) ?_
          refine mx_iload_n (mx_d tX12_readPair_0 32 rfl) rfl rfl ?_
          refine mx_iadd (mx_d tX12_readPair_0 33 rfl) ?_
          obtain ⟨hi15, h⟩ := mx_chkE h
          refine mx_iaload (mx_d tX12_readPair_0 34 rfl) (ly12_s15 h0) (mx_inbE hi15) ?_
          refine mx_iconst ((-1)) (mx_d tX12_readPair_0 35 rfl) (by decide) ?_
          refine mx_icmp_ne (tgt := 84) (mx_d tX12_readPair_0 36 rfl) (by decide) (fun hc16 => ?_) (fun hc16 => ?_)
          · rw [if_neg hc16] at h
            refine mx_aload_n (mx_d tX12_readPair_0 46 rfl) rfl rfl ?_
            refine mx_iconst (3) (mx_d tX12_readPair_0 47 rfl) (by decide) ?_
            obtain ⟨r17, h_r17, h⟩ := Option.bind_eq_some_iff.mp h
            refine mx_cVi (mx_d tX12_readPair_0 48 rfl) iX12_72 rfl vX12_bad ⟨_, rfl, rfl⟩ (ly12_o h0) (CX12_bad h0 h_r17) (by decide) rfl rfl (Nat.le_of_ble_eq_true rfl) ?_
            obtain ⟨hb18, h⟩ := mx_chkE h
            obtain rfl := Option.some.inj h
            exact mx_zreturn (mx_d tX12_readPair_0 49 rfl) rfl (mx_nb (mx_b01E hb18)) ⟨rfl, rfl⟩
          · rw [if_pos hc16] at h
            refine mx_aload_n (mx_d tX12_readPair_0 37 rfl) rfl rfl ?_
            refine mx_getR (mx_d tX12_readPair_0 38 rfl) fX12_101 rfl rfl (ly12_o h0) (ly12_r15 h0) ?_
            refine mx_bipush (93) (mx_d tX12_readPair_0 39 rfl) (by decide) ?_
            refine mx_aload_n (mx_d tX12_readPair_0 40 rfl) rfl rfl ?_
            refine mx_getI (mx_d tX12_readPair_0 41 rfl) fX12_79 rfl (Or.inl rfl) (ly12_o h0) ?_
            refine mx_iadd (mx_d tX12_readPair_0 42 rfl) ?_
            obtain ⟨hi19, h⟩ := mx_chkE h
            refine mx_iaload (mx_d tX12_readPair_0 43 rfl) (ly12_s15 h0) (mx_inbE hi19) ?_
            refine mx_iconst ((-1)) (mx_d tX12_readPair_0 44 rfl) (by decide) ?_
            refine mx_icmp_eq (tgt := 90) (mx_d tX12_readPair_0 45 rfl) (by decide) (fun hc20 => ?_) (fun hc20 => ?_)
            · rw [if_pos hc20] at h
              refine mx_aload_n (mx_d tX12_readPair_0 50 rfl) rfl rfl ?_
              refine mx_getR (mx_d tX12_readPair_0 51 rfl) fX12_101 rfl rfl (ly12_o h0) (ly12_r15 h0) ?_
              refine mx_bipush (93) (mx_d tX12_readPair_0 52 rfl) (by decide) ?_
              refine mx_iload_n (mx_d tX12_readPair_0 53 rfl) rfl rfl ?_
              refine mx_iadd (mx_d tX12_readPair_0 54 rfl) ?_
              refine mx_aload_n (mx_d tX12_readPair_0 55 rfl) rfl rfl ?_
              refine mx_getI (mx_d tX12_readPair_0 56 rfl) fX12_79 rfl (Or.inl rfl) (ly12_o h0) ?_
              obtain ⟨m21, e_m21, h⟩ := mx_letE h
              refine mx_iastore (mx_d tX12_readPair_0 57 rfl) (ly12_s15 h0) (mx_inbE hi15) (mx_eqz (z' := (e, m21)) (by rw [e_m21]) ?_)
              refine mx_aload_n (mx_d tX12_readPair_0 58 rfl) rfl rfl ?_
              refine mx_getR (mx_d tX12_readPair_0 59 rfl) fX12_101 rfl rfl (ly12_o h0) (ly12_r15 h0) ?_
              refine mx_bipush (93) (mx_d tX12_readPair_1 0 rfl) (by decide) ?_
              refine mx_aload_n (mx_d tX12_readPair_1 1 rfl) rfl rfl ?_
              refine mx_getI (mx_d tX12_readPair_1 2 rfl) fX12_79 rfl (Or.inl rfl) (ly12_o h0) ?_
              refine mx_iadd (mx_d tX12_readPair_1 3 rfl) ?_
              refine mx_iload_n (mx_d tX12_readPair_1 4 rfl) rfl rfl ?_
              obtain ⟨hi23, h⟩ := mx_chkE h
              obtain ⟨m22, e_m22, h⟩ := mx_letE h
              refine mx_iastore (mx_d tX12_readPair_1 5 rfl) (ly12_s15 h0) (mx_inbE hi23) (mx_eqz (z' := (e, m22)) (by rw [e_m22]) ?_)
              refine mx_aload_n (mx_d tX12_readPair_1 6 rfl) rfl rfl ?_
              obtain ⟨r24, h_r24, h⟩ := Option.bind_eq_some_iff.mp h
              refine mx_cVv (mx_d tX12_readPair_1 7 rfl) iX12_82 rfl vX12_go ⟨_, rfl, rfl⟩ (ly12_o h0) (CX12_go h0 h_r24) (by decide) rfl rfl (Nat.le_of_ble_eq_true rfl) ?_
              refine mx_iconst (1) (mx_d tX12_readPair_1 8 rfl) (by decide) ?_
              obtain rfl := Option.some.inj h
              exact mx_zreturn (mx_d tX12_readPair_1 9 rfl) rfl rfl ⟨rfl, rfl⟩
            · rw [if_neg hc20] at h
              refine mx_aload_n (mx_d tX12_readPair_0 46 rfl) rfl rfl ?_
              refine mx_iconst (3) (mx_d tX12_readPair_0 47 rfl) (by decide) ?_
              obtain ⟨r25, h_r25, h⟩ := Option.bind_eq_some_iff.mp h
              refine mx_cVi (mx_d tX12_readPair_0 48 rfl) iX12_72 rfl vX12_bad ⟨_, rfl, rfl⟩ (ly12_o h0) (CX12_bad h0 h_r25) (by decide) rfl rfl (Nat.le_of_ble_eq_true rfl) ?_
              obtain ⟨hb26, h⟩ := mx_chkE h
              obtain rfl := Option.some.inj h
              exact mx_zreturn (mx_d tX12_readPair_0 49 rfl) rfl (mx_nb (mx_b01E hb26)) ⟨rfl, rfl⟩
    · rw [if_pos hc7] at h
      refine mx_iconst (0) (mx_d tX12_readPair_0 15 rfl) (by decide) ?_
      obtain rfl := Option.some.inj h
      exact mx_zreturn (mx_d tX12_readPair_0 16 rfl) rfl rfl ⟨rfl, rfl⟩
  · rw [if_pos hc3] at h
    refine mx_iconst (0) (mx_d tX12_readPair_0 5 rfl) (by decide) ?_
    obtain rfl := Option.some.inj h
    exact mx_zreturn (mx_d tX12_readPair_0 6 rfl) rfl rfl ⟨rfl, rfl⟩
def FX12_readPrice (a : Nat) (m : mB) : Option (Int32 × mB) := Option.bind (FX12_go a m) (fun r1 => Option.bind (FX12_isHere a r1) (fun r2 => (if r2.1 = 0 then (some (0, r2.2)) else mx_let (r2.2.1 a 13) (fun v4 => mx_chk (mx_inb v4 10) ((if (r2.2.1 (a + 12) (Int32.toNatClampNeg v4)) = 0 then mx_let (mx_up r2.2.1 (a + 12) (Int32.toNatClampNeg v4) 1, r2.2.2) (fun m7 => Option.bind (FX12_go a m7) (fun r8 => Option.bind (FX12_readNumber a 0 400 r8) (fun r9 => Option.bind (FX12_noted a (103 + v4) r9.1 r9.2) (fun r10 => mx_chk (mx_b01 r10.1) ((some (r10.1, r10.2))))))) else Option.bind (FX12_bad a 3 r2.2) (fun r12 => mx_chk (mx_b01 r12.1) ((some (r12.1, r12.2))))))))))
set_option maxRecDepth 20000 in
theorem CX12_readPrice {G : mG} {l : Launch} {e : mE} {a : Nat} {m : mB} {r : (Int32 × mB)} (h0 : ly12 e a) (h : FX12_readPrice a m = some r) : mx_Call G l MX12_readPrice 5 0 0 [.ref a] (e, m) (fun v z => v = some (.int r.1) ∧ z = (e, r.2)) := by
  refine mx_entry (L := [.ref a, .float 0]) (by decide +kernel) (Nat.le_of_ble_eq_true rfl) rfl ?_
  unfold FX12_readPrice at h
  refine mx_aload_n (mx_d tX12_readPrice_0 0 rfl) rfl rfl ?_
  obtain ⟨r1, h_r1, h⟩ := Option.bind_eq_some_iff.mp h
  refine mx_cVv (mx_d tX12_readPrice_0 1 rfl) iX12_82 rfl vX12_go ⟨_, rfl, rfl⟩ (ly12_o h0) (CX12_go h0 h_r1) (by decide) rfl rfl (Nat.le_of_ble_eq_true rfl) ?_
  refine mx_aload_n (mx_d tX12_readPrice_0 2 rfl) rfl rfl ?_
  obtain ⟨r2, h_r2, h⟩ := Option.bind_eq_some_iff.mp h
  refine mx_cVi (mx_d tX12_readPrice_0 3 rfl) iX12_196 rfl vX12_isHere ⟨_, rfl, rfl⟩ (ly12_o h0) (CX12_isHere h0 h_r2) (by decide) rfl rfl (Nat.le_of_ble_eq_true rfl) ?_
  refine mx_if_ne (tgt := 13) (mx_d tX12_readPrice_0 4 rfl) (by decide) (fun hc3 => ?_) (fun hc3 => ?_)
  · rw [if_neg hc3] at h
    refine mx_aload_n (mx_d tX12_readPrice_0 7 rfl) rfl rfl ?_
    refine mx_getI (mx_d tX12_readPrice_0 8 rfl) fX12_79 rfl (Or.inl rfl) (ly12_o h0) ?_
    obtain ⟨v4, e_v4, h⟩ := mx_letE h
    refine mx_istore_n (L2 := [.ref a, .int v4]) (mx_d tX12_readPrice_0 9 rfl) rfl (by decide) (by rw [e_v4]; rfl) ?_
    refine mx_aload_n (mx_d tX12_readPrice_0 10 rfl) rfl rfl ?_
    refine mx_getR (mx_d tX12_readPrice_0 11 rfl) fX12_130 rfl rfl (ly12_o h0) (ly12_r24 h0) ?_
    refine mx_iload_n (mx_d tX12_readPrice_0 12 rfl) rfl rfl ?_
    obtain ⟨hi5, h⟩ := mx_chkE h
    refine mx_baload (mx_d tX12_readPrice_0 13 rfl) (ly12_s24 h0) (mx_inbE hi5) ?_
    refine mx_if_eq (tgt := 33) (mx_d tX12_readPrice_0 14 rfl) (by decide) (fun hc6 => ?_) (fun hc6 => ?_)
    · rw [if_pos hc6] at h
      refine mx_aload_n (mx_d tX12_readPrice_0 19 rfl) rfl rfl ?_
      refine mx_getR (mx_d tX12_readPrice_0 20 rfl) fX12_130 rfl rfl (ly12_o h0) (ly12_r24 h0) ?_
      refine mx_iload_n (mx_d tX12_readPrice_0 21 rfl) rfl rfl ?_
      refine mx_iconst (1) (mx_d tX12_readPrice_0 22 rfl) (by decide) ?_
      obtain ⟨m7, e_m7, h⟩ := mx_letE h
      refine mx_bastore (mx_d tX12_readPrice_0 23 rfl) (ly12_s24 h0) (mx_inbE hi5) (by decide) (mx_eqz (z' := (e, m7)) (by rw [e_m7]) ?_)
      refine mx_aload_n (mx_d tX12_readPrice_0 24 rfl) rfl rfl ?_
      obtain ⟨r8, h_r8, h⟩ := Option.bind_eq_some_iff.mp h
      refine mx_cVv (mx_d tX12_readPrice_0 25 rfl) iX12_82 rfl vX12_go ⟨_, rfl, rfl⟩ (ly12_o h0) (CX12_go h0 h_r8) (by decide) rfl rfl (Nat.le_of_ble_eq_true rfl) ?_
      refine mx_aload_n (mx_d tX12_readPrice_0 26 rfl) rfl rfl ?_
      refine mx_bipush (103) (mx_d tX12_readPrice_0 27 rfl) (by decide) ?_
      refine mx_iload_n (mx_d tX12_readPrice_0 28 rfl) rfl rfl ?_
      refine mx_iadd (mx_d tX12_readPrice_0 29 rfl) ?_
      refine mx_aload_n (mx_d tX12_readPrice_0 30 rfl) rfl rfl ?_
      refine mx_iconst (0) (mx_d tX12_readPrice_0 31 rfl) (by decide) ?_
      refine mx_sipush (400) (mx_d tX12_readPrice_0 32 rfl) (by decide) ?_
      obtain ⟨r9, h_r9, h⟩ := Option.bind_eq_some_iff.mp h
      refine mx_cVi (mx_d tX12_readPrice_0 33 rfl) iX12_203 rfl vX12_readNumber ⟨_, rfl, rfl⟩ (ly12_o h0) (CX12_readNumber h0 h_r9) (by decide) rfl rfl (Nat.le_of_ble_eq_true rfl) ?_
      obtain ⟨r10, h_r10, h⟩ := Option.bind_eq_some_iff.mp h
      refine mx_cVi (mx_d tX12_readPrice_0 34 rfl) iX12_206 rfl vX12_noted ⟨_, rfl, rfl⟩ (ly12_o h0) (CX12_noted h0 h_r10) (by decide) rfl rfl (Nat.le_of_ble_eq_true rfl) ?_
      obtain ⟨hb11, h⟩ := mx_chkE h
      obtain rfl := Option.some.inj h
      exact mx_zreturn (mx_d tX12_readPrice_0 35 rfl) rfl (mx_nb (mx_b01E hb11)) ⟨rfl, rfl⟩
    · rw [if_neg hc6] at h
      refine mx_aload_n (mx_d tX12_readPrice_0 15 rfl) rfl rfl ?_
      refine mx_iconst (3) (mx_d tX12_readPrice_0 16 rfl) (by decide) ?_
      obtain ⟨r12, h_r12, h⟩ := Option.bind_eq_some_iff.mp h
      refine mx_cVi (mx_d tX12_readPrice_0 17 rfl) iX12_72 rfl vX12_bad ⟨_, rfl, rfl⟩ (ly12_o h0) (CX12_bad h0 h_r12) (by decide) rfl rfl (Nat.le_of_ble_eq_true rfl) ?_
      obtain ⟨hb13, h⟩ := mx_chkE h
      obtain rfl := Option.some.inj h
      exact mx_zreturn (mx_d tX12_readPrice_0 18 rfl) rfl (mx_nb (mx_b01E hb13)) ⟨rfl, rfl⟩
  · rw [if_pos hc3] at h
    refine mx_iconst (0) (mx_d tX12_readPrice_0 5 rfl) (by decide) ?_
    obtain rfl := Option.some.inj h
    exact mx_zreturn (mx_d tX12_readPrice_0 6 rfl) rfl rfl ⟨rfl, rfl⟩
def FX12_isOddIn_L3 (q1 : Nat) (w1 : Nat) (y2 : Int32) (y3 : Int32) (y4 : Int32) (m : mB) : Nat → Int32 → Option (Int32 ⊕ (Unit))
  | 0, _ => none
  | f + 1, y5 => (if y3 ≤ y5 then (some (.inr ())) else mx_chk (mx_inb (y2 + y5) w1) ((if (m.1 q1 (Int32.toNatClampNeg (y2 + y5))) = y4 then (some (.inl 1)) else mx_let (y5 + 1) (fun v4 => (FX12_isOddIn_L3 q1 w1 y2 y3 y4 m f v4)))))
set_option maxRecDepth 20000 in
theorem CX12_isOddIn_L3 {G : mG} {l : Launch} {e : mE} {Post : Option Value → mS → Prop} {q1 : Nat} {w1 : Nat} {y2 : Int32} {y3 : Int32} {y4 : Int32} {m : mB} (g1 : mx_is e q1 100 w1) : ∀ (f : Nat) {y5 : Int32} {q : (Int32 ⊕ (Unit))}, FX12_isOddIn_L3 q1 w1 y2 y3 y4 m f y5 = some q → (∀ rr, q = .inl rr → Post (some (.int rr)) (e, m)) → (∀ u, q = .inr u → mx_Fr G l MX12_isOddIn 1 0 0 Post 28 [.float 0, .float 0, .float 0, .float 0, .float 0, .float 0] [] (e, m)) → mx_Fr G l MX12_isOddIn 1 0 0 Post 3 [.float 0, .ref q1, .int y2, .int y3, .int y4, .int y5] [] (e, m) := by
  intro f
  induction f with
  | zero => intro _ _ h; cases h
  | succ f ih =>
    intro y5 q h hret hex
    rw [FX12_isOddIn_L3] at h
    refine mx_iload (mx_d tX12_isOddIn_0 2 rfl) rfl ?_
    refine mx_iload_n (mx_d tX12_isOddIn_0 3 rfl) rfl rfl ?_
    refine mx_icmp_ge (tgt := 28) (mx_d tX12_isOddIn_0 4 rfl) (by decide) (fun hc1 => ?_) (fun hc1 => ?_)
    · rw [if_pos hc1] at h
      obtain rfl := Option.some.inj h
      refine mx_forget (L' := [.float 0, .float 0, .float 0, .float 0, .float 0, .float 0]) trivial ?_
      exact (hex _ rfl)
    · rw [if_neg hc1] at h
      refine mx_aload_n (mx_d tX12_isOddIn_0 5 rfl) rfl rfl ?_
      refine mx_iload_n (mx_d tX12_isOddIn_0 6 rfl) rfl rfl ?_
      refine mx_iload (mx_d tX12_isOddIn_0 7 rfl) rfl ?_
      refine mx_iadd (mx_d tX12_isOddIn_0 8 rfl) ?_
      obtain ⟨hi2, h⟩ := mx_chkE h
      refine mx_iaload (mx_d tX12_isOddIn_0 9 rfl) g1 (mx_inbE hi2) ?_
      refine mx_iload (mx_d tX12_isOddIn_0 10 rfl) rfl ?_
      refine mx_icmp_ne (tgt := 22) (mx_d tX12_isOddIn_0 11 rfl) (by decide) (fun hc3 => ?_) (fun hc3 => ?_)
      · rw [if_neg hc3] at h
        obtain ⟨v4, e_v4, h⟩ := mx_letE h
        refine mx_iinc v4 (L2 := [.float 0, .ref q1, .int y2, .int y3, .int y4, .int v4]) (mx_d tX12_isOddIn_0 14 rfl) rfl (by rw [e_v4]; rfl) (by decide) rfl ?_
        refine mx_goto (tgt := 3) (mx_d tX12_isOddIn_0 15 rfl) (by decide) ?_
        exact ih h hret hex
      · rw [if_pos hc3] at h
        refine mx_iconst (1) (mx_d tX12_isOddIn_0 12 rfl) (by decide) ?_
        obtain rfl := Option.some.inj h
        exact mx_zreturn (mx_d tX12_isOddIn_0 13 rfl) rfl rfl (hret 1 rfl)
def FX12_isOddIn (a : Nat) (p0 : Nat) (n0 : Nat) (x1 : Int32) (x2 : Int32) (x3 : Int32) (m : mB) : Option Int32 := Option.bind (FX12_isOddIn_L3 p0 n0 x1 x2 x3 m mx_FU 0) (fun q5 => Sum.elim (fun rr => some rr) (fun u6 => (some 0)) q5)
set_option maxRecDepth 20000 in
theorem CX12_isOddIn {G : mG} {l : Launch} {e : mE} {a : Nat} {p0 : Nat} {n0 : Nat} {x1 : Int32} {x2 : Int32} {x3 : Int32} {m : mB} {r : Int32} (h0 : ly12 e a) (h1 : mx_is e p0 100 n0) (h : FX12_isOddIn a p0 n0 x1 x2 x3 m = some r) : mx_Call G l MX12_isOddIn 1 0 0 [.ref a, .ref p0, .int x1, .int x2, .int x3] (e, m) (fun v z => v = some (.int r) ∧ z = (e, m)) := by
  refine mx_entry (L := [.ref a, .ref p0, .int x1, .int x2, .int x3, .float 0]) (by decide +kernel) (Nat.le_of_ble_eq_true rfl) rfl ?_
  unfold FX12_isOddIn at h
  refine mx_iconst (0) (mx_d tX12_isOddIn_0 0 rfl) (by decide) ?_
  refine mx_istore (L2 := [.ref a, .ref p0, .int x1, .int x2, .int x3, .int 0]) (mx_d tX12_isOddIn_0 1 rfl) (by decide) (by rfl) ?_
  obtain ⟨q5, h_q5, h⟩ := Option.bind_eq_some_iff.mp h
  refine mx_forget (L' := [.float 0, .ref p0, .int x1, .int x2, .int x3, .int 0]) ⟨rfl, rfl, rfl, rfl, rfl, trivial⟩ ?_
  refine CX12_isOddIn_L3 h1 mx_FU h_q5 (fun rr7 e_rr7 => ?_) (fun u6 e_u6 => ?_)
  · subst e_rr7
    rw [Sum.elim_inl] at h
    obtain rfl := Option.some.inj h
    exact ⟨rfl, rfl⟩
  · subst e_u6
    rw [Sum.elim_inr] at h
    refine mx_iconst (0) (mx_d tX12_isOddIn_0 16 rfl) (by decide) ?_
    obtain rfl := Option.some.inj h
    exact mx_zreturn (mx_d tX12_isOddIn_0 17 rfl) rfl rfl ⟨rfl, rfl⟩
def FX12_readOdd_L44 (q0 : Nat) (y1 : Int32) : Nat → Int32 → Int32 → mB → Option ((Int32 × mB) ⊕ (Int32 × Int32 × mB))
  | 0, _, _, _ => none
  | f + 1, y2, y3, m => mx_let (Option.bind (FX12_isHere q0 m) (fun r9 => (if r9.1 = 0 then (some (.inl (0, r9.2))) else Option.bind (FX12_has y2 (r9.2.1 q0 13) r9.2) (fun r11 => (if r11 = 0 then mx_let (y2 ||| ((1 : Int32) <<< ((r9.2.1 q0 13) &&& 31))) (fun v13 => mx_let (y3 + 1) (fun v14 => Option.bind (FX12_go q0 r9.2) (fun r15 => (FX12_readOdd_L44 q0 y1 f v13 v14 r15)))) else Option.bind (FX12_bad q0 3 r9.2) (fun r16 => mx_chk (mx_b01 r16.1) ((some (.inl (r16.1, r16.2)))))))))) (fun k8 => (if y3 < 3 then k8 else Option.bind (FX12_isName q0 m) (fun r18 => (if r18 = 0 then (some (.inr (y2, y3, m))) else (if 9 ≤ y3 then (some (.inr (y2, y3, m))) else k8)))))
set_option maxRecDepth 20000 in
theorem CX12_readOdd_L44 {G : mG} {l : Launch} {e : mE} {Post : Option Value → mS → Prop} {q0 : Nat} {y1 : Int32} (g0 : ly12 e q0) : ∀ (f : Nat) {y2 : Int32} {y3 : Int32} {m : mB} {q : ((Int32 × mB) ⊕ (Int32 × Int32 × mB))}, FX12_readOdd_L44 q0 y1 f y2 y3 m = some q → (∀ rr, q = .inl rr → Post (some (.int rr.1)) (e, rr.2)) → (∀ u, q = .inr u → mx_Fr G l MX12_readOdd 5 0 0 Post 107 [.ref q0, .int y1, .int u.1, .int u.2.1] [] (e, u.2.2)) → mx_Fr G l MX12_readOdd 5 0 0 Post 44 [.ref q0, .int y1, .int y2, .int y3] [] (e, m) := by
  intro f
  induction f with
  | zero => intro _ _ _ _ h; cases h
  | succ f ih =>
    intro y2 y3 m q h hret hex
    rw [FX12_readOdd_L44] at h
    refine mx_iload_n (mx_d tX12_readOdd_0 28 rfl) rfl rfl ?_
    refine mx_iconst (3) (mx_d tX12_readOdd_0 29 rfl) (by decide) ?_
    refine mx_letK (J := fun k8 => k8 = some q → mx_Fr G l MX12_readOdd 5 0 0 Post 62 [.ref q0, .int y1, .int y2, .int y3] [] (e, m)) h ?_ (fun k8 j_k8 h => ?_)
    · intro h
      refine mx_aload_n (mx_d tX12_readOdd_0 37 rfl) rfl rfl ?_
      obtain ⟨r9, h_r9, h⟩ := Option.bind_eq_some_iff.mp h
      refine mx_cVi (mx_d tX12_readOdd_0 38 rfl) iX12_196 rfl vX12_isHere ⟨_, rfl, rfl⟩ (ly12_o g0) (CX12_isHere g0 h_r9) (by decide) rfl rfl (Nat.le_of_ble_eq_true rfl) ?_
      refine mx_if_ne (tgt := 71) (mx_d tX12_readOdd_0 39 rfl) (by decide) (fun hc10 => ?_) (fun hc10 => ?_)
      · rw [if_neg hc10] at h
        refine mx_iload_n (mx_d tX12_readOdd_0 42 rfl) rfl rfl ?_
        refine mx_aload_n (mx_d tX12_readOdd_0 43 rfl) rfl rfl ?_
        refine mx_getI (mx_d tX12_readOdd_0 44 rfl) fX12_79 rfl (Or.inl rfl) (ly12_o g0) ?_
        obtain ⟨r11, h_r11, h⟩ := Option.bind_eq_some_iff.mp h
        refine mx_cSi (mx_d tX12_readOdd_0 45 rfl) iX12_210 rfl sX12_has (CX12_has  h_r11) (by decide) rfl rfl (Nat.le_of_ble_eq_true rfl) ?_
        refine mx_if_eq (tgt := 88) (mx_d tX12_readOdd_0 46 rfl) (by decide) (fun hc12 => ?_) (fun hc12 => ?_)
        · rw [if_pos hc12] at h
          refine mx_iload_n (mx_d tX12_readOdd_0 51 rfl) rfl rfl ?_
          refine mx_iconst (1) (mx_d tX12_readOdd_0 52 rfl) (by decide) ?_
          refine mx_aload_n (mx_d tX12_readOdd_0 53 rfl) rfl rfl ?_
          refine mx_getI (mx_d tX12_readOdd_0 54 rfl) fX12_79 rfl (Or.inl rfl) (ly12_o g0) ?_
          refine mx_ishl (mx_d tX12_readOdd_0 55 rfl) ?_
          refine mx_ior (mx_d tX12_readOdd_0 56 rfl) ?_
          obtain ⟨v13, e_v13, h⟩ := mx_letE h
          refine mx_istore_n (L2 := [.ref q0, .int y1, .int v13, .int y3]) (mx_d tX12_readOdd_0 57 rfl) rfl (by decide) (by rw [e_v13]; rfl) ?_
          obtain ⟨v14, e_v14, h⟩ := mx_letE h
          refine mx_iinc v14 (L2 := [.ref q0, .int y1, .int v13, .int v14]) (mx_d tX12_readOdd_0 58 rfl) rfl (by rw [e_v14]; rfl) (by decide) rfl ?_
          refine mx_aload_n (mx_d tX12_readOdd_0 59 rfl) rfl rfl ?_
          obtain ⟨r15, h_r15, h⟩ := Option.bind_eq_some_iff.mp h
          refine mx_cVv (mx_d tX12_readOdd_1 0 rfl) iX12_82 rfl vX12_go ⟨_, rfl, rfl⟩ (ly12_o g0) (CX12_go g0 h_r15) (by decide) rfl rfl (Nat.le_of_ble_eq_true rfl) ?_
          refine mx_goto (tgt := 44) (mx_d tX12_readOdd_1 1 rfl) (by decide) ?_
          exact ih h hret hex
        · rw [if_neg hc12] at h
          refine mx_aload_n (mx_d tX12_readOdd_0 47 rfl) rfl rfl ?_
          refine mx_iconst (3) (mx_d tX12_readOdd_0 48 rfl) (by decide) ?_
          obtain ⟨r16, h_r16, h⟩ := Option.bind_eq_some_iff.mp h
          refine mx_cVi (mx_d tX12_readOdd_0 49 rfl) iX12_72 rfl vX12_bad ⟨_, rfl, rfl⟩ (ly12_o g0) (CX12_bad g0 h_r16) (by decide) rfl rfl (Nat.le_of_ble_eq_true rfl) ?_
          obtain ⟨hb17, h⟩ := mx_chkE h
          obtain rfl := Option.some.inj h
          exact mx_zreturn (mx_d tX12_readOdd_0 50 rfl) rfl (mx_nb (mx_b01E hb17)) (hret (r16.1, r16.2) rfl)
      · rw [if_pos hc10] at h
        refine mx_iconst (0) (mx_d tX12_readOdd_0 40 rfl) (by decide) ?_
        obtain rfl := Option.some.inj h
        exact mx_zreturn (mx_d tX12_readOdd_0 41 rfl) rfl rfl (hret (0, r9.2) rfl)
    refine mx_icmp_lt (tgt := 62) (mx_d tX12_readOdd_0 30 rfl) (by decide) (fun hc7 => ?_) (fun hc7 => ?_)
    · rw [if_pos hc7] at h
      exact j_k8 h
    · rw [if_neg hc7] at h
      refine mx_aload_n (mx_d tX12_readOdd_0 31 rfl) rfl rfl ?_
      obtain ⟨r18, h_r18, h⟩ := Option.bind_eq_some_iff.mp h
      refine mx_cVi (mx_d tX12_readOdd_0 32 rfl) iX12_188 rfl vX12_isName ⟨_, rfl, rfl⟩ (ly12_o g0) (CX12_isName g0 h_r18) (by decide) rfl rfl (Nat.le_of_ble_eq_true rfl) ?_
      refine mx_if_eq (tgt := 107) (mx_d tX12_readOdd_0 33 rfl) (by decide) (fun hc19 => ?_) (fun hc19 => ?_)
      · rw [if_pos hc19] at h
        obtain rfl := Option.some.inj h
        exact (hex _ rfl)
      · rw [if_neg hc19] at h
        refine mx_iload_n (mx_d tX12_readOdd_0 34 rfl) rfl rfl ?_
        refine mx_bipush (9) (mx_d tX12_readOdd_0 35 rfl) (by decide) ?_
        refine mx_icmp_ge (tgt := 107) (mx_d tX12_readOdd_0 36 rfl) (by decide) (fun hc20 => ?_) (fun hc20 => ?_)
        · rw [if_pos hc20] at h
          obtain rfl := Option.some.inj h
          exact (hex _ rfl)
        · rw [if_neg hc20] at h
          exact j_k8 h
def FX12_readOdd (a : Nat) (m : mB) : Option (Int32 × mB) := Option.bind (FX12_readFirst a 2 6 m) (fun r1 => (if r1.1 = 0 then (some (0, r1.2)) else mx_let (r1.2.1 (a + 3) 2) (fun v3 => Option.bind (FX12_readNumber a 0 400 r1.2) (fun r4 => Option.bind (FX12_noted a (119 + v3) r4.1 r4.2) (fun r5 => (if r5.1 = 0 then (some (0, r5.2)) else Option.bind (FX12_readOdd_L44 a v3 mx_FU 0 0 r5.2) (fun q21 => Sum.elim (fun rr => some rr) (fun u22 => Option.bind (FX12_isSign a 59 u22.2.2) (fun r24 => (if r24 = 0 then Option.bind (FX12_bad a 1 u22.2.2) (fun r26 => mx_chk (mx_b01 r26.1) ((some (r26.1, r26.2)))) else (if (u22.2.1 - u22.2.1 / 2 * 2) = 0 then Option.bind (FX12_bad a 1 u22.2.2) (fun r36 => mx_chk (mx_b01 r36.1) ((some (r36.1, r36.2)))) else Option.bind (FX12_isOddIn a (a + 3) 125 113 v3 u22.1 u22.2.2) (fun r29 => (if r29 = 0 then mx_chk (mx_inb (113 + v3) 125) (mx_let (mx_up u22.2.2.1 (a + 3) (Int32.toNatClampNeg (113 + v3)) u22.1, u22.2.2.2) (fun m31 => mx_let (mx_up m31.1 (a + 3) 2 ((m31.1 (a + 3) 2) + 1), m31.2) (fun m33 => (some (1, m33))))) else Option.bind (FX12_bad a 3 u22.2.2) (fun r34 => mx_chk (mx_b01 r34.1) ((some (r34.1, r34.2)))))))))) q21)))))))
set_option maxRecDepth 20000 in
theorem CX12_readOdd {G : mG} {l : Launch} {e : mE} {a : Nat} {m : mB} {r : (Int32 × mB)} (h0 : ly12 e a) (h : FX12_readOdd a m = some r) : mx_Call G l MX12_readOdd 5 0 0 [.ref a] (e, m) (fun v z => v = some (.int r.1) ∧ z = (e, r.2)) := by
  refine mx_entry (L := [.ref a, .float 0, .float 0, .float 0]) (by decide +kernel) (Nat.le_of_ble_eq_true rfl) rfl ?_
  unfold FX12_readOdd at h
  refine mx_aload_n (mx_d tX12_readOdd_0 0 rfl) rfl rfl ?_
  refine mx_iconst (2) (mx_d tX12_readOdd_0 1 rfl) (by decide) ?_
  refine mx_bipush (6) (mx_d tX12_readOdd_0 2 rfl) (by decide) ?_
  obtain ⟨r1, h_r1, h⟩ := Option.bind_eq_some_iff.mp h
  refine mx_cVi (mx_d tX12_readOdd_0 3 rfl) iX12_184 rfl vX12_readFirst ⟨_, rfl, rfl⟩ (ly12_o h0) (CX12_readFirst h0 h_r1) (by decide) rfl rfl (Nat.le_of_ble_eq_true rfl) ?_
  refine mx_if_ne (tgt := 12) (mx_d tX12_readOdd_0 4 rfl) (by decide) (fun hc2 => ?_) (fun hc2 => ?_)
  · rw [if_neg hc2] at h
    refine mx_aload_n (mx_d tX12_readOdd_0 7 rfl) rfl rfl ?_
    refine mx_getR (mx_d tX12_readOdd_0 8 rfl) fX12_101 rfl rfl (ly12_o h0) (ly12_r15 h0) ?_
    refine mx_iconst (2) (mx_d tX12_readOdd_0 9 rfl) (by decide) ?_
    refine mx_ialoadC 2 (mx_d tX12_readOdd_0 10 rfl) (ly12_s15 h0) (by decide) (mx_inbE (by decide)) ?_
    obtain ⟨v3, e_v3, h⟩ := mx_letE h
    refine mx_istore_n (L2 := [.ref a, .int v3, .float 0, .float 0]) (mx_d tX12_readOdd_0 11 rfl) rfl (by decide) (by rw [e_v3]; rfl) ?_
    refine mx_aload_n (mx_d tX12_readOdd_0 12 rfl) rfl rfl ?_
    refine mx_bipush (119) (mx_d tX12_readOdd_0 13 rfl) (by decide) ?_
    refine mx_iload_n (mx_d tX12_readOdd_0 14 rfl) rfl rfl ?_
    refine mx_iadd (mx_d tX12_readOdd_0 15 rfl) ?_
    refine mx_aload_n (mx_d tX12_readOdd_0 16 rfl) rfl rfl ?_
    refine mx_iconst (0) (mx_d tX12_readOdd_0 17 rfl) (by decide) ?_
    refine mx_sipush (400) (mx_d tX12_readOdd_0 18 rfl) (by decide) ?_
    obtain ⟨r4, h_r4, h⟩ := Option.bind_eq_some_iff.mp h
    refine mx_cVi (mx_d tX12_readOdd_0 19 rfl) iX12_203 rfl vX12_readNumber ⟨_, rfl, rfl⟩ (ly12_o h0) (CX12_readNumber h0 h_r4) (by decide) rfl rfl (Nat.le_of_ble_eq_true rfl) ?_
    obtain ⟨r5, h_r5, h⟩ := Option.bind_eq_some_iff.mp h
    refine mx_cVi (mx_d tX12_readOdd_0 20 rfl) iX12_206 rfl vX12_noted ⟨_, rfl, rfl⟩ (ly12_o h0) (CX12_noted h0 h_r5) (by decide) rfl rfl (Nat.le_of_ble_eq_true rfl) ?_
    refine mx_if_ne (tgt := 40) (mx_d tX12_readOdd_0 21 rfl) (by decide) (fun hc6 => ?_) (fun hc6 => ?_)
    · rw [if_neg hc6] at h
      refine mx_iconst (0) (mx_d tX12_readOdd_0 24 rfl) (by decide) ?_
      refine mx_istore_n (L2 := [.ref a, .int v3, .int 0, .float 0]) (mx_d tX12_readOdd_0 25 rfl) rfl (by decide) (by rfl) ?_
      refine mx_iconst (0) (mx_d tX12_readOdd_0 26 rfl) (by decide) ?_
      refine mx_istore_n (L2 := [.ref a, .int v3, .int 0, .int 0]) (mx_d tX12_readOdd_0 27 rfl) rfl (by decide) (by rfl) ?_
      obtain ⟨q21, h_q21, h⟩ := Option.bind_eq_some_iff.mp h
      refine CX12_readOdd_L44 h0 mx_FU h_q21 (fun rr23 e_rr23 => ?_) (fun u22 e_u22 => ?_)
      · subst e_rr23
        rw [Sum.elim_inl] at h
        obtain rfl := Option.some.inj h
        exact ⟨rfl, rfl⟩
      · subst e_u22
        rw [Sum.elim_inr] at h
        refine mx_aload_n (mx_d tX12_readOdd_1 2 rfl) rfl rfl ?_
        refine mx_bipush (59) (mx_d tX12_readOdd_1 3 rfl) (by decide) ?_
        obtain ⟨r24, h_r24, h⟩ := Option.bind_eq_some_iff.mp h
        refine mx_cVi (mx_d tX12_readOdd_1 4 rfl) iX12_86 rfl vX12_isSign ⟨_, rfl, rfl⟩ (ly12_o h0) (CX12_isSign h0 h_r24) (by decide) rfl rfl (Nat.le_of_ble_eq_true rfl) ?_
        refine mx_if_eq (tgt := 122) (mx_d tX12_readOdd_1 5 rfl) (by decide) (fun hc25 => ?_) (fun hc25 => ?_)
        · rw [if_pos hc25] at h
          refine mx_aload_n (mx_d tX12_readOdd_1 10 rfl) rfl rfl ?_
          refine mx_iconst (1) (mx_d tX12_readOdd_1 11 rfl) (by decide) ?_
          obtain ⟨r26, h_r26, h⟩ := Option.bind_eq_some_iff.mp h
          refine mx_cVi (mx_d tX12_readOdd_1 12 rfl) iX12_72 rfl vX12_bad ⟨_, rfl, rfl⟩ (ly12_o h0) (CX12_bad h0 h_r26) (by decide) rfl rfl (Nat.le_of_ble_eq_true rfl) ?_
          obtain ⟨hb27, h⟩ := mx_chkE h
          obtain rfl := Option.some.inj h
          exact mx_zreturn (mx_d tX12_readOdd_1 13 rfl) rfl (mx_nb (mx_b01E hb27)) ⟨rfl, rfl⟩
        · rw [if_neg hc25] at h
          refine mx_iload_n (mx_d tX12_readOdd_1 6 rfl) rfl rfl ?_
          refine mx_iconst (2) (mx_d tX12_readOdd_1 7 rfl) (by decide) ?_
          refine mx_irem (mx_d tX12_readOdd_1 8 rfl) (by decide) ?_
          refine mx_if_ne (tgt := 128) (mx_d tX12_readOdd_1 9 rfl) (by decide) (fun hc28 => ?_) (fun hc28 => ?_)
          · rw [if_neg hc28] at h
            refine mx_aload_n (mx_d tX12_readOdd_1 14 rfl) rfl rfl ?_
            refine mx_aload_n (mx_d tX12_readOdd_1 15 rfl) rfl rfl ?_
            refine mx_getR (mx_d tX12_readOdd_1 16 rfl) fX12_101 rfl rfl (ly12_o h0) (ly12_r15 h0) ?_
            refine mx_bipush (113) (mx_d tX12_readOdd_1 17 rfl) (by decide) ?_
            refine mx_iload_n (mx_d tX12_readOdd_1 18 rfl) rfl rfl ?_
            refine mx_iload_n (mx_d tX12_readOdd_1 19 rfl) rfl rfl ?_
            obtain ⟨r29, h_r29, h⟩ := Option.bind_eq_some_iff.mp h
            refine mx_cVi (mx_d tX12_readOdd_1 20 rfl) iX12_213 rfl vX12_isOddIn ⟨_, rfl, rfl⟩ (ly12_o h0) (CX12_isOddIn h0 (ly12_s15 h0) h_r29) (by decide) rfl rfl (Nat.le_of_ble_eq_true rfl) ?_
            refine mx_if_eq (tgt := 149) (mx_d tX12_readOdd_1 21 rfl) (by decide) (fun hc30 => ?_) (fun hc30 => ?_)
            · rw [if_pos hc30] at h
              refine mx_aload_n (mx_d tX12_readOdd_1 26 rfl) rfl rfl ?_
              refine mx_getR (mx_d tX12_readOdd_1 27 rfl) fX12_101 rfl rfl (ly12_o h0) (ly12_r15 h0) ?_
              refine mx_bipush (113) (mx_d tX12_readOdd_1 28 rfl) (by decide) ?_
              refine mx_iload_n (mx_d tX12_readOdd_1 29 rfl) rfl rfl ?_
              refine mx_iadd (mx_d tX12_readOdd_1 30 rfl) ?_
              refine mx_iload_n (mx_d tX12_readOdd_1 31 rfl) rfl rfl ?_
              obtain ⟨hi32, h⟩ := mx_chkE h
              obtain ⟨m31, e_m31, h⟩ := mx_letE h
              refine mx_iastore (mx_d tX12_readOdd_1 32 rfl) (ly12_s15 h0) (mx_inbE hi32) (mx_eqz (z' := (e, m31)) (by rw [e_m31]) ?_)
              refine mx_aload_n (mx_d tX12_readOdd_1 33 rfl) rfl rfl ?_
              refine mx_getR (mx_d tX12_readOdd_1 34 rfl) fX12_101 rfl rfl (ly12_o h0) (ly12_r15 h0) ?_
              refine mx_iconst (2) (mx_d tX12_readOdd_1 35 rfl) (by decide) ?_
              refine mx_dup2 (mx_d tX12_readOdd_1 36 rfl) rfl rfl ?_
              refine mx_ialoadC 2 (mx_d tX12_readOdd_1 37 rfl) (ly12_s15 h0) (by decide) (mx_inbE (by decide)) ?_
              refine mx_iconst (1) (mx_d tX12_readOdd_1 38 rfl) (by decide) ?_
              refine mx_iadd (mx_d tX12_readOdd_1 39 rfl) ?_
              obtain ⟨m33, e_m33, h⟩ := mx_letE h
              refine mx_iastoreC 2 (mx_d tX12_readOdd_1 40 rfl) (ly12_s15 h0) (by decide) (mx_inbE (by decide)) (mx_eqz (z' := (e, m33)) (by rw [e_m33]) ?_)
              refine mx_iconst (1) (mx_d tX12_readOdd_1 41 rfl) (by decide) ?_
              obtain rfl := Option.some.inj h
              exact mx_zreturn (mx_d tX12_readOdd_1 42 rfl) rfl rfl ⟨rfl, rfl⟩
            · rw [if_neg hc30] at h
              refine mx_aload_n (mx_d tX12_readOdd_1 22 rfl) rfl rfl ?_
              refine mx_iconst (3) (mx_d tX12_readOdd_1 23 rfl) (by decide) ?_
              obtain ⟨r34, h_r34, h⟩ := Option.bind_eq_some_iff.mp h
              refine mx_cVi (mx_d tX12_readOdd_1 24 rfl) iX12_72 rfl vX12_bad ⟨_, rfl, rfl⟩ (ly12_o h0) (CX12_bad h0 h_r34) (by decide) rfl rfl (Nat.le_of_ble_eq_true rfl) ?_
              obtain ⟨hb35, h⟩ := mx_chkE h
              obtain rfl := Option.some.inj h
              exact mx_zreturn (mx_d tX12_readOdd_1 25 rfl) rfl (mx_nb (mx_b01E hb35)) ⟨rfl, rfl⟩
          · rw [if_pos hc28] at h
            refine mx_aload_n (mx_d tX12_readOdd_1 10 rfl) rfl rfl ?_
            refine mx_iconst (1) (mx_d tX12_readOdd_1 11 rfl) (by decide) ?_
            obtain ⟨r36, h_r36, h⟩ := Option.bind_eq_some_iff.mp h
            refine mx_cVi (mx_d tX12_readOdd_1 12 rfl) iX12_72 rfl vX12_bad ⟨_, rfl, rfl⟩ (ly12_o h0) (CX12_bad h0 h_r36) (by decide) rfl rfl (Nat.le_of_ble_eq_true rfl) ?_
            obtain ⟨hb37, h⟩ := mx_chkE h
            obtain rfl := Option.some.inj h
            exact mx_zreturn (mx_d tX12_readOdd_1 13 rfl) rfl (mx_nb (mx_b01E hb37)) ⟨rfl, rfl⟩
    · rw [if_pos hc6] at h
      refine mx_iconst (0) (mx_d tX12_readOdd_0 22 rfl) (by decide) ?_
      obtain rfl := Option.some.inj h
      exact mx_zreturn (mx_d tX12_readOdd_0 23 rfl) rfl rfl ⟨rfl, rfl⟩
  · rw [if_pos hc2] at h
    refine mx_iconst (0) (mx_d tX12_readOdd_0 5 rfl) (by decide) ?_
    obtain rfl := Option.some.inj h
    exact mx_zreturn (mx_d tX12_readOdd_0 6 rfl) rfl rfl ⟨rfl, rfl⟩
def FX12_readLine (a : Nat) (m : mB) : Option (Int32 × mB) := Option.bind (FX12_isWord a 0 m) (fun r1 => (if r1 = 0 then Option.bind (FX12_isWord a 1 m) (fun r3 => (if r3 = 0 then Option.bind (FX12_isWord a 3 m) (fun r5 => (if r5 = 0 then Option.bind (FX12_isWord a 6 m) (fun r7 => (if r7 = 0 then Option.bind (FX12_isWord a 2 m) (fun r9 => (if r9 = 0 then Option.bind (FX12_bad a 1 m) (fun r11 => mx_chk (mx_b01 r11.1) ((some (r11.1, r11.2)))) else Option.bind (FX12_readOdd a m) (fun r13 => mx_chk (mx_b01 r13.1) ((some (r13.1, r13.2)))))) else Option.bind (FX12_readPrice a m) (fun r15 => mx_chk (mx_b01 r15.1) ((some (r15.1, r15.2)))))) else Option.bind (FX12_readPair a m) (fun r17 => mx_chk (mx_b01 r17.1) ((some (r17.1, r17.2)))))) else Option.bind (FX12_readLink a m) (fun r19 => mx_chk (mx_b01 r19.1) ((some (r19.1, r19.2)))))) else Option.bind (FX12_readPoint a m) (fun r21 => mx_chk (mx_b01 r21.1) ((some (r21.1, r21.2))))))
set_option maxRecDepth 20000 in
theorem CX12_readLine {G : mG} {l : Launch} {e : mE} {a : Nat} {m : mB} {r : (Int32 × mB)} (h0 : ly12 e a) (h : FX12_readLine a m = some r) : mx_Call G l MX12_readLine 6 0 0 [.ref a] (e, m) (fun v z => v = some (.int r.1) ∧ z = (e, r.2)) := by
  refine mx_entry (L := [.ref a]) (by decide +kernel) (Nat.le_of_ble_eq_true rfl) rfl ?_
  unfold FX12_readLine at h
  refine mx_aload_n (mx_d tX12_readLine_0 0 rfl) rfl rfl ?_
  refine mx_iconst (0) (mx_d tX12_readLine_0 1 rfl) (by decide) ?_
  obtain ⟨r1, h_r1, h⟩ := Option.bind_eq_some_iff.mp h
  refine mx_cVi (mx_d tX12_readLine_0 2 rfl) iX12_217 rfl vX12_isWord ⟨_, rfl, rfl⟩ (ly12_o h0) (CX12_isWord h0 h_r1) (by decide) rfl rfl (Nat.le_of_ble_eq_true rfl) ?_
  refine mx_if_eq (tgt := 13) (mx_d tX12_readLine_0 3 rfl) (by decide) (fun hc2 => ?_) (fun hc2 => ?_)
  · rw [if_pos hc2] at h
    refine mx_aload_n (mx_d tX12_readLine_0 7 rfl) rfl rfl ?_
    refine mx_iconst (1) (mx_d tX12_readLine_0 8 rfl) (by decide) ?_
    obtain ⟨r3, h_r3, h⟩ := Option.bind_eq_some_iff.mp h
    refine mx_cVi (mx_d tX12_readLine_0 9 rfl) iX12_217 rfl vX12_isWord ⟨_, rfl, rfl⟩ (ly12_o h0) (CX12_isWord h0 h_r3) (by decide) rfl rfl (Nat.le_of_ble_eq_true rfl) ?_
    refine mx_if_eq (tgt := 26) (mx_d tX12_readLine_0 10 rfl) (by decide) (fun hc4 => ?_) (fun hc4 => ?_)
    · rw [if_pos hc4] at h
      refine mx_aload_n (mx_d tX12_readLine_0 14 rfl) rfl rfl ?_
      refine mx_iconst (3) (mx_d tX12_readLine_0 15 rfl) (by decide) ?_
      obtain ⟨r5, h_r5, h⟩ := Option.bind_eq_some_iff.mp h
      refine mx_cVi (mx_d tX12_readLine_0 16 rfl) iX12_217 rfl vX12_isWord ⟨_, rfl, rfl⟩ (ly12_o h0) (CX12_isWord h0 h_r5) (by decide) rfl rfl (Nat.le_of_ble_eq_true rfl) ?_
      refine mx_if_eq (tgt := 39) (mx_d tX12_readLine_0 17 rfl) (by decide) (fun hc6 => ?_) (fun hc6 => ?_)
      · rw [if_pos hc6] at h
        refine mx_aload_n (mx_d tX12_readLine_0 21 rfl) rfl rfl ?_
        refine mx_bipush (6) (mx_d tX12_readLine_0 22 rfl) (by decide) ?_
        obtain ⟨r7, h_r7, h⟩ := Option.bind_eq_some_iff.mp h
        refine mx_cVi (mx_d tX12_readLine_0 23 rfl) iX12_217 rfl vX12_isWord ⟨_, rfl, rfl⟩ (ly12_o h0) (CX12_isWord h0 h_r7) (by decide) rfl rfl (Nat.le_of_ble_eq_true rfl) ?_
        refine mx_if_eq (tgt := 53) (mx_d tX12_readLine_0 24 rfl) (by decide) (fun hc8 => ?_) (fun hc8 => ?_)
        · rw [if_pos hc8] at h
          refine mx_aload_n (mx_d tX12_readLine_0 28 rfl) rfl rfl ?_
          refine mx_iconst (2) (mx_d tX12_readLine_0 29 rfl) (by decide) ?_
          obtain ⟨r9, h_r9, h⟩ := Option.bind_eq_some_iff.mp h
          refine mx_cVi (mx_d tX12_readLine_0 30 rfl) iX12_217 rfl vX12_isWord ⟨_, rfl, rfl⟩ (ly12_o h0) (CX12_isWord h0 h_r9) (by decide) rfl rfl (Nat.le_of_ble_eq_true rfl) ?_
          refine mx_if_eq (tgt := 68) (mx_d tX12_readLine_0 31 rfl) (by decide) (fun hc10 => ?_) (fun hc10 => ?_)
          · rw [if_pos hc10] at h
            refine mx_aload_n (mx_d tX12_readLine_0 35 rfl) rfl rfl ?_
            refine mx_iconst (1) (mx_d tX12_readLine_0 36 rfl) (by decide) ?_
            obtain ⟨r11, h_r11, h⟩ := Option.bind_eq_some_iff.mp h
            refine mx_cVi (mx_d tX12_readLine_0 37 rfl) iX12_72 rfl vX12_bad ⟨_, rfl, rfl⟩ (ly12_o h0) (CX12_bad h0 h_r11) (by decide) rfl rfl (Nat.le_of_ble_eq_true rfl) ?_
            obtain ⟨hb12, h⟩ := mx_chkE h
            obtain rfl := Option.some.inj h
            exact mx_zreturn (mx_d tX12_readLine_0 38 rfl) rfl (mx_nb (mx_b01E hb12)) ⟨rfl, rfl⟩
          · rw [if_neg hc10] at h
            refine mx_aload_n (mx_d tX12_readLine_0 32 rfl) rfl rfl ?_
            obtain ⟨r13, h_r13, h⟩ := Option.bind_eq_some_iff.mp h
            refine mx_cVi (mx_d tX12_readLine_0 33 rfl) iX12_232 rfl vX12_readOdd ⟨_, rfl, rfl⟩ (ly12_o h0) (CX12_readOdd h0 h_r13) (by decide) rfl rfl (Nat.le_of_ble_eq_true rfl) ?_
            refine mx_goto (tgt := 73) (mx_d tX12_readLine_0 34 rfl) (by decide) ?_
            obtain ⟨hb14, h⟩ := mx_chkE h
            obtain rfl := Option.some.inj h
            exact mx_zreturn (mx_d tX12_readLine_0 38 rfl) rfl (mx_nb (mx_b01E hb14)) ⟨rfl, rfl⟩
        · rw [if_neg hc8] at h
          refine mx_aload_n (mx_d tX12_readLine_0 25 rfl) rfl rfl ?_
          obtain ⟨r15, h_r15, h⟩ := Option.bind_eq_some_iff.mp h
          refine mx_cVi (mx_d tX12_readLine_0 26 rfl) iX12_229 rfl vX12_readPrice ⟨_, rfl, rfl⟩ (ly12_o h0) (CX12_readPrice h0 h_r15) (by decide) rfl rfl (Nat.le_of_ble_eq_true rfl) ?_
          obtain ⟨hb16, h⟩ := mx_chkE h
          obtain rfl := Option.some.inj h
          exact mx_zreturn (mx_d tX12_readLine_0 27 rfl) rfl (mx_nb (mx_b01E hb16)) ⟨rfl, rfl⟩
      · rw [if_neg hc6] at h
        refine mx_aload_n (mx_d tX12_readLine_0 18 rfl) rfl rfl ?_
        obtain ⟨r17, h_r17, h⟩ := Option.bind_eq_some_iff.mp h
        refine mx_cVi (mx_d tX12_readLine_0 19 rfl) iX12_226 rfl vX12_readPair ⟨_, rfl, rfl⟩ (ly12_o h0) (CX12_readPair h0 h_r17) (by decide) rfl rfl (Nat.le_of_ble_eq_true rfl) ?_
        obtain ⟨hb18, h⟩ := mx_chkE h
        obtain rfl := Option.some.inj h
        exact mx_zreturn (mx_d tX12_readLine_0 20 rfl) rfl (mx_nb (mx_b01E hb18)) ⟨rfl, rfl⟩
    · rw [if_neg hc4] at h
      refine mx_aload_n (mx_d tX12_readLine_0 11 rfl) rfl rfl ?_
      obtain ⟨r19, h_r19, h⟩ := Option.bind_eq_some_iff.mp h
      refine mx_cVi (mx_d tX12_readLine_0 12 rfl) iX12_223 rfl vX12_readLink ⟨_, rfl, rfl⟩ (ly12_o h0) (CX12_readLink h0 h_r19) (by decide) rfl rfl (Nat.le_of_ble_eq_true rfl) ?_
      obtain ⟨hb20, h⟩ := mx_chkE h
      obtain rfl := Option.some.inj h
      exact mx_zreturn (mx_d tX12_readLine_0 13 rfl) rfl (mx_nb (mx_b01E hb20)) ⟨rfl, rfl⟩
  · rw [if_neg hc2] at h
    refine mx_aload_n (mx_d tX12_readLine_0 4 rfl) rfl rfl ?_
    obtain ⟨r21, h_r21, h⟩ := Option.bind_eq_some_iff.mp h
    refine mx_cVi (mx_d tX12_readLine_0 5 rfl) iX12_220 rfl vX12_readPoint ⟨_, rfl, rfl⟩ (ly12_o h0) (CX12_readPoint h0 h_r21) (by decide) rfl rfl (Nat.le_of_ble_eq_true rfl) ?_
    obtain ⟨hb22, h⟩ := mx_chkE h
    obtain rfl := Option.some.inj h
    exact mx_zreturn (mx_d tX12_readLine_0 6 rfl) rfl (mx_nb (mx_b01E hb22)) ⟨rfl, rfl⟩
def FX12_network_L9 (q0 : Nat) : Nat → Int32 → mB → Option (mB)
  | 0, _, _ => none
  | f + 1, y1, m => (if 125 ≤ y1 then (some (m)) else mx_chk (mx_inb y1 125) (mx_let (mx_up m.1 (q0 + 3) (Int32.toNatClampNeg y1) 0, m.2) (fun m3 => mx_let (y1 + 1) (fun v5 => (FX12_network_L9 q0 f v5 m3)))))
set_option maxRecDepth 20000 in
theorem CX12_network_L9 {G : mG} {l : Launch} {e : mE} {Post : Option Value → mS → Prop} {q0 : Nat} (g0 : ly12 e q0) : ∀ (f : Nat) {y1 : Int32} {m : mB} {q : (mB)}, FX12_network_L9 q0 f y1 m = some q → (mx_Fr G l MX12_network 7 0 0 Post 28 [.ref q0, .float 0, .float 0] [] (e, q)) → mx_Fr G l MX12_network 7 0 0 Post 9 [.ref q0, .int y1, .float 0] [] (e, m) := by
  intro f
  induction f with
  | zero => intro _ _ _ h; cases h
  | succ f ih =>
    intro y1 m q h hex
    rw [FX12_network_L9] at h
    refine mx_iload_n (mx_d tX12_network_0 5 rfl) rfl rfl ?_
    refine mx_bipush (125) (mx_d tX12_network_0 6 rfl) (by decide) ?_
    refine mx_icmp_ge (tgt := 28) (mx_d tX12_network_0 7 rfl) (by decide) (fun hc2 => ?_) (fun hc2 => ?_)
    · rw [if_pos hc2] at h
      obtain rfl := Option.some.inj h
      refine mx_forget (L' := [.ref q0, .float 0, .float 0]) ⟨rfl, trivial⟩ ?_
      exact hex
    · rw [if_neg hc2] at h
      refine mx_aload_n (mx_d tX12_network_0 8 rfl) rfl rfl ?_
      refine mx_getR (mx_d tX12_network_0 9 rfl) fX12_101 rfl rfl (ly12_o g0) (ly12_r15 g0) ?_
      refine mx_iload_n (mx_d tX12_network_0 10 rfl) rfl rfl ?_
      refine mx_iconst (0) (mx_d tX12_network_0 11 rfl) (by decide) ?_
      obtain ⟨hi4, h⟩ := mx_chkE h
      obtain ⟨m3, e_m3, h⟩ := mx_letE h
      refine mx_iastore (mx_d tX12_network_0 12 rfl) (ly12_s15 g0) (mx_inbE hi4) (mx_eqz (z' := (e, m3)) (by rw [e_m3]) ?_)
      obtain ⟨v5, e_v5, h⟩ := mx_letE h
      refine mx_iinc v5 (L2 := [.ref q0, .int v5, .float 0]) (mx_d tX12_network_0 13 rfl) rfl (by rw [e_v5]; rfl) (by decide) rfl ?_
      refine mx_goto (tgt := 9) (mx_d tX12_network_0 14 rfl) (by decide) ?_
      exact ih h hex
def FX12_network_L30 (q0 : Nat) : Nat → Int32 → mB → Option (mB)
  | 0, _, _ => none
  | f + 1, y1, m => (if 10 ≤ y1 then (some (m)) else mx_chk (mx_inb (93 + y1) 125) (mx_let (mx_up m.1 (q0 + 3) (Int32.toNatClampNeg (93 + y1)) (-1), m.2) (fun m8 => mx_chk (mx_inb y1 10) (mx_let (mx_up m8.1 (q0 + 12) (Int32.toNatClampNeg y1) 0, m8.2) (fun m10 => mx_let (y1 + 1) (fun v12 => (FX12_network_L30 q0 f v12 m10)))))))
set_option maxRecDepth 20000 in
theorem CX12_network_L30 {G : mG} {l : Launch} {e : mE} {Post : Option Value → mS → Prop} {q0 : Nat} (g0 : ly12 e q0) : ∀ (f : Nat) {y1 : Int32} {m : mB} {q : (mB)}, FX12_network_L30 q0 f y1 m = some q → (mx_Fr G l MX12_network 7 0 0 Post 59 [.ref q0, .float 0, .float 0] [] (e, q)) → mx_Fr G l MX12_network 7 0 0 Post 30 [.ref q0, .int y1, .float 0] [] (e, m) := by
  intro f
  induction f with
  | zero => intro _ _ _ h; cases h
  | succ f ih =>
    intro y1 m q h hex
    rw [FX12_network_L30] at h
    refine mx_iload_n (mx_d tX12_network_0 17 rfl) rfl rfl ?_
    refine mx_bipush (10) (mx_d tX12_network_0 18 rfl) (by decide) ?_
    refine mx_icmp_ge (tgt := 59) (mx_d tX12_network_0 19 rfl) (by decide) (fun hc7 => ?_) (fun hc7 => ?_)
    · rw [if_pos hc7] at h
      obtain rfl := Option.some.inj h
      refine mx_forget (L' := [.ref q0, .float 0, .float 0]) ⟨rfl, trivial⟩ ?_
      exact hex
    · rw [if_neg hc7] at h
      refine mx_aload_n (mx_d tX12_network_0 20 rfl) rfl rfl ?_
      refine mx_getR (mx_d tX12_network_0 21 rfl) fX12_101 rfl rfl (ly12_o g0) (ly12_r15 g0) ?_
      refine mx_bipush (93) (mx_d tX12_network_0 22 rfl) (by decide) ?_
      refine mx_iload_n (mx_d tX12_network_0 23 rfl) rfl rfl ?_
      refine mx_iadd (mx_d tX12_network_0 24 rfl) ?_
      refine mx_iconst ((-1)) (mx_d tX12_network_0 25 rfl) (by decide) ?_
      obtain ⟨hi9, h⟩ := mx_chkE h
      obtain ⟨m8, e_m8, h⟩ := mx_letE h
      refine mx_iastore (mx_d tX12_network_0 26 rfl) (ly12_s15 g0) (mx_inbE hi9) (mx_eqz (z' := (e, m8)) (by rw [e_m8]) ?_)
      refine mx_aload_n (mx_d tX12_network_0 27 rfl) rfl rfl ?_
      refine mx_getR (mx_d tX12_network_0 28 rfl) fX12_130 rfl rfl (ly12_o g0) (ly12_r24 g0) ?_
      refine mx_iload_n (mx_d tX12_network_0 29 rfl) rfl rfl ?_
      refine mx_iconst (0) (mx_d tX12_network_0 30 rfl) (by decide) ?_
      obtain ⟨hi11, h⟩ := mx_chkE h
      obtain ⟨m10, e_m10, h⟩ := mx_letE h
      refine mx_bastore (mx_d tX12_network_0 31 rfl) (ly12_s24 g0) (mx_inbE hi11) (by decide) (mx_eqz (z' := (e, m10)) (by rw [e_m10]) ?_)
      obtain ⟨v12, e_v12, h⟩ := mx_letE h
      refine mx_iinc v12 (L2 := [.ref q0, .int v12, .float 0]) (mx_d tX12_network_0 32 rfl) rfl (by rw [e_v12]; rfl) (by decide) rfl ?_
      refine mx_goto (tgt := 30) (mx_d tX12_network_0 33 rfl) (by decide) ?_
      exact ih h hex
def FX12_network_L61 (q0 : Nat) : Nat → Int32 → mB → Option ((Int32 × mB) ⊕ (Int32 × mB))
  | 0, _, _ => none
  | f + 1, y1, m => (if (m.1 q0 7) = 0 then (some (.inr (y1, m))) else Option.bind (FX12_readLine q0 m) (fun r15 => (if r15.1 = 0 then (some (.inl (((-1) - (r15.2.1 q0 11)), r15.2))) else Option.bind (FX12_readEnd q0 r15.2) (fun r17 => (if r17.1 = 0 then (some (.inl (((-1) - (r17.2.1 q0 11)), r17.2))) else mx_let (y1 + 1) (fun v19 => (FX12_network_L61 q0 f v19 r17.2)))))))
set_option maxRecDepth 20000 in
theorem CX12_network_L61 {G : mG} {l : Launch} {e : mE} {Post : Option Value → mS → Prop} {q0 : Nat} (g0 : ly12 e q0) : ∀ (f : Nat) {y1 : Int32} {m : mB} {q : ((Int32 × mB) ⊕ (Int32 × mB))}, FX12_network_L61 q0 f y1 m = some q → (∀ rr, q = .inl rr → Post (some (.int rr.1)) (e, rr.2)) → (∀ u, q = .inr u → mx_Fr G l MX12_network 7 0 0 Post 95 [.ref q0, .int u.1, .float 0] [] (e, u.2)) → mx_Fr G l MX12_network 7 0 0 Post 61 [.ref q0, .int y1, .float 0] [] (e, m) := by
  intro f
  induction f with
  | zero => intro _ _ _ h; cases h
  | succ f ih =>
    intro y1 m q h hret hex
    rw [FX12_network_L61] at h
    refine mx_aload_n (mx_d tX12_network_0 36 rfl) rfl rfl ?_
    refine mx_getI (mx_d tX12_network_0 37 rfl) fX12_30 rfl (Or.inl rfl) (ly12_o g0) ?_
    refine mx_if_eq (tgt := 95) (mx_d tX12_network_0 38 rfl) (by decide) (fun hc14 => ?_) (fun hc14 => ?_)
    · rw [if_pos hc14] at h
      obtain rfl := Option.some.inj h
      exact (hex _ rfl)
    · rw [if_neg hc14] at h
      refine mx_aload_n (mx_d tX12_network_0 39 rfl) rfl rfl ?_
      obtain ⟨r15, h_r15, h⟩ := Option.bind_eq_some_iff.mp h
      refine mx_cVi (mx_d tX12_network_0 40 rfl) iX12_238 rfl vX12_readLine ⟨_, rfl, rfl⟩ (ly12_o g0) (CX12_readLine g0 h_r15) (by decide) rfl rfl (Nat.le_of_ble_eq_true rfl) ?_
      refine mx_if_eq (tgt := 82) (mx_d tX12_network_0 41 rfl) (by decide) (fun hc16 => ?_) (fun hc16 => ?_)
      · rw [if_pos hc16] at h
        refine mx_iconst ((-1)) (mx_d tX12_network_0 45 rfl) (by decide) ?_
        refine mx_aload_n (mx_d tX12_network_0 46 rfl) rfl rfl ?_
        refine mx_getI (mx_d tX12_network_0 47 rfl) fX12_69 rfl (Or.inl rfl) (ly12_o g0) ?_
        refine mx_isub (mx_d tX12_network_0 48 rfl) ?_
        obtain rfl := Option.some.inj h
        exact mx_ireturn (mx_d tX12_network_0 49 rfl) rfl (hret (((-1) - (r15.2.1 q0 11)), r15.2) rfl)
      · rw [if_neg hc16] at h
        refine mx_aload_n (mx_d tX12_network_0 42 rfl) rfl rfl ?_
        obtain ⟨r17, h_r17, h⟩ := Option.bind_eq_some_iff.mp h
        refine mx_cVi (mx_d tX12_network_0 43 rfl) iX12_241 rfl vX12_readEnd ⟨_, rfl, rfl⟩ (ly12_o g0) (CX12_readEnd g0 h_r17) (by decide) rfl rfl (Nat.le_of_ble_eq_true rfl) ?_
        refine mx_if_ne (tgt := 89) (mx_d tX12_network_0 44 rfl) (by decide) (fun hc18 => ?_) (fun hc18 => ?_)
        · rw [if_neg hc18] at h
          obtain ⟨v19, e_v19, h⟩ := mx_letE h
          refine mx_iinc v19 (L2 := [.ref q0, .int v19, .float 0]) (mx_d tX12_network_0 50 rfl) rfl (by rw [e_v19]; rfl) (by decide) rfl ?_
          refine mx_goto (tgt := 61) (mx_d tX12_network_0 51 rfl) (by decide) ?_
          exact ih h hret hex
        · rw [if_pos hc18] at h
          refine mx_iconst ((-1)) (mx_d tX12_network_0 45 rfl) (by decide) ?_
          refine mx_aload_n (mx_d tX12_network_0 46 rfl) rfl rfl ?_
          refine mx_getI (mx_d tX12_network_0 47 rfl) fX12_69 rfl (Or.inl rfl) (ly12_o g0) ?_
          refine mx_isub (mx_d tX12_network_0 48 rfl) ?_
          obtain rfl := Option.some.inj h
          exact mx_ireturn (mx_d tX12_network_0 49 rfl) rfl (hret (((-1) - (r17.2.1 q0 11)), r17.2) rfl)
def FX12_network_L97 (q0 : Nat) (y1 : Int32) : Nat → Int32 → mB → Option (mB)
  | 0, _, _ => none
  | f + 1, y2, m => (if 125 ≤ y2 then (some (m)) else mx_chk (mx_inb y2 125) (mx_chk (mx_inb y2 432) (mx_let (mx_up m.1 (q0 + 2) (Int32.toNatClampNeg y2) (m.1 (q0 + 3) (Int32.toNatClampNeg y2)), m.2) (fun m25 => mx_let (y2 + 1) (fun v27 => (FX12_network_L97 q0 y1 f v27 m25))))))
set_option maxRecDepth 20000 in
theorem CX12_network_L97 {G : mG} {l : Launch} {e : mE} {Post : Option Value → mS → Prop} {q0 : Nat} {y1 : Int32} (g0 : ly12 e q0) : ∀ (f : Nat) {y2 : Int32} {m : mB} {q : (mB)}, FX12_network_L97 q0 y1 f y2 m = some q → (mx_Fr G l MX12_network 7 0 0 Post 121 [.ref q0, .int y1, .float 0] [] (e, q)) → mx_Fr G l MX12_network 7 0 0 Post 97 [.ref q0, .int y1, .int y2] [] (e, m) := by
  intro f
  induction f with
  | zero => intro _ _ _ h; cases h
  | succ f ih =>
    intro y2 m q h hex
    rw [FX12_network_L97] at h
    refine mx_iload_n (mx_d tX12_network_0 54 rfl) rfl rfl ?_
    refine mx_bipush (125) (mx_d tX12_network_0 55 rfl) (by decide) ?_
    refine mx_icmp_ge (tgt := 121) (mx_d tX12_network_0 56 rfl) (by decide) (fun hc23 => ?_) (fun hc23 => ?_)
    · rw [if_pos hc23] at h
      obtain rfl := Option.some.inj h
      refine mx_forget (L' := [.ref q0, .int y1, .float 0]) ⟨rfl, rfl, trivial⟩ ?_
      exact hex
    · rw [if_neg hc23] at h
      refine mx_aload_n (mx_d tX12_network_0 57 rfl) rfl rfl ?_
      refine mx_getR (mx_d tX12_network_0 58 rfl) fX12_98 rfl rfl (ly12_o g0) (ly12_r14 g0) ?_
      refine mx_iload_n (mx_d tX12_network_0 59 rfl) rfl rfl ?_
      refine mx_aload_n (mx_d tX12_network_1 0 rfl) rfl rfl ?_
      refine mx_getR (mx_d tX12_network_1 1 rfl) fX12_101 rfl rfl (ly12_o g0) (ly12_r15 g0) ?_
      refine mx_iload_n (mx_d tX12_network_1 2 rfl) rfl rfl ?_
      obtain ⟨hi24, h⟩ := mx_chkE h
      refine mx_iaload (mx_d tX12_network_1 3 rfl) (ly12_s15 g0) (mx_inbE hi24) ?_
      obtain ⟨hi26, h⟩ := mx_chkE h
      obtain ⟨m25, e_m25, h⟩ := mx_letE h
      refine mx_iastore (mx_d tX12_network_1 4 rfl) (ly12_s14 g0) (mx_inbE hi26) (mx_eqz (z' := (e, m25)) (by rw [e_m25]) ?_)
      obtain ⟨v27, e_v27, h⟩ := mx_letE h
      refine mx_iinc v27 (L2 := [.ref q0, .int y1, .int v27]) (mx_d tX12_network_1 5 rfl) rfl (by rw [e_v27]; rfl) (by decide) rfl ?_
      refine mx_goto (tgt := 97) (mx_d tX12_network_1 6 rfl) (by decide) ?_
      exact ih h hex
def FX12_network_L123 (q0 : Nat) (y1 : Int32) : Nat → Int32 → mB → Option (mB)
  | 0, _, _ => none
  | f + 1, y2, m => (if 10 ≤ y2 then (some (m)) else mx_chk (mx_inb y2 10) (mx_let (m.1, mx_ul m.2 (q0 + 8) (Int32.toNatClampNeg y2) (m.2 (q0 + 9) (Int32.toNatClampNeg y2))) (fun m31 => mx_let (y2 + 1) (fun v32 => (FX12_network_L123 q0 y1 f v32 m31)))))
set_option maxRecDepth 20000 in
theorem CX12_network_L123 {G : mG} {l : Launch} {e : mE} {Post : Option Value → mS → Prop} {q0 : Nat} {y1 : Int32} (g0 : ly12 e q0) : ∀ (f : Nat) {y2 : Int32} {m : mB} {q : (mB)}, FX12_network_L123 q0 y1 f y2 m = some q → (mx_Fr G l MX12_network 7 0 0 Post 147 [.ref q0, .int y1, .float 0] [] (e, q)) → mx_Fr G l MX12_network 7 0 0 Post 123 [.ref q0, .int y1, .int y2] [] (e, m) := by
  intro f
  induction f with
  | zero => intro _ _ _ h; cases h
  | succ f ih =>
    intro y2 m q h hex
    rw [FX12_network_L123] at h
    refine mx_iload_n (mx_d tX12_network_1 9 rfl) rfl rfl ?_
    refine mx_bipush (10) (mx_d tX12_network_1 10 rfl) (by decide) ?_
    refine mx_icmp_ge (tgt := 147) (mx_d tX12_network_1 11 rfl) (by decide) (fun hc29 => ?_) (fun hc29 => ?_)
    · rw [if_pos hc29] at h
      obtain rfl := Option.some.inj h
      refine mx_forget (L' := [.ref q0, .int y1, .float 0]) ⟨rfl, rfl, trivial⟩ ?_
      exact hex
    · rw [if_neg hc29] at h
      refine mx_aload_n (mx_d tX12_network_1 12 rfl) rfl rfl ?_
      refine mx_getR (mx_d tX12_network_1 13 rfl) fX12_116 rfl rfl (ly12_o g0) (ly12_r20 g0) ?_
      refine mx_iload_n (mx_d tX12_network_1 14 rfl) rfl rfl ?_
      refine mx_aload_n (mx_d tX12_network_1 15 rfl) rfl rfl ?_
      refine mx_getR (mx_d tX12_network_1 16 rfl) fX12_120 rfl rfl (ly12_o g0) (ly12_r21 g0) ?_
      refine mx_iload_n (mx_d tX12_network_1 17 rfl) rfl rfl ?_
      obtain ⟨hi30, h⟩ := mx_chkE h
      refine mx_laload (mx_d tX12_network_1 18 rfl) (ly12_s21 g0) (mx_inbE hi30) ?_
      obtain ⟨m31, e_m31, h⟩ := mx_letE h
      refine mx_lastore (mx_d tX12_network_1 19 rfl) (ly12_s20 g0) (mx_inbE hi30) (mx_eqz (z' := (e, m31)) (by rw [e_m31]) ?_)
      obtain ⟨v32, e_v32, h⟩ := mx_letE h
      refine mx_iinc v32 (L2 := [.ref q0, .int y1, .int v32]) (mx_d tX12_network_1 20 rfl) rfl (by rw [e_v32]; rfl) (by decide) rfl ?_
      refine mx_goto (tgt := 123) (mx_d tX12_network_1 21 rfl) (by decide) ?_
      exact ih h hex
def FX12_network (a : Nat) (m : mB) : Option (Int32 × mB) := Option.bind (FX12_begin a 900 m) (fun r1 => Option.bind (FX12_network_L9 a mx_FU 0 r1) (fun q6 => Option.bind (FX12_network_L30 a mx_FU 0 q6) (fun q13 => Option.bind (FX12_network_L61 a mx_FU 0 q13) (fun q20 => Sum.elim (fun rr => some rr) (fun u21 => Option.bind (FX12_network_L97 a u21.1 mx_FU 0 u21.2) (fun q28 => Option.bind (FX12_network_L123 a u21.1 mx_FU 0 q28) (fun q33 => Option.bind (FX12_startSo a q33) (fun r34 => mx_let (mx_up r34.1 a 25 0, r34.2) (fun m35 => (some (u21.1, m35))))))) q20))))
set_option maxRecDepth 20000 in
theorem CX12_network {G : mG} {l : Launch} {e : mE} {a : Nat} {m : mB} {r : (Int32 × mB)} (h0 : ly12 e a) (h : FX12_network a m = some r) : mx_Call G l MX12_network 7 0 0 [.ref a] (e, m) (fun v z => v = some (.int r.1) ∧ z = (e, r.2)) := by
  refine mx_entry (L := [.ref a, .float 0, .float 0]) (by decide +kernel) (Nat.le_of_ble_eq_true rfl) rfl ?_
  unfold FX12_network at h
  refine mx_aload_n (mx_d tX12_network_0 0 rfl) rfl rfl ?_
  refine mx_sipush (900) (mx_d tX12_network_0 1 rfl) (by decide) ?_
  obtain ⟨r1, h_r1, h⟩ := Option.bind_eq_some_iff.mp h
  refine mx_cVv (mx_d tX12_network_0 2 rfl) iX12_235 rfl vX12_begin ⟨_, rfl, rfl⟩ (ly12_o h0) (CX12_begin h0 h_r1) (by decide) rfl rfl (Nat.le_of_ble_eq_true rfl) ?_
  refine mx_iconst (0) (mx_d tX12_network_0 3 rfl) (by decide) ?_
  refine mx_istore_n (L2 := [.ref a, .int 0, .float 0]) (mx_d tX12_network_0 4 rfl) rfl (by decide) (by rfl) ?_
  obtain ⟨q6, h_q6, h⟩ := Option.bind_eq_some_iff.mp h
  refine CX12_network_L9 h0 mx_FU h_q6 ?_
  refine mx_iconst (0) (mx_d tX12_network_0 15 rfl) (by decide) ?_
  refine mx_istore_n (L2 := [.ref a, .int 0, .float 0]) (mx_d tX12_network_0 16 rfl) rfl (by decide) (by rfl) ?_
  obtain ⟨q13, h_q13, h⟩ := Option.bind_eq_some_iff.mp h
  refine CX12_network_L30 h0 mx_FU h_q13 ?_
  refine mx_iconst (0) (mx_d tX12_network_0 34 rfl) (by decide) ?_
  refine mx_istore_n (L2 := [.ref a, .int 0, .float 0]) (mx_d tX12_network_0 35 rfl) rfl (by decide) (by rfl) ?_
  obtain ⟨q20, h_q20, h⟩ := Option.bind_eq_some_iff.mp h
  refine CX12_network_L61 h0 mx_FU h_q20 (fun rr22 e_rr22 => ?_) (fun u21 e_u21 => ?_)
  · subst e_rr22
    rw [Sum.elim_inl] at h
    obtain rfl := Option.some.inj h
    exact ⟨rfl, rfl⟩
  · subst e_u21
    rw [Sum.elim_inr] at h
    refine mx_iconst (0) (mx_d tX12_network_0 52 rfl) (by decide) ?_
    refine mx_istore_n (L2 := [.ref a, .int u21.1, .int 0]) (mx_d tX12_network_0 53 rfl) rfl (by decide) (by rfl) ?_
    obtain ⟨q28, h_q28, h⟩ := Option.bind_eq_some_iff.mp h
    refine CX12_network_L97 h0 mx_FU h_q28 ?_
    refine mx_iconst (0) (mx_d tX12_network_1 7 rfl) (by decide) ?_
    refine mx_istore_n (L2 := [.ref a, .int u21.1, .int 0]) (mx_d tX12_network_1 8 rfl) rfl (by decide) (by rfl) ?_
    obtain ⟨q33, h_q33, h⟩ := Option.bind_eq_some_iff.mp h
    refine CX12_network_L123 h0 mx_FU h_q33 ?_
    refine mx_aload_n (mx_d tX12_network_1 22 rfl) rfl rfl ?_
    obtain ⟨r34, h_r34, h⟩ := Option.bind_eq_some_iff.mp h
    refine mx_cVv (mx_d tX12_network_1 23 rfl) iX12_181 rfl vX12_startSo ⟨_, rfl, rfl⟩ (ly12_o h0) (CX12_startSo h0 h_r34) (by decide) rfl rfl (Nat.le_of_ble_eq_true rfl) ?_
    refine mx_aload_n (mx_d tX12_network_1 24 rfl) rfl rfl ?_
    refine mx_iconst (0) (mx_d tX12_network_1 25 rfl) (by decide) ?_
    obtain ⟨m35, e_m35, h⟩ := mx_letE h
    refine mx_putI (mx_d tX12_network_1 26 rfl) fX12_244 rfl ⟨_, rfl, rfl⟩ rfl (ly12_o h0) (mx_eqz (z' := (e, m35)) (by rw [e_m35]) ?_)
    refine mx_iload_n (mx_d tX12_network_1 27 rfl) rfl rfl ?_
    obtain rfl := Option.some.inj h
    exact mx_ireturn (mx_d tX12_network_1 28 rfl) rfl ⟨rfl, rfl⟩
def FX12_fault (a : Nat) (m : mB) : Option (Int32 × mB) := mx_let (mx_up m.1 a 0 0, m.2) (fun m1 => (some ((m1.1 a 10), m1)))
set_option maxRecDepth 20000 in
theorem CX12_fault {G : mG} {l : Launch} {e : mE} {a : Nat} {m : mB} {r : (Int32 × mB)} (h0 : ly12 e a) (h : FX12_fault a m = some r) : mx_Call G l MX12_fault 1 0 0 [.ref a] (e, m) (fun v z => v = some (.int r.1) ∧ z = (e, r.2)) := by
  refine mx_entry (L := [.ref a]) (by decide +kernel) (Nat.le_of_ble_eq_true rfl) rfl ?_
  unfold FX12_fault at h
  refine mx_aload_n (mx_d tX12_fault_0 0 rfl) rfl rfl ?_
  refine mx_iconst (0) (mx_d tX12_fault_0 1 rfl) (by decide) ?_
  obtain ⟨m1, e_m1, h⟩ := mx_letE h
  refine mx_putI (mx_d tX12_fault_0 2 rfl) fX12_1 rfl ⟨_, rfl, rfl⟩ rfl (ly12_o h0) (mx_eqz (z' := (e, m1)) (by rw [e_m1]) ?_)
  refine mx_aload_n (mx_d tX12_fault_0 3 rfl) rfl rfl ?_
  refine mx_getI (mx_d tX12_fault_0 4 rfl) fX12_66 rfl (Or.inl rfl) (ly12_o h0) ?_
  obtain rfl := Option.some.inj h
  exact mx_ireturn (mx_d tX12_fault_0 5 rfl) rfl ⟨rfl, rfl⟩
def FX12_isPoint (a : Nat) (x0 : Int32) (m : mB) : Option Int32 := Option.bind (FX12_isIn x0 0 ((m.1 (a + 2) 0) - 1) m) (fun r1 => mx_chk (mx_b01 r1) ((some r1)))
set_option maxRecDepth 20000 in
theorem CX12_isPoint {G : mG} {l : Launch} {e : mE} {a : Nat} {x0 : Int32} {m : mB} {r : Int32} (h0 : ly12 e a) (h : FX12_isPoint a x0 m = some r) : mx_Call G l MX12_isPoint 2 0 0 [.ref a, .int x0] (e, m) (fun v z => v = some (.int r) ∧ z = (e, m)) := by
  refine mx_entry (L := [.ref a, .int x0]) (by decide +kernel) (Nat.le_of_ble_eq_true rfl) rfl ?_
  unfold FX12_isPoint at h
  refine mx_iload_n (mx_d tX12_isPoint_0 0 rfl) rfl rfl ?_
  refine mx_iconst (0) (mx_d tX12_isPoint_0 1 rfl) (by decide) ?_
  refine mx_aload_n (mx_d tX12_isPoint_0 2 rfl) rfl rfl ?_
  refine mx_getR (mx_d tX12_isPoint_0 3 rfl) fX12_98 rfl rfl (ly12_o h0) (ly12_r14 h0) ?_
  refine mx_iconst (0) (mx_d tX12_isPoint_0 4 rfl) (by decide) ?_
  refine mx_ialoadC 0 (mx_d tX12_isPoint_0 5 rfl) (ly12_s14 h0) (by decide) (mx_inbE (by decide)) ?_
  refine mx_iconst (1) (mx_d tX12_isPoint_0 6 rfl) (by decide) ?_
  refine mx_isub (mx_d tX12_isPoint_0 7 rfl) ?_
  obtain ⟨r1, h_r1, h⟩ := Option.bind_eq_some_iff.mp h
  refine mx_cSi (mx_d tX12_isPoint_0 8 rfl) iX12_75 rfl sX12_isIn (CX12_isIn  h_r1) (by decide) rfl rfl (Nat.le_of_ble_eq_true rfl) ?_
  obtain ⟨hb2, h⟩ := mx_chkE h
  obtain rfl := Option.some.inj h
  exact mx_zreturn (mx_d tX12_isPoint_0 9 rfl) rfl (mx_nb (mx_b01E hb2)) ⟨rfl, rfl⟩
def FX12_areTwo (a : Nat) (x0 : Int32) (x1 : Int32) (m : mB) : Option Int32 := Option.bind (FX12_isPoint a x0 m) (fun r1 => (if r1 = 0 then (some 0) else Option.bind (FX12_isPoint a x1 m) (fun r3 => (if r3 = 0 then (some 0) else (if x0 = x1 then (some 0) else (some 1))))))
set_option maxRecDepth 20000 in
theorem CX12_areTwo {G : mG} {l : Launch} {e : mE} {a : Nat} {x0 : Int32} {x1 : Int32} {m : mB} {r : Int32} (h0 : ly12 e a) (h : FX12_areTwo a x0 x1 m = some r) : mx_Call G l MX12_areTwo 3 0 0 [.ref a, .int x0, .int x1] (e, m) (fun v z => v = some (.int r) ∧ z = (e, m)) := by
  refine mx_entry (L := [.ref a, .int x0, .int x1]) (by decide +kernel) (Nat.le_of_ble_eq_true rfl) rfl ?_
  unfold FX12_areTwo at h
  refine mx_aload_n (mx_d tX12_areTwo_0 0 rfl) rfl rfl ?_
  refine mx_iload_n (mx_d tX12_areTwo_0 1 rfl) rfl rfl ?_
  obtain ⟨r1, h_r1, h⟩ := Option.bind_eq_some_iff.mp h
  refine mx_cVi (mx_d tX12_areTwo_0 2 rfl) iX12_247 rfl vX12_isPoint ⟨_, rfl, rfl⟩ (ly12_o h0) (CX12_isPoint h0 h_r1) (by decide) rfl rfl (Nat.le_of_ble_eq_true rfl) ?_
  refine mx_if_eq (tgt := 25) (mx_d tX12_areTwo_0 3 rfl) (by decide) (fun hc2 => ?_) (fun hc2 => ?_)
  · rw [if_pos hc2] at h
    refine mx_iconst (0) (mx_d tX12_areTwo_0 13 rfl) (by decide) ?_
    obtain rfl := Option.some.inj h
    exact mx_zreturn (mx_d tX12_areTwo_0 14 rfl) rfl rfl ⟨rfl, rfl⟩
  · rw [if_neg hc2] at h
    refine mx_aload_n (mx_d tX12_areTwo_0 4 rfl) rfl rfl ?_
    refine mx_iload_n (mx_d tX12_areTwo_0 5 rfl) rfl rfl ?_
    obtain ⟨r3, h_r3, h⟩ := Option.bind_eq_some_iff.mp h
    refine mx_cVi (mx_d tX12_areTwo_0 6 rfl) iX12_247 rfl vX12_isPoint ⟨_, rfl, rfl⟩ (ly12_o h0) (CX12_isPoint h0 h_r3) (by decide) rfl rfl (Nat.le_of_ble_eq_true rfl) ?_
    refine mx_if_eq (tgt := 25) (mx_d tX12_areTwo_0 7 rfl) (by decide) (fun hc4 => ?_) (fun hc4 => ?_)
    · rw [if_pos hc4] at h
      refine mx_iconst (0) (mx_d tX12_areTwo_0 13 rfl) (by decide) ?_
      obtain rfl := Option.some.inj h
      exact mx_zreturn (mx_d tX12_areTwo_0 14 rfl) rfl rfl ⟨rfl, rfl⟩
    · rw [if_neg hc4] at h
      refine mx_iload_n (mx_d tX12_areTwo_0 8 rfl) rfl rfl ?_
      refine mx_iload_n (mx_d tX12_areTwo_0 9 rfl) rfl rfl ?_
      refine mx_icmp_eq (tgt := 25) (mx_d tX12_areTwo_0 10 rfl) (by decide) (fun hc5 => ?_) (fun hc5 => ?_)
      · rw [if_pos hc5] at h
        refine mx_iconst (0) (mx_d tX12_areTwo_0 13 rfl) (by decide) ?_
        obtain rfl := Option.some.inj h
        exact mx_zreturn (mx_d tX12_areTwo_0 14 rfl) rfl rfl ⟨rfl, rfl⟩
      · rw [if_neg hc5] at h
        refine mx_iconst (1) (mx_d tX12_areTwo_0 11 rfl) (by decide) ?_
        refine mx_goto (tgt := 26) (mx_d tX12_areTwo_0 12 rfl) (by decide) ?_
        obtain rfl := Option.some.inj h
        exact mx_zreturn (mx_d tX12_areTwo_0 14 rfl) rfl rfl ⟨rfl, rfl⟩
def FX12_isLink (a : Nat) (x0 : Int32) (m : mB) : Option Int32 := Option.bind (FX12_isIn x0 0 ((m.1 (a + 2) 1) - 1) m) (fun r1 => mx_chk (mx_b01 r1) ((some r1)))
set_option maxRecDepth 20000 in
theorem CX12_isLink {G : mG} {l : Launch} {e : mE} {a : Nat} {x0 : Int32} {m : mB} {r : Int32} (h0 : ly12 e a) (h : FX12_isLink a x0 m = some r) : mx_Call G l MX12_isLink 2 0 0 [.ref a, .int x0] (e, m) (fun v z => v = some (.int r) ∧ z = (e, m)) := by
  refine mx_entry (L := [.ref a, .int x0]) (by decide +kernel) (Nat.le_of_ble_eq_true rfl) rfl ?_
  unfold FX12_isLink at h
  refine mx_iload_n (mx_d tX12_isLink_0 0 rfl) rfl rfl ?_
  refine mx_iconst (0) (mx_d tX12_isLink_0 1 rfl) (by decide) ?_
  refine mx_aload_n (mx_d tX12_isLink_0 2 rfl) rfl rfl ?_
  refine mx_getR (mx_d tX12_isLink_0 3 rfl) fX12_98 rfl rfl (ly12_o h0) (ly12_r14 h0) ?_
  refine mx_iconst (1) (mx_d tX12_isLink_0 4 rfl) (by decide) ?_
  refine mx_ialoadC 1 (mx_d tX12_isLink_0 5 rfl) (ly12_s14 h0) (by decide) (mx_inbE (by decide)) ?_
  refine mx_iconst (1) (mx_d tX12_isLink_0 6 rfl) (by decide) ?_
  refine mx_isub (mx_d tX12_isLink_0 7 rfl) ?_
  obtain ⟨r1, h_r1, h⟩ := Option.bind_eq_some_iff.mp h
  refine mx_cSi (mx_d tX12_isLink_0 8 rfl) iX12_75 rfl sX12_isIn (CX12_isIn  h_r1) (by decide) rfl rfl (Nat.le_of_ble_eq_true rfl) ?_
  obtain ⟨hb2, h⟩ := mx_chkE h
  obtain rfl := Option.some.inj h
  exact mx_zreturn (mx_d tX12_isLink_0 9 rfl) rfl (mx_nb (mx_b01E hb2)) ⟨rfl, rfl⟩
def FX12_isOdd (a : Nat) (x0 : Int32) (m : mB) : Option Int32 := Option.bind (FX12_isIn x0 0 ((m.1 (a + 2) 125) - 1) m) (fun r1 => mx_chk (mx_b01 r1) ((some r1)))
set_option maxRecDepth 20000 in
theorem CX12_isOdd {G : mG} {l : Launch} {e : mE} {a : Nat} {x0 : Int32} {m : mB} {r : Int32} (h0 : ly12 e a) (h : FX12_isOdd a x0 m = some r) : mx_Call G l MX12_isOdd 2 0 0 [.ref a, .int x0] (e, m) (fun v z => v = some (.int r) ∧ z = (e, m)) := by
  refine mx_entry (L := [.ref a, .int x0]) (by decide +kernel) (Nat.le_of_ble_eq_true rfl) rfl ?_
  unfold FX12_isOdd at h
  refine mx_iload_n (mx_d tX12_isOdd_0 0 rfl) rfl rfl ?_
  refine mx_iconst (0) (mx_d tX12_isOdd_0 1 rfl) (by decide) ?_
  refine mx_aload_n (mx_d tX12_isOdd_0 2 rfl) rfl rfl ?_
  refine mx_getR (mx_d tX12_isOdd_0 3 rfl) fX12_98 rfl rfl (ly12_o h0) (ly12_r14 h0) ?_
  refine mx_bipush (125) (mx_d tX12_isOdd_0 4 rfl) (by decide) ?_
  refine mx_ialoadC 125 (mx_d tX12_isOdd_0 5 rfl) (ly12_s14 h0) (by decide) (mx_inbE (by decide)) ?_
  refine mx_iconst (1) (mx_d tX12_isOdd_0 6 rfl) (by decide) ?_
  refine mx_isub (mx_d tX12_isOdd_0 7 rfl) ?_
  obtain ⟨r1, h_r1, h⟩ := Option.bind_eq_some_iff.mp h
  refine mx_cSi (mx_d tX12_isOdd_0 8 rfl) iX12_75 rfl sX12_isIn (CX12_isIn  h_r1) (by decide) rfl rfl (Nat.le_of_ble_eq_true rfl) ?_
  obtain ⟨hb2, h⟩ := mx_chkE h
  obtain rfl := Option.some.inj h
  exact mx_zreturn (mx_d tX12_isOdd_0 9 rfl) rfl (mx_nb (mx_b01E hb2)) ⟨rfl, rfl⟩
def FX12_between (a : Nat) (x0 : Int32) (x1 : Int32) (m : mB) : Option Int32 := Option.bind (FX12_linkIn (a + 2) 432 x0 x1 m) (fun r1 => (some r1))
set_option maxRecDepth 20000 in
theorem CX12_between {G : mG} {l : Launch} {e : mE} {a : Nat} {x0 : Int32} {x1 : Int32} {m : mB} {r : Int32} (h0 : ly12 e a) (h : FX12_between a x0 x1 m = some r) : mx_Call G l MX12_between 2 0 0 [.ref a, .int x0, .int x1] (e, m) (fun v z => v = some (.int r) ∧ z = (e, m)) := by
  refine mx_entry (L := [.ref a, .int x0, .int x1]) (by decide +kernel) (Nat.le_of_ble_eq_true rfl) rfl ?_
  unfold FX12_between at h
  refine mx_aload_n (mx_d tX12_between_0 0 rfl) rfl rfl ?_
  refine mx_getR (mx_d tX12_between_0 1 rfl) fX12_98 rfl rfl (ly12_o h0) (ly12_r14 h0) ?_
  refine mx_iload_n (mx_d tX12_between_0 2 rfl) rfl rfl ?_
  refine mx_iload_n (mx_d tX12_between_0 3 rfl) rfl rfl ?_
  obtain ⟨r1, h_r1, h⟩ := Option.bind_eq_some_iff.mp h
  refine mx_cSi (mx_d tX12_between_0 4 rfl) iX12_199 rfl sX12_linkIn (CX12_linkIn (ly12_s14 h0) h_r1) (by decide) rfl rfl (Nat.le_of_ble_eq_true rfl) ?_
  obtain rfl := Option.some.inj h
  exact mx_ireturn (mx_d tX12_between_0 5 rfl) rfl ⟨rfl, rfl⟩
def FX12_areLinked (a : Nat) (x0 : Int32) (x1 : Int32) (m : mB) : Option Int32 := Option.bind (FX12_between a x0 x1 m) (fun r1 => (if r1 = (-1) then (some 0) else (some 1)))
set_option maxRecDepth 20000 in
theorem CX12_areLinked {G : mG} {l : Launch} {e : mE} {a : Nat} {x0 : Int32} {x1 : Int32} {m : mB} {r : Int32} (h0 : ly12 e a) (h : FX12_areLinked a x0 x1 m = some r) : mx_Call G l MX12_areLinked 3 0 0 [.ref a, .int x0, .int x1] (e, m) (fun v z => v = some (.int r) ∧ z = (e, m)) := by
  refine mx_entry (L := [.ref a, .int x0, .int x1]) (by decide +kernel) (Nat.le_of_ble_eq_true rfl) rfl ?_
  unfold FX12_areLinked at h
  refine mx_aload_n (mx_d tX12_areLinked_0 0 rfl) rfl rfl ?_
  refine mx_iload_n (mx_d tX12_areLinked_0 1 rfl) rfl rfl ?_
  refine mx_iload_n (mx_d tX12_areLinked_0 2 rfl) rfl rfl ?_
  obtain ⟨r1, h_r1, h⟩ := Option.bind_eq_some_iff.mp h
  refine mx_cVi (mx_d tX12_areLinked_0 3 rfl) iX12_250 rfl vX12_between ⟨_, rfl, rfl⟩ (ly12_o h0) (CX12_between h0 h_r1) (by decide) rfl rfl (Nat.le_of_ble_eq_true rfl) ?_
  refine mx_iconst ((-1)) (mx_d tX12_areLinked_0 4 rfl) (by decide) ?_
  refine mx_icmp_eq (tgt := 14) (mx_d tX12_areLinked_0 5 rfl) (by decide) (fun hc2 => ?_) (fun hc2 => ?_)
  · rw [if_pos hc2] at h
    refine mx_iconst (0) (mx_d tX12_areLinked_0 8 rfl) (by decide) ?_
    obtain rfl := Option.some.inj h
    exact mx_zreturn (mx_d tX12_areLinked_0 9 rfl) rfl rfl ⟨rfl, rfl⟩
  · rw [if_neg hc2] at h
    refine mx_iconst (1) (mx_d tX12_areLinked_0 6 rfl) (by decide) ?_
    refine mx_goto (tgt := 15) (mx_d tX12_areLinked_0 7 rfl) (by decide) ?_
    obtain rfl := Option.some.inj h
    exact mx_zreturn (mx_d tX12_areLinked_0 9 rfl) rfl rfl ⟨rfl, rfl⟩
def FX12_isLone (a : Nat) (x0 : Int32) (m : mB) : Option Int32 := mx_chk (mx_inb (158 + x0) 432) ((if (m.1 (a + 2) (Int32.toNatClampNeg (158 + x0))) = (-1) then (some 1) else (some 0)))
set_option maxRecDepth 20000 in
theorem CX12_isLone {G : mG} {l : Launch} {e : mE} {a : Nat} {x0 : Int32} {m : mB} {r : Int32} (h0 : ly12 e a) (h : FX12_isLone a x0 m = some r) : mx_Call G l MX12_isLone 1 0 0 [.ref a, .int x0] (e, m) (fun v z => v = some (.int r) ∧ z = (e, m)) := by
  refine mx_entry (L := [.ref a, .int x0]) (by decide +kernel) (Nat.le_of_ble_eq_true rfl) rfl ?_
  unfold FX12_isLone at h
  refine mx_aload_n (mx_d tX12_isLone_0 0 rfl) rfl rfl ?_
  refine mx_getR (mx_d tX12_isLone_0 1 rfl) fX12_98 rfl rfl (ly12_o h0) (ly12_r14 h0) ?_
  refine mx_sipush (158) (mx_d tX12_isLone_0 2 rfl) (by decide) ?_
  refine mx_iload_n (mx_d tX12_isLone_0 3 rfl) rfl rfl ?_
  refine mx_iadd (mx_d tX12_isLone_0 4 rfl) ?_
  obtain ⟨hi1, h⟩ := mx_chkE h
  refine mx_iaload (mx_d tX12_isLone_0 5 rfl) (ly12_s14 h0) (mx_inbE hi1) ?_
  refine mx_iconst ((-1)) (mx_d tX12_isLone_0 6 rfl) (by decide) ?_
  refine mx_icmp_ne (tgt := 18) (mx_d tX12_isLone_0 7 rfl) (by decide) (fun hc2 => ?_) (fun hc2 => ?_)
  · rw [if_neg hc2] at h
    refine mx_iconst (0) (mx_d tX12_isLone_0 10 rfl) (by decide) ?_
    obtain rfl := Option.some.inj h
    exact mx_zreturn (mx_d tX12_isLone_0 11 rfl) rfl rfl ⟨rfl, rfl⟩
  · rw [if_pos hc2] at h
    refine mx_iconst (1) (mx_d tX12_isLone_0 8 rfl) (by decide) ?_
    refine mx_goto (tgt := 19) (mx_d tX12_isLone_0 9 rfl) (by decide) ?_
    obtain rfl := Option.some.inj h
    exact mx_zreturn (mx_d tX12_isLone_0 11 rfl) rfl rfl ⟨rfl, rfl⟩
def FX12_arePaired (a : Nat) (x0 : Int32) (x1 : Int32) (m : mB) : Option Int32 := mx_chk (mx_inb (158 + x0) 432) ((if (m.1 (a + 2) (Int32.toNatClampNeg (158 + x0))) = x1 then (some 1) else (some 0)))
set_option maxRecDepth 20000 in
theorem CX12_arePaired {G : mG} {l : Launch} {e : mE} {a : Nat} {x0 : Int32} {x1 : Int32} {m : mB} {r : Int32} (h0 : ly12 e a) (h : FX12_arePaired a x0 x1 m = some r) : mx_Call G l MX12_arePaired 1 0 0 [.ref a, .int x0, .int x1] (e, m) (fun v z => v = some (.int r) ∧ z = (e, m)) := by
  refine mx_entry (L := [.ref a, .int x0, .int x1]) (by decide +kernel) (Nat.le_of_ble_eq_true rfl) rfl ?_
  unfold FX12_arePaired at h
  refine mx_aload_n (mx_d tX12_arePaired_0 0 rfl) rfl rfl ?_
  refine mx_getR (mx_d tX12_arePaired_0 1 rfl) fX12_98 rfl rfl (ly12_o h0) (ly12_r14 h0) ?_
  refine mx_sipush (158) (mx_d tX12_arePaired_0 2 rfl) (by decide) ?_
  refine mx_iload_n (mx_d tX12_arePaired_0 3 rfl) rfl rfl ?_
  refine mx_iadd (mx_d tX12_arePaired_0 4 rfl) ?_
  obtain ⟨hi1, h⟩ := mx_chkE h
  refine mx_iaload (mx_d tX12_arePaired_0 5 rfl) (ly12_s14 h0) (mx_inbE hi1) ?_
  refine mx_iload_n (mx_d tX12_arePaired_0 6 rfl) rfl rfl ?_
  refine mx_icmp_ne (tgt := 18) (mx_d tX12_arePaired_0 7 rfl) (by decide) (fun hc2 => ?_) (fun hc2 => ?_)
  · rw [if_neg hc2] at h
    refine mx_iconst (0) (mx_d tX12_arePaired_0 10 rfl) (by decide) ?_
    obtain rfl := Option.some.inj h
    exact mx_zreturn (mx_d tX12_arePaired_0 11 rfl) rfl rfl ⟨rfl, rfl⟩
  · rw [if_pos hc2] at h
    refine mx_iconst (1) (mx_d tX12_arePaired_0 8 rfl) (by decide) ?_
    refine mx_goto (tgt := 19) (mx_d tX12_arePaired_0 9 rfl) (by decide) ?_
    obtain rfl := Option.some.inj h
    exact mx_zreturn (mx_d tX12_arePaired_0 11 rfl) rfl rfl ⟨rfl, rfl⟩
def FX12_isOfPair (a : Nat) (x0 : Int32) (m : mB) : Option Int32 := mx_chk (mx_inb (3 + x0) 432) (mx_chk (mx_inb (33 + x0) 432) (Option.bind (FX12_arePaired a (m.1 (a + 2) (Int32.toNatClampNeg (3 + x0))) (m.1 (a + 2) (Int32.toNatClampNeg (33 + x0))) m) (fun r3 => mx_chk (mx_b01 r3) ((some r3)))))
set_option maxRecDepth 20000 in
theorem CX12_isOfPair {G : mG} {l : Launch} {e : mE} {a : Nat} {x0 : Int32} {m : mB} {r : Int32} (h0 : ly12 e a) (h : FX12_isOfPair a x0 m = some r) : mx_Call G l MX12_isOfPair 2 0 0 [.ref a, .int x0] (e, m) (fun v z => v = some (.int r) ∧ z = (e, m)) := by
  refine mx_entry (L := [.ref a, .int x0]) (by decide +kernel) (Nat.le_of_ble_eq_true rfl) rfl ?_
  unfold FX12_isOfPair at h
  refine mx_aload_n (mx_d tX12_isOfPair_0 0 rfl) rfl rfl ?_
  refine mx_aload_n (mx_d tX12_isOfPair_0 1 rfl) rfl rfl ?_
  refine mx_getR (mx_d tX12_isOfPair_0 2 rfl) fX12_98 rfl rfl (ly12_o h0) (ly12_r14 h0) ?_
  refine mx_iconst (3) (mx_d tX12_isOfPair_0 3 rfl) (by decide) ?_
  refine mx_iload_n (mx_d tX12_isOfPair_0 4 rfl) rfl rfl ?_
  refine mx_iadd (mx_d tX12_isOfPair_0 5 rfl) ?_
  obtain ⟨hi1, h⟩ := mx_chkE h
  refine mx_iaload (mx_d tX12_isOfPair_0 6 rfl) (ly12_s14 h0) (mx_inbE hi1) ?_
  refine mx_aload_n (mx_d tX12_isOfPair_0 7 rfl) rfl rfl ?_
  refine mx_getR (mx_d tX12_isOfPair_0 8 rfl) fX12_98 rfl rfl (ly12_o h0) (ly12_r14 h0) ?_
  refine mx_bipush (33) (mx_d tX12_isOfPair_0 9 rfl) (by decide) ?_
  refine mx_iload_n (mx_d tX12_isOfPair_0 10 rfl) rfl rfl ?_
  refine mx_iadd (mx_d tX12_isOfPair_0 11 rfl) ?_
  obtain ⟨hi2, h⟩ := mx_chkE h
  refine mx_iaload (mx_d tX12_isOfPair_0 12 rfl) (ly12_s14 h0) (mx_inbE hi2) ?_
  obtain ⟨r3, h_r3, h⟩ := Option.bind_eq_some_iff.mp h
  refine mx_cVi (mx_d tX12_isOfPair_0 13 rfl) iX12_254 rfl vX12_arePaired ⟨_, rfl, rfl⟩ (ly12_o h0) (CX12_arePaired h0 h_r3) (by decide) rfl rfl (Nat.le_of_ble_eq_true rfl) ?_
  obtain ⟨hb4, h⟩ := mx_chkE h
  obtain rfl := Option.some.inj h
  exact mx_zreturn (mx_d tX12_isOfPair_0 14 rfl) rfl (mx_nb (mx_b01E hb4)) ⟨rfl, rfl⟩
def FX12_isAt (a : Nat) (x0 : Int32) (x1 : Int32) (m : mB) : Option Int32 := mx_chk (mx_inb (3 + x0) 432) ((if (m.1 (a + 2) (Int32.toNatClampNeg (3 + x0))) = x1 then (some 1) else mx_chk (mx_inb (33 + x0) 432) ((if (m.1 (a + 2) (Int32.toNatClampNeg (33 + x0))) = x1 then (some 1) else (some 0)))))
set_option maxRecDepth 20000 in
theorem CX12_isAt {G : mG} {l : Launch} {e : mE} {a : Nat} {x0 : Int32} {x1 : Int32} {m : mB} {r : Int32} (h0 : ly12 e a) (h : FX12_isAt a x0 x1 m = some r) : mx_Call G l MX12_isAt 1 0 0 [.ref a, .int x0, .int x1] (e, m) (fun v z => v = some (.int r) ∧ z = (e, m)) := by
  refine mx_entry (L := [.ref a, .int x0, .int x1]) (by decide +kernel) (Nat.le_of_ble_eq_true rfl) rfl ?_
  unfold FX12_isAt at h
  refine mx_aload_n (mx_d tX12_isAt_0 0 rfl) rfl rfl ?_
  refine mx_getR (mx_d tX12_isAt_0 1 rfl) fX12_98 rfl rfl (ly12_o h0) (ly12_r14 h0) ?_
  refine mx_iconst (3) (mx_d tX12_isAt_0 2 rfl) (by decide) ?_
  refine mx_iload_n (mx_d tX12_isAt_0 3 rfl) rfl rfl ?_
  refine mx_iadd (mx_d tX12_isAt_0 4 rfl) ?_
  obtain ⟨hi1, h⟩ := mx_chkE h
  refine mx_iaload (mx_d tX12_isAt_0 5 rfl) (ly12_s14 h0) (mx_inbE hi1) ?_
  refine mx_iload_n (mx_d tX12_isAt_0 6 rfl) rfl rfl ?_
  refine mx_icmp_eq (tgt := 25) (mx_d tX12_isAt_0 7 rfl) (by decide) (fun hc2 => ?_) (fun hc2 => ?_)
  · rw [if_pos hc2] at h
    refine mx_iconst (1) (mx_d tX12_isAt_0 16 rfl) (by decide) ?_
    refine mx_goto (tgt := 30) (mx_d tX12_isAt_0 17 rfl) (by decide) ?_
    obtain rfl := Option.some.inj h
    exact mx_zreturn (mx_d tX12_isAt_0 19 rfl) rfl rfl ⟨rfl, rfl⟩
  · rw [if_neg hc2] at h
    refine mx_aload_n (mx_d tX12_isAt_0 8 rfl) rfl rfl ?_
    refine mx_getR (mx_d tX12_isAt_0 9 rfl) fX12_98 rfl rfl (ly12_o h0) (ly12_r14 h0) ?_
    refine mx_bipush (33) (mx_d tX12_isAt_0 10 rfl) (by decide) ?_
    refine mx_iload_n (mx_d tX12_isAt_0 11 rfl) rfl rfl ?_
    refine mx_iadd (mx_d tX12_isAt_0 12 rfl) ?_
    obtain ⟨hi3, h⟩ := mx_chkE h
    refine mx_iaload (mx_d tX12_isAt_0 13 rfl) (ly12_s14 h0) (mx_inbE hi3) ?_
    refine mx_iload_n (mx_d tX12_isAt_0 14 rfl) rfl rfl ?_
    refine mx_icmp_ne (tgt := 29) (mx_d tX12_isAt_0 15 rfl) (by decide) (fun hc4 => ?_) (fun hc4 => ?_)
    · rw [if_neg hc4] at h
      refine mx_iconst (0) (mx_d tX12_isAt_0 18 rfl) (by decide) ?_
      obtain rfl := Option.some.inj h
      exact mx_zreturn (mx_d tX12_isAt_0 19 rfl) rfl rfl ⟨rfl, rfl⟩
    · rw [if_pos hc4] at h
      refine mx_iconst (1) (mx_d tX12_isAt_0 16 rfl) (by decide) ?_
      refine mx_goto (tgt := 30) (mx_d tX12_isAt_0 17 rfl) (by decide) ?_
      obtain rfl := Option.some.inj h
      exact mx_zreturn (mx_d tX12_isAt_0 19 rfl) rfl rfl ⟨rfl, rfl⟩
def FX12_slackOf_L58 (q0 : Nat) (y2 : Int32) (y3 : Int32) (m : mB) : Nat → Int32 → Int32 → Option (Int32)
  | 0, _, _ => none
  | f + 1, y4, y5 => (if (m.1 (q0 + 2) 125) ≤ y5 then (some (y4)) else mx_chk (mx_inb (178 + y5) 432) (Option.bind (FX12_has (m.1 (q0 + 2) (Int32.toNatClampNeg (178 + y5))) y2 m) (fun r11 => (if r11 = 0 then mx_let (y5 + 1) (fun v13 => (FX12_slackOf_L58 q0 y2 y3 m f y4 v13)) else Option.bind (FX12_has (m.1 (q0 + 2) (Int32.toNatClampNeg (178 + y5))) y3 m) (fun r14 => (if r14 = 0 then mx_let (y5 + 1) (fun v16 => (FX12_slackOf_L58 q0 y2 y3 m f y4 v16)) else mx_chk (mx_inb (184 + y5) 432) (mx_let (y4 + (m.1 (q0 + 2) (Int32.toNatClampNeg (184 + y5)))) (fun v18 => mx_let (y5 + 1) (fun v19 => (FX12_slackOf_L58 q0 y2 y3 m f v18 v19))))))))))
set_option maxRecDepth 20000 in
theorem CX12_slackOf_L58 {G : mG} {l : Launch} {e : mE} {Post : Option Value → mS → Prop} {q0 : Nat} {y2 : Int32} {y3 : Int32} {m : mB} (g0 : ly12 e q0) : ∀ (f : Nat) {y4 : Int32} {y5 : Int32} {q : (Int32)}, FX12_slackOf_L58 q0 y2 y3 m f y4 y5 = some q → (mx_Fr G l MX12_slackOf 2 0 0 Post 128 [.float 0, .float 0, .float 0, .float 0, .int q, .float 0] [] (e, m)) → mx_Fr G l MX12_slackOf 2 0 0 Post 58 [.ref q0, .float 0, .int y2, .int y3, .int y4, .int y5] [] (e, m) := by
  intro f
  induction f with
  | zero => intro _ _ _ h; cases h
  | succ f ih =>
    intro y4 y5 q h hex
    rw [FX12_slackOf_L58] at h
    refine mx_iload (mx_d tX12_slackOf_0 39 rfl) rfl ?_
    refine mx_aload_n (mx_d tX12_slackOf_0 40 rfl) rfl rfl ?_
    refine mx_getR (mx_d tX12_slackOf_0 41 rfl) fX12_98 rfl rfl (ly12_o g0) (ly12_r14 g0) ?_
    refine mx_bipush (125) (mx_d tX12_slackOf_0 42 rfl) (by decide) ?_
    refine mx_ialoadC 125 (mx_d tX12_slackOf_0 43 rfl) (ly12_s14 g0) (by decide) (mx_inbE (by decide)) ?_
    refine mx_icmp_ge (tgt := 128) (mx_d tX12_slackOf_0 44 rfl) (by decide) (fun hc9 => ?_) (fun hc9 => ?_)
    · rw [if_pos hc9] at h
      obtain rfl := Option.some.inj h
      refine mx_forget (L' := [.float 0, .float 0, .float 0, .float 0, .int y4, .float 0]) ⟨rfl, trivial⟩ ?_
      exact hex
    · rw [if_neg hc9] at h
      refine mx_aload_n (mx_d tX12_slackOf_0 45 rfl) rfl rfl ?_
      refine mx_getR (mx_d tX12_slackOf_0 46 rfl) fX12_98 rfl rfl (ly12_o g0) (ly12_r14 g0) ?_
      refine mx_sipush (178) (mx_d tX12_slackOf_0 47 rfl) (by decide) ?_
      refine mx_iload (mx_d tX12_slackOf_0 48 rfl) rfl ?_
      refine mx_iadd (mx_d tX12_slackOf_0 49 rfl) ?_
      obtain ⟨hi10, h⟩ := mx_chkE h
      refine mx_iaload (mx_d tX12_slackOf_0 50 rfl) (ly12_s14 g0) (mx_inbE hi10) ?_
      refine mx_iload_n (mx_d tX12_slackOf_0 51 rfl) rfl rfl ?_
      obtain ⟨r11, h_r11, h⟩ := Option.bind_eq_some_iff.mp h
      refine mx_cSi (mx_d tX12_slackOf_0 52 rfl) iX12_210 rfl sX12_has (CX12_has  h_r11) (by decide) rfl rfl (Nat.le_of_ble_eq_true rfl) ?_
      refine mx_if_eq (tgt := 122) (mx_d tX12_slackOf_0 53 rfl) (by decide) (fun hc12 => ?_) (fun hc12 => ?_)
      · rw [if_pos hc12] at h
        obtain ⟨v13, e_v13, h⟩ := mx_letE h
        refine mx_iinc v13 (L2 := [.ref q0, .float 0, .int y2, .int y3, .int y4, .int v13]) (mx_d tX12_slackOf_1 12 rfl) rfl (by rw [e_v13]; rfl) (by decide) rfl ?_
        refine mx_goto (tgt := 58) (mx_d tX12_slackOf_1 13 rfl) (by decide) ?_
        exact ih h hex
      · rw [if_neg hc12] at h
        refine mx_aload_n (mx_d tX12_slackOf_0 54 rfl) rfl rfl ?_
        refine mx_getR (mx_d tX12_slackOf_0 55 rfl) fX12_98 rfl rfl (ly12_o g0) (ly12_r14 g0) ?_
        refine mx_sipush (178) (mx_d tX12_slackOf_0 56 rfl) (by decide) ?_
        refine mx_iload (mx_d tX12_slackOf_0 57 rfl) rfl ?_
        refine mx_iadd (mx_d tX12_slackOf_0 58 rfl) ?_
        refine mx_iaload (mx_d tX12_slackOf_0 59 rfl) (ly12_s14 g0) (mx_inbE hi10) ?_
        refine mx_iload_n (mx_d tX12_slackOf_1 0 rfl) rfl rfl ?_
        obtain ⟨r14, h_r14, h⟩ := Option.bind_eq_some_iff.mp h
        refine mx_cSi (mx_d tX12_slackOf_1 1 rfl) iX12_210 rfl sX12_has (CX12_has  h_r14) (by decide) rfl rfl (Nat.le_of_ble_eq_true rfl) ?_
        refine mx_if_eq (tgt := 122) (mx_d tX12_slackOf_1 2 rfl) (by decide) (fun hc15 => ?_) (fun hc15 => ?_)
        · rw [if_pos hc15] at h
          obtain ⟨v16, e_v16, h⟩ := mx_letE h
          refine mx_iinc v16 (L2 := [.ref q0, .float 0, .int y2, .int y3, .int y4, .int v16]) (mx_d tX12_slackOf_1 12 rfl) rfl (by rw [e_v16]; rfl) (by decide) rfl ?_
          refine mx_goto (tgt := 58) (mx_d tX12_slackOf_1 13 rfl) (by decide) ?_
          exact ih h hex
        · rw [if_neg hc15] at h
          refine mx_iload (mx_d tX12_slackOf_1 3 rfl) rfl ?_
          refine mx_aload_n (mx_d tX12_slackOf_1 4 rfl) rfl rfl ?_
          refine mx_getR (mx_d tX12_slackOf_1 5 rfl) fX12_98 rfl rfl (ly12_o g0) (ly12_r14 g0) ?_
          refine mx_sipush (184) (mx_d tX12_slackOf_1 6 rfl) (by decide) ?_
          refine mx_iload (mx_d tX12_slackOf_1 7 rfl) rfl ?_
          refine mx_iadd (mx_d tX12_slackOf_1 8 rfl) ?_
          obtain ⟨hi17, h⟩ := mx_chkE h
          refine mx_iaload (mx_d tX12_slackOf_1 9 rfl) (ly12_s14 g0) (mx_inbE hi17) ?_
          refine mx_iadd (mx_d tX12_slackOf_1 10 rfl) ?_
          obtain ⟨v18, e_v18, h⟩ := mx_letE h
          refine mx_istore (L2 := [.ref q0, .float 0, .int y2, .int y3, .int v18, .int y5]) (mx_d tX12_slackOf_1 11 rfl) (by decide) (by rw [e_v18]; rfl) ?_
          obtain ⟨v19, e_v19, h⟩ := mx_letE h
          refine mx_iinc v19 (L2 := [.ref q0, .float 0, .int y2, .int y3, .int v18, .int v19]) (mx_d tX12_slackOf_1 12 rfl) rfl (by rw [e_v19]; rfl) (by decide) rfl ?_
          refine mx_goto (tgt := 58) (mx_d tX12_slackOf_1 13 rfl) (by decide) ?_
          exact ih h hex
def FX12_slackOf (a : Nat) (x0 : Int32) (m : mB) : Option Int32 := mx_chk (mx_inb (3 + x0) 432) (mx_let (m.1 (a + 2) (Int32.toNatClampNeg (3 + x0))) (fun v2 => mx_chk (mx_inb (33 + x0) 432) (mx_let (m.1 (a + 2) (Int32.toNatClampNeg (33 + x0))) (fun v4 => mx_chk (mx_inb (168 + v2) 432) (mx_chk (mx_inb (168 + v4) 432) (mx_chk (mx_inb (128 + x0) 432) (mx_let (((m.1 (a + 2) (Int32.toNatClampNeg (168 + v2))) + (m.1 (a + 2) (Int32.toNatClampNeg (168 + v4)))) - (2 * (m.1 (a + 2) (Int32.toNatClampNeg (128 + x0))))) (fun v8 => Option.bind (FX12_slackOf_L58 a v2 v4 m mx_FU v8 0) (fun q20 => (some q20))))))))))
set_option maxRecDepth 20000 in
theorem CX12_slackOf {G : mG} {l : Launch} {e : mE} {a : Nat} {x0 : Int32} {m : mB} {r : Int32} (h0 : ly12 e a) (h : FX12_slackOf a x0 m = some r) : mx_Call G l MX12_slackOf 2 0 0 [.ref a, .int x0] (e, m) (fun v z => v = some (.int r) ∧ z = (e, m)) := by
  refine mx_entry (L := [.ref a, .int x0, .float 0, .float 0, .float 0, .float 0]) (by decide +kernel) (Nat.le_of_ble_eq_true rfl) rfl ?_
  unfold FX12_slackOf at h
  refine mx_aload_n (mx_d tX12_slackOf_0 0 rfl) rfl rfl ?_
  refine mx_getR (mx_d tX12_slackOf_0 1 rfl) fX12_98 rfl rfl (ly12_o h0) (ly12_r14 h0) ?_
  refine mx_iconst (3) (mx_d tX12_slackOf_0 2 rfl) (by decide) ?_
  refine mx_iload_n (mx_d tX12_slackOf_0 3 rfl) rfl rfl ?_
  refine mx_iadd (mx_d tX12_slackOf_0 4 rfl) ?_
  obtain ⟨hi1, h⟩ := mx_chkE h
  refine mx_iaload (mx_d tX12_slackOf_0 5 rfl) (ly12_s14 h0) (mx_inbE hi1) ?_
  obtain ⟨v2, e_v2, h⟩ := mx_letE h
  refine mx_istore_n (L2 := [.ref a, .int x0, .int v2, .float 0, .float 0, .float 0]) (mx_d tX12_slackOf_0 6 rfl) rfl (by decide) (by rw [e_v2]; rfl) ?_
  refine mx_aload_n (mx_d tX12_slackOf_0 7 rfl) rfl rfl ?_
  refine mx_getR (mx_d tX12_slackOf_0 8 rfl) fX12_98 rfl rfl (ly12_o h0) (ly12_r14 h0) ?_
  refine mx_bipush (33) (mx_d tX12_slackOf_0 9 rfl) (by decide) ?_
  refine mx_iload_n (mx_d tX12_slackOf_0 10 rfl) rfl rfl ?_
  refine mx_iadd (mx_d tX12_slackOf_0 11 rfl) ?_
  obtain ⟨hi3, h⟩ := mx_chkE h
  refine mx_iaload (mx_d tX12_slackOf_0 12 rfl) (ly12_s14 h0) (mx_inbE hi3) ?_
  obtain ⟨v4, e_v4, h⟩ := mx_letE h
  refine mx_istore_n (L2 := [.ref a, .int x0, .int v2, .int v4, .float 0, .float 0]) (mx_d tX12_slackOf_0 13 rfl) rfl (by decide) (by rw [e_v4]; rfl) ?_
  refine mx_aload_n (mx_d tX12_slackOf_0 14 rfl) rfl rfl ?_
  refine mx_getR (mx_d tX12_slackOf_0 15 rfl) fX12_98 rfl rfl (ly12_o h0) (ly12_r14 h0) ?_
  refine mx_sipush (168) (mx_d tX12_slackOf_0 16 rfl) (by decide) ?_
  refine mx_iload_n (mx_d tX12_slackOf_0 17 rfl) rfl rfl ?_
  refine mx_iadd (mx_d tX12_slackOf_0 18 rfl) ?_
  obtain ⟨hi5, h⟩ := mx_chkE h
  refine mx_iaload (mx_d tX12_slackOf_0 19 rfl) (ly12_s14 h0) (mx_inbE hi5) ?_
  refine mx_aload_n (mx_d tX12_slackOf_0 20 rfl) rfl rfl ?_
  refine mx_getR (mx_d tX12_slackOf_0 21 rfl) fX12_98 rfl rfl (ly12_o h0) (ly12_r14 h0) ?_
  refine mx_sipush (168) (mx_d tX12_slackOf_0 22 rfl) (by decide) ?_
  refine mx_iload_n (mx_d tX12_slackOf_0 23 rfl) rfl rfl ?_
  refine mx_iadd (mx_d tX12_slackOf_0 24 rfl) ?_
  obtain ⟨hi6, h⟩ := mx_chkE h
  refine mx_iaload (mx_d tX12_slackOf_0 25 rfl) (ly12_s14 h0) (mx_inbE hi6) ?_
  refine mx_iadd (mx_d tX12_slackOf_0 26 rfl) ?_
  refine mx_iconst (2) (mx_d tX12_slackOf_0 27 rfl) (by decide) ?_
  refine mx_aload_n (mx_d tX12_slackOf_0 28 rfl) rfl rfl ?_
  refine mx_getR (mx_d tX12_slackOf_0 29 rfl) fX12_98 rfl rfl (ly12_o h0) (ly12_r14 h0) ?_
  refine mx_sipush (128) (mx_d tX12_slackOf_0 30 rfl) (by decide) ?_
  refine mx_iload_n (mx_d tX12_slackOf_0 31 rfl) rfl rfl ?_
  refine mx_iadd (mx_d tX12_slackOf_0 32 rfl) ?_
  obtain ⟨hi7, h⟩ := mx_chkE h
  refine mx_iaload (mx_d tX12_slackOf_0 33 rfl) (ly12_s14 h0) (mx_inbE hi7) ?_
  refine mx_imul (mx_d tX12_slackOf_0 34 rfl) ?_
  refine mx_isub (mx_d tX12_slackOf_0 35 rfl) ?_
  obtain ⟨v8, e_v8, h⟩ := mx_letE h
  refine mx_istore (L2 := [.ref a, .int x0, .int v2, .int v4, .int v8, .float 0]) (mx_d tX12_slackOf_0 36 rfl) (by decide) (by rw [e_v8]; rfl) ?_
  refine mx_iconst (0) (mx_d tX12_slackOf_0 37 rfl) (by decide) ?_
  refine mx_istore (L2 := [.ref a, .int x0, .int v2, .int v4, .int v8, .int 0]) (mx_d tX12_slackOf_0 38 rfl) (by decide) (by rfl) ?_
  obtain ⟨q20, h_q20, h⟩ := Option.bind_eq_some_iff.mp h
  refine mx_forget (L' := [.ref a, .float 0, .int v2, .int v4, .int v8, .int 0]) ⟨rfl, rfl, rfl, rfl, rfl, trivial⟩ ?_
  refine CX12_slackOf_L58 h0 mx_FU h_q20 ?_
  refine mx_iload (mx_d tX12_slackOf_1 14 rfl) rfl ?_
  obtain rfl := Option.some.inj h
  exact mx_ireturn (mx_d tX12_slackOf_1 15 rfl) rfl ⟨rfl, rfl⟩
def FX12_pairsIn_L4 (q0 : Nat) (y1 : Int32) (m : mB) : Nat → Int32 → Int32 → Option (Int32)
  | 0, _, _ => none
  | f + 1, y2, y3 => (if (m.1 (q0 + 2) 0) ≤ y3 then (some (y2)) else Option.bind (FX12_has y1 y3 m) (fun r2 => (if r2 = 0 then mx_let (y3 + 1) (fun v4 => (FX12_pairsIn_L4 q0 y1 m f y2 v4)) else mx_chk (mx_inb (158 + y3) 432) ((if (m.1 (q0 + 2) (Int32.toNatClampNeg (158 + y3))) ≤ y3 then mx_let (y3 + 1) (fun v7 => (FX12_pairsIn_L4 q0 y1 m f y2 v7)) else Option.bind (FX12_has y1 (m.1 (q0 + 2) (Int32.toNatClampNeg (158 + y3))) m) (fun r8 => (if r8 = 0 then mx_let (y3 + 1) (fun v10 => (FX12_pairsIn_L4 q0 y1 m f y2 v10)) else mx_let (y2 + 1) (fun v11 => mx_let (y3 + 1) (fun v12 => (FX12_pairsIn_L4 q0 y1 m f v11 v12))))))))))
set_option maxRecDepth 20000 in
theorem CX12_pairsIn_L4 {G : mG} {l : Launch} {e : mE} {Post : Option Value → mS → Prop} {q0 : Nat} {y1 : Int32} {m : mB} (g0 : ly12 e q0) : ∀ (f : Nat) {y2 : Int32} {y3 : Int32} {q : (Int32)}, FX12_pairsIn_L4 q0 y1 m f y2 y3 = some q → (mx_Fr G l MX12_pairsIn 2 0 0 Post 62 [.float 0, .float 0, .int q, .float 0] [] (e, m)) → mx_Fr G l MX12_pairsIn 2 0 0 Post 4 [.ref q0, .int y1, .int y2, .int y3] [] (e, m) := by
  intro f
  induction f with
  | zero => intro _ _ _ h; cases h
  | succ f ih =>
    intro y2 y3 q h hex
    rw [FX12_pairsIn_L4] at h
    refine mx_iload_n (mx_d tX12_pairsIn_0 4 rfl) rfl rfl ?_
    refine mx_aload_n (mx_d tX12_pairsIn_0 5 rfl) rfl rfl ?_
    refine mx_getR (mx_d tX12_pairsIn_0 6 rfl) fX12_98 rfl rfl (ly12_o g0) (ly12_r14 g0) ?_
    refine mx_iconst (0) (mx_d tX12_pairsIn_0 7 rfl) (by decide) ?_
    refine mx_ialoadC 0 (mx_d tX12_pairsIn_0 8 rfl) (ly12_s14 g0) (by decide) (mx_inbE (by decide)) ?_
    refine mx_icmp_ge (tgt := 62) (mx_d tX12_pairsIn_0 9 rfl) (by decide) (fun hc1 => ?_) (fun hc1 => ?_)
    · rw [if_pos hc1] at h
      obtain rfl := Option.some.inj h
      refine mx_forget (L' := [.float 0, .float 0, .int y2, .float 0]) ⟨rfl, trivial⟩ ?_
      exact hex
    · rw [if_neg hc1] at h
      refine mx_iload_n (mx_d tX12_pairsIn_0 10 rfl) rfl rfl ?_
      refine mx_iload_n (mx_d tX12_pairsIn_0 11 rfl) rfl rfl ?_
      obtain ⟨r2, h_r2, h⟩ := Option.bind_eq_some_iff.mp h
      refine mx_cSi (mx_d tX12_pairsIn_0 12 rfl) iX12_210 rfl sX12_has (CX12_has  h_r2) (by decide) rfl rfl (Nat.le_of_ble_eq_true rfl) ?_
      refine mx_if_eq (tgt := 56) (mx_d tX12_pairsIn_0 13 rfl) (by decide) (fun hc3 => ?_) (fun hc3 => ?_)
      · rw [if_pos hc3] at h
        obtain ⟨v4, e_v4, h⟩ := mx_letE h
        refine mx_iinc v4 (L2 := [.ref q0, .int y1, .int y2, .int v4]) (mx_d tX12_pairsIn_0 32 rfl) rfl (by rw [e_v4]; rfl) (by decide) rfl ?_
        refine mx_goto (tgt := 4) (mx_d tX12_pairsIn_0 33 rfl) (by decide) ?_
        exact ih h hex
      · rw [if_neg hc3] at h
        refine mx_aload_n (mx_d tX12_pairsIn_0 14 rfl) rfl rfl ?_
        refine mx_getR (mx_d tX12_pairsIn_0 15 rfl) fX12_98 rfl rfl (ly12_o g0) (ly12_r14 g0) ?_
        refine mx_sipush (158) (mx_d tX12_pairsIn_0 16 rfl) (by decide) ?_
        refine mx_iload_n (mx_d tX12_pairsIn_0 17 rfl) rfl rfl ?_
        refine mx_iadd (mx_d tX12_pairsIn_0 18 rfl) ?_
        obtain ⟨hi5, h⟩ := mx_chkE h
        refine mx_iaload (mx_d tX12_pairsIn_0 19 rfl) (ly12_s14 g0) (mx_inbE hi5) ?_
        refine mx_iload_n (mx_d tX12_pairsIn_0 20 rfl) rfl rfl ?_
        refine mx_icmp_le (tgt := 56) (mx_d tX12_pairsIn_0 21 rfl) (by decide) (fun hc6 => ?_) (fun hc6 => ?_)
        · rw [if_pos hc6] at h
          obtain ⟨v7, e_v7, h⟩ := mx_letE h
          refine mx_iinc v7 (L2 := [.ref q0, .int y1, .int y2, .int v7]) (mx_d tX12_pairsIn_0 32 rfl) rfl (by rw [e_v7]; rfl) (by decide) rfl ?_
          refine mx_goto (tgt := 4) (mx_d tX12_pairsIn_0 33 rfl) (by decide) ?_
          exact ih h hex
        · rw [if_neg hc6] at h
          refine mx_iload_n (mx_d tX12_pairsIn_0 22 rfl) rfl rfl ?_
          refine mx_aload_n (mx_d tX12_pairsIn_0 23 rfl) rfl rfl ?_
          refine mx_getR (mx_d tX12_pairsIn_0 24 rfl) fX12_98 rfl rfl (ly12_o g0) (ly12_r14 g0) ?_
          refine mx_sipush (158) (mx_d tX12_pairsIn_0 25 rfl) (by decide) ?_
          refine mx_iload_n (mx_d tX12_pairsIn_0 26 rfl) rfl rfl ?_
          refine mx_iadd (mx_d tX12_pairsIn_0 27 rfl) ?_
          refine mx_iaload (mx_d tX12_pairsIn_0 28 rfl) (ly12_s14 g0) (mx_inbE hi5) ?_
          obtain ⟨r8, h_r8, h⟩ := Option.bind_eq_some_iff.mp h
          refine mx_cSi (mx_d tX12_pairsIn_0 29 rfl) iX12_210 rfl sX12_has (CX12_has  h_r8) (by decide) rfl rfl (Nat.le_of_ble_eq_true rfl) ?_
          refine mx_if_eq (tgt := 56) (mx_d tX12_pairsIn_0 30 rfl) (by decide) (fun hc9 => ?_) (fun hc9 => ?_)
          · rw [if_pos hc9] at h
            obtain ⟨v10, e_v10, h⟩ := mx_letE h
            refine mx_iinc v10 (L2 := [.ref q0, .int y1, .int y2, .int v10]) (mx_d tX12_pairsIn_0 32 rfl) rfl (by rw [e_v10]; rfl) (by decide) rfl ?_
            refine mx_goto (tgt := 4) (mx_d tX12_pairsIn_0 33 rfl) (by decide) ?_
            exact ih h hex
          · rw [if_neg hc9] at h
            obtain ⟨v11, e_v11, h⟩ := mx_letE h
            refine mx_iinc v11 (L2 := [.ref q0, .int y1, .int v11, .int y3]) (mx_d tX12_pairsIn_0 31 rfl) rfl (by rw [e_v11]; rfl) (by decide) rfl ?_
            obtain ⟨v12, e_v12, h⟩ := mx_letE h
            refine mx_iinc v12 (L2 := [.ref q0, .int y1, .int v11, .int v12]) (mx_d tX12_pairsIn_0 32 rfl) rfl (by rw [e_v12]; rfl) (by decide) rfl ?_
            refine mx_goto (tgt := 4) (mx_d tX12_pairsIn_0 33 rfl) (by decide) ?_
            exact ih h hex
def FX12_pairsIn (a : Nat) (x0 : Int32) (m : mB) : Option Int32 := Option.bind (FX12_pairsIn_L4 a x0 m mx_FU 0 0) (fun q13 => (some q13))
set_option maxRecDepth 20000 in
theorem CX12_pairsIn {G : mG} {l : Launch} {e : mE} {a : Nat} {x0 : Int32} {m : mB} {r : Int32} (h0 : ly12 e a) (h : FX12_pairsIn a x0 m = some r) : mx_Call G l MX12_pairsIn 2 0 0 [.ref a, .int x0] (e, m) (fun v z => v = some (.int r) ∧ z = (e, m)) := by
  refine mx_entry (L := [.ref a, .int x0, .float 0, .float 0]) (by decide +kernel) (Nat.le_of_ble_eq_true rfl) rfl ?_
  unfold FX12_pairsIn at h
  refine mx_iconst (0) (mx_d tX12_pairsIn_0 0 rfl) (by decide) ?_
  refine mx_istore_n (L2 := [.ref a, .int x0, .int 0, .float 0]) (mx_d tX12_pairsIn_0 1 rfl) rfl (by decide) (by rfl) ?_
  refine mx_iconst (0) (mx_d tX12_pairsIn_0 2 rfl) (by decide) ?_
  refine mx_istore_n (L2 := [.ref a, .int x0, .int 0, .int 0]) (mx_d tX12_pairsIn_0 3 rfl) rfl (by decide) (by rfl) ?_
  obtain ⟨q13, h_q13, h⟩ := Option.bind_eq_some_iff.mp h
  refine CX12_pairsIn_L4 h0 mx_FU h_q13 ?_
  refine mx_iload_n (mx_d tX12_pairsIn_0 34 rfl) rfl rfl ?_
  obtain rfl := Option.some.inj h
  exact mx_ireturn (mx_d tX12_pairsIn_0 35 rfl) rfl ⟨rfl, rfl⟩
def FX12_pairMany (a : Nat) (m : mB) : Option Int32 := Option.bind (FX12_pairsIn a 1023 m) (fun r1 => (some r1))
set_option maxRecDepth 20000 in
theorem CX12_pairMany {G : mG} {l : Launch} {e : mE} {a : Nat} {m : mB} {r : Int32} (h0 : ly12 e a) (h : FX12_pairMany a m = some r) : mx_Call G l MX12_pairMany 3 0 0 [.ref a] (e, m) (fun v z => v = some (.int r) ∧ z = (e, m)) := by
  refine mx_entry (L := [.ref a]) (by decide +kernel) (Nat.le_of_ble_eq_true rfl) rfl ?_
  unfold FX12_pairMany at h
  refine mx_aload_n (mx_d tX12_pairMany_0 0 rfl) rfl rfl ?_
  refine mx_sipush (1023) (mx_d tX12_pairMany_0 1 rfl) (by decide) ?_
  obtain ⟨r1, h_r1, h⟩ := Option.bind_eq_some_iff.mp h
  refine mx_cVi (mx_d tX12_pairMany_0 2 rfl) iX12_257 rfl vX12_pairsIn ⟨_, rfl, rfl⟩ (ly12_o h0) (CX12_pairsIn h0 h_r1) (by decide) rfl rfl (Nat.le_of_ble_eq_true rfl) ?_
  obtain rfl := Option.some.inj h
  exact mx_ireturn (mx_d tX12_pairMany_0 3 rfl) rfl ⟨rfl, rfl⟩
def FX12_totalNow_L4 (q0 : Nat) (m : mB) : Nat → Int32 → Int32 → Option (Int32)
  | 0, _, _ => none
  | f + 1, y1, y2 => (if (m.1 (q0 + 2) 1) ≤ y2 then (some (y1)) else Option.bind (FX12_isOfPair q0 y2 m) (fun r2 => (if r2 = 0 then mx_let (y2 + 1) (fun v4 => (FX12_totalNow_L4 q0 m f y1 v4)) else mx_chk (mx_inb (128 + y2) 432) (mx_let (y1 + (m.1 (q0 + 2) (Int32.toNatClampNeg (128 + y2)))) (fun v6 => mx_let (y2 + 1) (fun v7 => (FX12_totalNow_L4 q0 m f v6 v7)))))))
set_option maxRecDepth 20000 in
theorem CX12_totalNow_L4 {G : mG} {l : Launch} {e : mE} {Post : Option Value → mS → Prop} {q0 : Nat} {m : mB} (g0 : ly12 e q0) : ∀ (f : Nat) {y1 : Int32} {y2 : Int32} {q : (Int32)}, FX12_totalNow_L4 q0 m f y1 y2 = some q → (mx_Fr G l MX12_totalNow 3 0 0 Post 41 [.float 0, .int q, .float 0] [] (e, m)) → mx_Fr G l MX12_totalNow 3 0 0 Post 4 [.ref q0, .int y1, .int y2] [] (e, m) := by
  intro f
  induction f with
  | zero => intro _ _ _ h; cases h
  | succ f ih =>
    intro y1 y2 q h hex
    rw [FX12_totalNow_L4] at h
    refine mx_iload_n (mx_d tX12_totalNow_0 4 rfl) rfl rfl ?_
    refine mx_aload_n (mx_d tX12_totalNow_0 5 rfl) rfl rfl ?_
    refine mx_getR (mx_d tX12_totalNow_0 6 rfl) fX12_98 rfl rfl (ly12_o g0) (ly12_r14 g0) ?_
    refine mx_iconst (1) (mx_d tX12_totalNow_0 7 rfl) (by decide) ?_
    refine mx_ialoadC 1 (mx_d tX12_totalNow_0 8 rfl) (ly12_s14 g0) (by decide) (mx_inbE (by decide)) ?_
    refine mx_icmp_ge (tgt := 41) (mx_d tX12_totalNow_0 9 rfl) (by decide) (fun hc1 => ?_) (fun hc1 => ?_)
    · rw [if_pos hc1] at h
      obtain rfl := Option.some.inj h
      refine mx_forget (L' := [.float 0, .int y1, .float 0]) ⟨rfl, trivial⟩ ?_
      exact hex
    · rw [if_neg hc1] at h
      refine mx_aload_n (mx_d tX12_totalNow_0 10 rfl) rfl rfl ?_
      refine mx_iload_n (mx_d tX12_totalNow_0 11 rfl) rfl rfl ?_
      obtain ⟨r2, h_r2, h⟩ := Option.bind_eq_some_iff.mp h
      refine mx_cVi (mx_d tX12_totalNow_0 12 rfl) iX12_260 rfl vX12_isOfPair ⟨_, rfl, rfl⟩ (ly12_o g0) (CX12_isOfPair g0 h_r2) (by decide) rfl rfl (Nat.le_of_ble_eq_true rfl) ?_
      refine mx_if_eq (tgt := 35) (mx_d tX12_totalNow_0 13 rfl) (by decide) (fun hc3 => ?_) (fun hc3 => ?_)
      · rw [if_pos hc3] at h
        obtain ⟨v4, e_v4, h⟩ := mx_letE h
        refine mx_iinc v4 (L2 := [.ref q0, .int y1, .int v4]) (mx_d tX12_totalNow_0 23 rfl) rfl (by rw [e_v4]; rfl) (by decide) rfl ?_
        refine mx_goto (tgt := 4) (mx_d tX12_totalNow_0 24 rfl) (by decide) ?_
        exact ih h hex
      · rw [if_neg hc3] at h
        refine mx_iload_n (mx_d tX12_totalNow_0 14 rfl) rfl rfl ?_
        refine mx_aload_n (mx_d tX12_totalNow_0 15 rfl) rfl rfl ?_
        refine mx_getR (mx_d tX12_totalNow_0 16 rfl) fX12_98 rfl rfl (ly12_o g0) (ly12_r14 g0) ?_
        refine mx_sipush (128) (mx_d tX12_totalNow_0 17 rfl) (by decide) ?_
        refine mx_iload_n (mx_d tX12_totalNow_0 18 rfl) rfl rfl ?_
        refine mx_iadd (mx_d tX12_totalNow_0 19 rfl) ?_
        obtain ⟨hi5, h⟩ := mx_chkE h
        refine mx_iaload (mx_d tX12_totalNow_0 20 rfl) (ly12_s14 g0) (mx_inbE hi5) ?_
        refine mx_iadd (mx_d tX12_totalNow_0 21 rfl) ?_
        obtain ⟨v6, e_v6, h⟩ := mx_letE h
        refine mx_istore_n (L2 := [.ref q0, .int v6, .int y2]) (mx_d tX12_totalNow_0 22 rfl) rfl (by decide) (by rw [e_v6]; rfl) ?_
        obtain ⟨v7, e_v7, h⟩ := mx_letE h
        refine mx_iinc v7 (L2 := [.ref q0, .int v6, .int v7]) (mx_d tX12_totalNow_0 23 rfl) rfl (by rw [e_v7]; rfl) (by decide) rfl ?_
        refine mx_goto (tgt := 4) (mx_d tX12_totalNow_0 24 rfl) (by decide) ?_
        exact ih h hex
def FX12_totalNow (a : Nat) (m : mB) : Option Int32 := Option.bind (FX12_totalNow_L4 a m mx_FU 0 0) (fun q8 => (some q8))
set_option maxRecDepth 20000 in
theorem CX12_totalNow {G : mG} {l : Launch} {e : mE} {a : Nat} {m : mB} {r : Int32} (h0 : ly12 e a) (h : FX12_totalNow a m = some r) : mx_Call G l MX12_totalNow 3 0 0 [.ref a] (e, m) (fun v z => v = some (.int r) ∧ z = (e, m)) := by
  refine mx_entry (L := [.ref a, .float 0, .float 0]) (by decide +kernel) (Nat.le_of_ble_eq_true rfl) rfl ?_
  unfold FX12_totalNow at h
  refine mx_iconst (0) (mx_d tX12_totalNow_0 0 rfl) (by decide) ?_
  refine mx_istore_n (L2 := [.ref a, .int 0, .float 0]) (mx_d tX12_totalNow_0 1 rfl) rfl (by decide) (by rfl) ?_
  refine mx_iconst (0) (mx_d tX12_totalNow_0 2 rfl) (by decide) ?_
  refine mx_istore_n (L2 := [.ref a, .int 0, .int 0]) (mx_d tX12_totalNow_0 3 rfl) rfl (by decide) (by rfl) ?_
  obtain ⟨q8, h_q8, h⟩ := Option.bind_eq_some_iff.mp h
  refine CX12_totalNow_L4 h0 mx_FU h_q8 ?_
  refine mx_iload_n (mx_d tX12_totalNow_0 25 rfl) rfl rfl ?_
  obtain rfl := Option.some.inj h
  exact mx_ireturn (mx_d tX12_totalNow_0 26 rfl) rfl ⟨rfl, rfl⟩
def FX12_boundNow_L4 (q0 : Nat) (m : mB) : Nat → Int32 → Int32 → Option (Int32)
  | 0, _, _ => none
  | f + 1, y1, y2 => (if (m.1 (q0 + 2) 0) ≤ y2 then (some (y1)) else mx_chk (mx_inb (168 + y2) 432) (mx_let (y1 + (m.1 (q0 + 2) (Int32.toNatClampNeg (168 + y2)))) (fun v3 => mx_let (y2 + 1) (fun v4 => (FX12_boundNow_L4 q0 m f v3 v4)))))
set_option maxRecDepth 20000 in
theorem CX12_boundNow_L4 {G : mG} {l : Launch} {e : mE} {Post : Option Value → mS → Prop} {q0 : Nat} {m : mB} (g0 : ly12 e q0) : ∀ (f : Nat) {y1 : Int32} {y2 : Int32} {q : (Int32)}, FX12_boundNow_L4 q0 m f y1 y2 = some q → (mx_Fr G l MX12_boundNow 2 0 0 Post 33 [.ref q0, .int q, .float 0] [] (e, m)) → mx_Fr G l MX12_boundNow 2 0 0 Post 4 [.ref q0, .int y1, .int y2] [] (e, m) := by
  intro f
  induction f with
  | zero => intro _ _ _ h; cases h
  | succ f ih =>
    intro y1 y2 q h hex
    rw [FX12_boundNow_L4] at h
    refine mx_iload_n (mx_d tX12_boundNow_0 4 rfl) rfl rfl ?_
    refine mx_aload_n (mx_d tX12_boundNow_0 5 rfl) rfl rfl ?_
    refine mx_getR (mx_d tX12_boundNow_0 6 rfl) fX12_98 rfl rfl (ly12_o g0) (ly12_r14 g0) ?_
    refine mx_iconst (0) (mx_d tX12_boundNow_0 7 rfl) (by decide) ?_
    refine mx_ialoadC 0 (mx_d tX12_boundNow_0 8 rfl) (ly12_s14 g0) (by decide) (mx_inbE (by decide)) ?_
    refine mx_icmp_ge (tgt := 33) (mx_d tX12_boundNow_0 9 rfl) (by decide) (fun hc1 => ?_) (fun hc1 => ?_)
    · rw [if_pos hc1] at h
      obtain rfl := Option.some.inj h
      refine mx_forget (L' := [.ref q0, .int y1, .float 0]) ⟨rfl, rfl, trivial⟩ ?_
      exact hex
    · rw [if_neg hc1] at h
      refine mx_iload_n (mx_d tX12_boundNow_0 10 rfl) rfl rfl ?_
      refine mx_aload_n (mx_d tX12_boundNow_0 11 rfl) rfl rfl ?_
      refine mx_getR (mx_d tX12_boundNow_0 12 rfl) fX12_98 rfl rfl (ly12_o g0) (ly12_r14 g0) ?_
      refine mx_sipush (168) (mx_d tX12_boundNow_0 13 rfl) (by decide) ?_
      refine mx_iload_n (mx_d tX12_boundNow_0 14 rfl) rfl rfl ?_
      refine mx_iadd (mx_d tX12_boundNow_0 15 rfl) ?_
      obtain ⟨hi2, h⟩ := mx_chkE h
      refine mx_iaload (mx_d tX12_boundNow_0 16 rfl) (ly12_s14 g0) (mx_inbE hi2) ?_
      refine mx_iadd (mx_d tX12_boundNow_0 17 rfl) ?_
      obtain ⟨v3, e_v3, h⟩ := mx_letE h
      refine mx_istore_n (L2 := [.ref q0, .int v3, .int y2]) (mx_d tX12_boundNow_0 18 rfl) rfl (by decide) (by rw [e_v3]; rfl) ?_
      obtain ⟨v4, e_v4, h⟩ := mx_letE h
      refine mx_iinc v4 (L2 := [.ref q0, .int v3, .int v4]) (mx_d tX12_boundNow_0 19 rfl) rfl (by rw [e_v4]; rfl) (by decide) rfl ?_
      refine mx_goto (tgt := 4) (mx_d tX12_boundNow_0 20 rfl) (by decide) ?_
      exact ih h hex
def FX12_boundNow_L35 (q0 : Nat) (m : mB) : Nat → Int32 → Int32 → Option (Int32)
  | 0, _, _ => none
  | f + 1, y1, y2 => (if (m.1 (q0 + 2) 125) ≤ y2 then (some (y1)) else mx_chk (mx_inb (184 + y2) 432) (mx_chk (mx_inb (178 + y2) 432) (Option.bind (FX12_bits (m.1 (q0 + 2) (Int32.toNatClampNeg (178 + y2))) m) (fun r9 => mx_let (y1 + ((m.1 (q0 + 2) (Int32.toNatClampNeg (184 + y2))) * (r9 / 2))) (fun v10 => mx_let (y2 + 1) (fun v11 => (FX12_boundNow_L35 q0 m f v10 v11)))))))
set_option maxRecDepth 20000 in
theorem CX12_boundNow_L35 {G : mG} {l : Launch} {e : mE} {Post : Option Value → mS → Prop} {q0 : Nat} {m : mB} (g0 : ly12 e q0) : ∀ (f : Nat) {y1 : Int32} {y2 : Int32} {q : (Int32)}, FX12_boundNow_L35 q0 m f y1 y2 = some q → (mx_Fr G l MX12_boundNow 2 0 0 Post 81 [.float 0, .int q, .float 0] [] (e, m)) → mx_Fr G l MX12_boundNow 2 0 0 Post 35 [.ref q0, .int y1, .int y2] [] (e, m) := by
  intro f
  induction f with
  | zero => intro _ _ _ h; cases h
  | succ f ih =>
    intro y1 y2 q h hex
    rw [FX12_boundNow_L35] at h
    refine mx_iload_n (mx_d tX12_boundNow_0 23 rfl) rfl rfl ?_
    refine mx_aload_n (mx_d tX12_boundNow_0 24 rfl) rfl rfl ?_
    refine mx_getR (mx_d tX12_boundNow_0 25 rfl) fX12_98 rfl rfl (ly12_o g0) (ly12_r14 g0) ?_
    refine mx_bipush (125) (mx_d tX12_boundNow_0 26 rfl) (by decide) ?_
    refine mx_ialoadC 125 (mx_d tX12_boundNow_0 27 rfl) (ly12_s14 g0) (by decide) (mx_inbE (by decide)) ?_
    refine mx_icmp_ge (tgt := 81) (mx_d tX12_boundNow_0 28 rfl) (by decide) (fun hc6 => ?_) (fun hc6 => ?_)
    · rw [if_pos hc6] at h
      obtain rfl := Option.some.inj h
      refine mx_forget (L' := [.float 0, .int y1, .float 0]) ⟨rfl, trivial⟩ ?_
      exact hex
    · rw [if_neg hc6] at h
      refine mx_iload_n (mx_d tX12_boundNow_0 29 rfl) rfl rfl ?_
      refine mx_aload_n (mx_d tX12_boundNow_0 30 rfl) rfl rfl ?_
      refine mx_getR (mx_d tX12_boundNow_0 31 rfl) fX12_98 rfl rfl (ly12_o g0) (ly12_r14 g0) ?_
      refine mx_sipush (184) (mx_d tX12_boundNow_0 32 rfl) (by decide) ?_
      refine mx_iload_n (mx_d tX12_boundNow_0 33 rfl) rfl rfl ?_
      refine mx_iadd (mx_d tX12_boundNow_0 34 rfl) ?_
      obtain ⟨hi7, h⟩ := mx_chkE h
      refine mx_iaload (mx_d tX12_boundNow_0 35 rfl) (ly12_s14 g0) (mx_inbE hi7) ?_
      refine mx_aload_n (mx_d tX12_boundNow_0 36 rfl) rfl rfl ?_
      refine mx_getR (mx_d tX12_boundNow_0 37 rfl) fX12_98 rfl rfl (ly12_o g0) (ly12_r14 g0) ?_
      refine mx_sipush (178) (mx_d tX12_boundNow_0 38 rfl) (by decide) ?_
      refine mx_iload_n (mx_d tX12_boundNow_0 39 rfl) rfl rfl ?_
      refine mx_iadd (mx_d tX12_boundNow_0 40 rfl) ?_
      obtain ⟨hi8, h⟩ := mx_chkE h
      refine mx_iaload (mx_d tX12_boundNow_0 41 rfl) (ly12_s14 g0) (mx_inbE hi8) ?_
      obtain ⟨r9, h_r9, h⟩ := Option.bind_eq_some_iff.mp h
      refine mx_cSi (mx_d tX12_boundNow_0 42 rfl) iX12_263 rfl sX12_bits (CX12_bits  h_r9) (by decide) rfl rfl (Nat.le_of_ble_eq_true rfl) ?_
      refine mx_iconst (2) (mx_d tX12_boundNow_0 43 rfl) (by decide) ?_
      refine mx_idiv (mx_d tX12_boundNow_0 44 rfl) (by decide) ?_
      refine mx_imul (mx_d tX12_boundNow_0 45 rfl) ?_
      refine mx_iadd (mx_d tX12_boundNow_0 46 rfl) ?_
      obtain ⟨v10, e_v10, h⟩ := mx_letE h
      refine mx_istore_n (L2 := [.ref q0, .int v10, .int y2]) (mx_d tX12_boundNow_0 47 rfl) rfl (by decide) (by rw [e_v10]; rfl) ?_
      obtain ⟨v11, e_v11, h⟩ := mx_letE h
      refine mx_iinc v11 (L2 := [.ref q0, .int v10, .int v11]) (mx_d tX12_boundNow_0 48 rfl) rfl (by rw [e_v11]; rfl) (by decide) rfl ?_
      refine mx_goto (tgt := 35) (mx_d tX12_boundNow_0 49 rfl) (by decide) ?_
      exact ih h hex
def FX12_boundNow (a : Nat) (m : mB) : Option Int32 := Option.bind (FX12_boundNow_L4 a m mx_FU 0 0) (fun q5 => Option.bind (FX12_boundNow_L35 a m mx_FU q5 0) (fun q12 => (some q12)))
set_option maxRecDepth 20000 in
theorem CX12_boundNow {G : mG} {l : Launch} {e : mE} {a : Nat} {m : mB} {r : Int32} (h0 : ly12 e a) (h : FX12_boundNow a m = some r) : mx_Call G l MX12_boundNow 2 0 0 [.ref a] (e, m) (fun v z => v = some (.int r) ∧ z = (e, m)) := by
  refine mx_entry (L := [.ref a, .float 0, .float 0]) (by decide +kernel) (Nat.le_of_ble_eq_true rfl) rfl ?_
  unfold FX12_boundNow at h
  refine mx_iconst (0) (mx_d tX12_boundNow_0 0 rfl) (by decide) ?_
  refine mx_istore_n (L2 := [.ref a, .int 0, .float 0]) (mx_d tX12_boundNow_0 1 rfl) rfl (by decide) (by rfl) ?_
  refine mx_iconst (0) (mx_d tX12_boundNow_0 2 rfl) (by decide) ?_
  refine mx_istore_n (L2 := [.ref a, .int 0, .int 0]) (mx_d tX12_boundNow_0 3 rfl) rfl (by decide) (by rfl) ?_
  obtain ⟨q5, h_q5, h⟩ := Option.bind_eq_some_iff.mp h
  refine CX12_boundNow_L4 h0 mx_FU h_q5 ?_
  refine mx_iconst (0) (mx_d tX12_boundNow_0 21 rfl) (by decide) ?_
  refine mx_istore_n (L2 := [.ref a, .int q5, .int 0]) (mx_d tX12_boundNow_0 22 rfl) rfl (by decide) (by rfl) ?_
  obtain ⟨q12, h_q12, h⟩ := Option.bind_eq_some_iff.mp h
  refine CX12_boundNow_L35 h0 mx_FU h_q12 ?_
  refine mx_iload_n (mx_d tX12_boundNow_0 50 rfl) rfl rfl ?_
  obtain rfl := Option.some.inj h
  exact mx_ireturn (mx_d tX12_boundNow_0 51 rfl) rfl ⟨rfl, rfl⟩
def FX12_partners_L5 (q0 : Nat) (y1 : Int32) (y2 : Int32) (m : mB) : Nat → Int32 → Int32 → Option (Int32)
  | 0, _, _ => none
  | f + 1, y3, y4 => (if (m.1 (q0 + 2) 1) ≤ y4 then (some (y3)) else Option.bind (FX12_isAt q0 y4 y1 m) (fun r2 => (if r2 = 0 then mx_let (y4 + 1) (fun v4 => (FX12_partners_L5 q0 y1 y2 m f y3 v4)) else mx_let (mx_chk (mx_inb (3 + y4) 432) (mx_chk (mx_inb (33 + y4) 432) (mx_let (y3 ||| ((1 : Int32) <<< ((((m.1 (q0 + 2) (Int32.toNatClampNeg (3 + y4))) + (m.1 (q0 + 2) (Int32.toNatClampNeg (33 + y4)))) - y1) &&& 31))) (fun v9 => mx_let (y4 + 1) (fun v10 => (FX12_partners_L5 q0 y1 y2 m f v9 v10)))))) (fun k6 => (if y2 = 0 then k6 else Option.bind (FX12_slackOf q0 y4 m) (fun r11 => (if r11 = 0 then k6 else mx_let (y4 + 1) (fun v13 => (FX12_partners_L5 q0 y1 y2 m f y3 v13)))))))))
set_option maxRecDepth 20000 in
theorem CX12_partners_L5 {G : mG} {l : Launch} {e : mE} {Post : Option Value → mS → Prop} {q0 : Nat} {y1 : Int32} {y2 : Int32} {m : mB} (g0 : ly12 e q0) : ∀ (f : Nat) {y3 : Int32} {y4 : Int32} {q : (Int32)}, FX12_partners_L5 q0 y1 y2 m f y3 y4 = some q → (mx_Fr G l MX12_partners 3 0 0 Post 72 [.float 0, .float 0, .float 0, .int q, .float 0] [] (e, m)) → mx_Fr G l MX12_partners 3 0 0 Post 5 [.ref q0, .int y1, .int y2, .int y3, .int y4] [] (e, m) := by
  intro f
  induction f with
  | zero => intro _ _ _ h; cases h
  | succ f ih =>
    intro y3 y4 q h hex
    rw [FX12_partners_L5] at h
    refine mx_iload (mx_d tX12_partners_0 4 rfl) rfl ?_
    refine mx_aload_n (mx_d tX12_partners_0 5 rfl) rfl rfl ?_
    refine mx_getR (mx_d tX12_partners_0 6 rfl) fX12_98 rfl rfl (ly12_o g0) (ly12_r14 g0) ?_
    refine mx_iconst (1) (mx_d tX12_partners_0 7 rfl) (by decide) ?_
    refine mx_ialoadC 1 (mx_d tX12_partners_0 8 rfl) (ly12_s14 g0) (by decide) (mx_inbE (by decide)) ?_
    refine mx_icmp_ge (tgt := 72) (mx_d tX12_partners_0 9 rfl) (by decide) (fun hc1 => ?_) (fun hc1 => ?_)
    · rw [if_pos hc1] at h
      obtain rfl := Option.some.inj h
      refine mx_forget (L' := [.float 0, .float 0, .float 0, .int y3, .float 0]) ⟨rfl, trivial⟩ ?_
      exact hex
    · rw [if_neg hc1] at h
      refine mx_aload_n (mx_d tX12_partners_0 10 rfl) rfl rfl ?_
      refine mx_iload (mx_d tX12_partners_0 11 rfl) rfl ?_
      refine mx_iload_n (mx_d tX12_partners_0 12 rfl) rfl rfl ?_
      obtain ⟨r2, h_r2, h⟩ := Option.bind_eq_some_iff.mp h
      refine mx_cVi (mx_d tX12_partners_0 13 rfl) iX12_266 rfl vX12_isAt ⟨_, rfl, rfl⟩ (ly12_o g0) (CX12_isAt g0 h_r2) (by decide) rfl rfl (Nat.le_of_ble_eq_true rfl) ?_
      refine mx_if_eq (tgt := 66) (mx_d tX12_partners_0 14 rfl) (by decide) (fun hc3 => ?_) (fun hc3 => ?_)
      · rw [if_pos hc3] at h
        obtain ⟨v4, e_v4, h⟩ := mx_letE h
        refine mx_iinc v4 (L2 := [.ref q0, .int y1, .int y2, .int y3, .int v4]) (mx_d tX12_partners_0 41 rfl) rfl (by rw [e_v4]; rfl) (by decide) rfl ?_
        refine mx_goto (tgt := 5) (mx_d tX12_partners_0 42 rfl) (by decide) ?_
        exact ih h hex
      · rw [if_neg hc3] at h
        refine mx_iload_n (mx_d tX12_partners_0 15 rfl) rfl rfl ?_
        refine mx_letK (J := fun k6 => k6 = some q → mx_Fr G l MX12_partners 3 0 0 Post 39 [.ref q0, .int y1, .int y2, .int y3, .int y4] [] (e, m)) h ?_ (fun k6 j_k6 h => ?_)
        · intro h
          refine mx_iload_n (mx_d tX12_partners_0 21 rfl) rfl rfl ?_
          refine mx_iconst (1) (mx_d tX12_partners_0 22 rfl) (by decide) ?_
          refine mx_aload_n (mx_d tX12_partners_0 23 rfl) rfl rfl ?_
          refine mx_getR (mx_d tX12_partners_0 24 rfl) fX12_98 rfl rfl (ly12_o g0) (ly12_r14 g0) ?_
          refine mx_iconst (3) (mx_d tX12_partners_0 25 rfl) (by decide) ?_
          refine mx_iload (mx_d tX12_partners_0 26 rfl) rfl ?_
          refine mx_iadd (mx_d tX12_partners_0 27 rfl) ?_
          obtain ⟨hi7, h⟩ := mx_chkE h
          refine mx_iaload (mx_d tX12_partners_0 28 rfl) (ly12_s14 g0) (mx_inbE hi7) ?_
          refine mx_aload_n (mx_d tX12_partners_0 29 rfl) rfl rfl ?_
          refine mx_getR (mx_d tX12_partners_0 30 rfl) fX12_98 rfl rfl (ly12_o g0) (ly12_r14 g0) ?_
          refine mx_bipush (33) (mx_d tX12_partners_0 31 rfl) (by decide) ?_
          refine mx_iload (mx_d tX12_partners_0 32 rfl) rfl ?_
          refine mx_iadd (mx_d tX12_partners_0 33 rfl) ?_
          obtain ⟨hi8, h⟩ := mx_chkE h
          refine mx_iaload (mx_d tX12_partners_0 34 rfl) (ly12_s14 g0) (mx_inbE hi8) ?_
          refine mx_iadd (mx_d tX12_partners_0 35 rfl) ?_
          refine mx_iload_n (mx_d tX12_partners_0 36 rfl) rfl rfl ?_
          refine mx_isub (mx_d tX12_partners_0 37 rfl) ?_
          refine mx_ishl (mx_d tX12_partners_0 38 rfl) ?_
          refine mx_ior (mx_d tX12_partners_0 39 rfl) ?_
          obtain ⟨v9, e_v9, h⟩ := mx_letE h
          refine mx_istore_n (L2 := [.ref q0, .int y1, .int y2, .int v9, .int y4]) (mx_d tX12_partners_0 40 rfl) rfl (by decide) (by rw [e_v9]; rfl) ?_
          obtain ⟨v10, e_v10, h⟩ := mx_letE h
          refine mx_iinc v10 (L2 := [.ref q0, .int y1, .int y2, .int v9, .int v10]) (mx_d tX12_partners_0 41 rfl) rfl (by rw [e_v10]; rfl) (by decide) rfl ?_
          refine mx_goto (tgt := 5) (mx_d tX12_partners_0 42 rfl) (by decide) ?_
          exact ih h hex
        refine mx_if_eq (tgt := 39) (mx_d tX12_partners_0 16 rfl) (by decide) (fun hc5 => ?_) (fun hc5 => ?_)
        · rw [if_pos hc5] at h
          exact j_k6 h
        · rw [if_neg hc5] at h
          refine mx_aload_n (mx_d tX12_partners_0 17 rfl) rfl rfl ?_
          refine mx_iload (mx_d tX12_partners_0 18 rfl) rfl ?_
          obtain ⟨r11, h_r11, h⟩ := Option.bind_eq_some_iff.mp h
          refine mx_cVi (mx_d tX12_partners_0 19 rfl) iX12_269 rfl vX12_slackOf ⟨_, rfl, rfl⟩ (ly12_o g0) (CX12_slackOf g0 h_r11) (by decide) rfl rfl (Nat.le_of_ble_eq_true rfl) ?_
          refine mx_if_ne (tgt := 66) (mx_d tX12_partners_0 20 rfl) (by decide) (fun hc12 => ?_) (fun hc12 => ?_)
          · rw [if_neg hc12] at h
            obtain ⟨v13, e_v13, h⟩ := mx_letE h
            refine mx_iinc v13 (L2 := [.ref q0, .int y1, .int y2, .int y3, .int v13]) (mx_d tX12_partners_0 41 rfl) rfl (by rw [e_v13]; rfl) (by decide) rfl ?_
            refine mx_goto (tgt := 5) (mx_d tX12_partners_0 42 rfl) (by decide) ?_
            exact ih h hex
          · rw [if_pos hc12] at h
            exact j_k6 h
def FX12_partners (a : Nat) (x0 : Int32) (x1 : Int32) (m : mB) : Option Int32 := Option.bind (FX12_partners_L5 a x0 x1 m mx_FU 0 0) (fun q14 => (some q14))
set_option maxRecDepth 20000 in
theorem CX12_partners {G : mG} {l : Launch} {e : mE} {a : Nat} {x0 : Int32} {x1 : Int32} {m : mB} {r : Int32} (h0 : ly12 e a) (h : FX12_partners a x0 x1 m = some r) : mx_Call G l MX12_partners 3 0 0 [.ref a, .int x0, .int x1] (e, m) (fun v z => v = some (.int r) ∧ z = (e, m)) := by
  refine mx_entry (L := [.ref a, .int x0, .int x1, .float 0, .float 0]) (by decide +kernel) (Nat.le_of_ble_eq_true rfl) rfl ?_
  unfold FX12_partners at h
  refine mx_iconst (0) (mx_d tX12_partners_0 0 rfl) (by decide) ?_
  refine mx_istore_n (L2 := [.ref a, .int x0, .int x1, .int 0, .float 0]) (mx_d tX12_partners_0 1 rfl) rfl (by decide) (by rfl) ?_
  refine mx_iconst (0) (mx_d tX12_partners_0 2 rfl) (by decide) ?_
  refine mx_istore (L2 := [.ref a, .int x0, .int x1, .int 0, .int 0]) (mx_d tX12_partners_0 3 rfl) (by decide) (by rfl) ?_
  obtain ⟨q14, h_q14, h⟩ := Option.bind_eq_some_iff.mp h
  refine CX12_partners_L5 h0 mx_FU h_q14 ?_
  refine mx_iload_n (mx_d tX12_partners_0 43 rfl) rfl rfl ?_
  obtain rfl := Option.some.inj h
  exact mx_ireturn (mx_d tX12_partners_0 44 rfl) rfl ⟨rfl, rfl⟩
def FX12_point_L95 (q0 : Nat) (y1 : Int32) (m : mB) : Nat → Int32 → Int32 → Option (Int32)
  | 0, _, _ => none
  | f + 1, y3, y4 => (if (m.1 (q0 + 2) 125) ≤ y4 then (some (y3)) else mx_chk (mx_inb (178 + y4) 432) (Option.bind (FX12_has (m.1 (q0 + 2) (Int32.toNatClampNeg (178 + y4))) y1 m) (fun r19 => (if r19 = 0 then mx_let (y4 + 1) (fun v21 => (FX12_point_L95 q0 y1 m f y3 v21)) else mx_let (y3 ||| ((1 : Int32) <<< (y4 &&& 31))) (fun v22 => mx_let (y4 + 1) (fun v23 => (FX12_point_L95 q0 y1 m f v22 v23)))))))
set_option maxRecDepth 20000 in
theorem CX12_point_L95 {G : mG} {l : Launch} {e : mE} {Post : Option Value → mS → Prop} {q0 : Nat} {y1 : Int32} {m : mB} (g0 : ly12 e q0) : ∀ (f : Nat) {y3 : Int32} {y4 : Int32} {q : (Int32)}, FX12_point_L95 q0 y1 m f y3 y4 = some q → (mx_Fr G l MX12_point 4 0 0 Post 138 [.float 0, .float 0, .float 0, .int q, .float 0] [] (e, m)) → mx_Fr G l MX12_point 4 0 0 Post 95 [.ref q0, .int y1, .float 0, .int y3, .int y4] [] (e, m) := by
  intro f
  induction f with
  | zero => intro _ _ _ h; cases h
  | succ f ih =>
    intro y3 y4 q h hex
    rw [FX12_point_L95] at h
    refine mx_iload (mx_d tX12_point_0 40 rfl) rfl ?_
    refine mx_aload_n (mx_d tX12_point_0 41 rfl) rfl rfl ?_
    refine mx_getR (mx_d tX12_point_0 42 rfl) fX12_98 rfl rfl (ly12_o g0) (ly12_r14 g0) ?_
    refine mx_bipush (125) (mx_d tX12_point_0 43 rfl) (by decide) ?_
    refine mx_ialoadC 125 (mx_d tX12_point_0 44 rfl) (ly12_s14 g0) (by decide) (mx_inbE (by decide)) ?_
    refine mx_icmp_ge (tgt := 138) (mx_d tX12_point_0 45 rfl) (by decide) (fun hc17 => ?_) (fun hc17 => ?_)
    · rw [if_pos hc17] at h
      obtain rfl := Option.some.inj h
      refine mx_forget (L' := [.float 0, .float 0, .float 0, .int y3, .float 0]) ⟨rfl, trivial⟩ ?_
      exact hex
    · rw [if_neg hc17] at h
      refine mx_aload_n (mx_d tX12_point_0 46 rfl) rfl rfl ?_
      refine mx_getR (mx_d tX12_point_0 47 rfl) fX12_98 rfl rfl (ly12_o g0) (ly12_r14 g0) ?_
      refine mx_sipush (178) (mx_d tX12_point_0 48 rfl) (by decide) ?_
      refine mx_iload (mx_d tX12_point_0 49 rfl) rfl ?_
      refine mx_iadd (mx_d tX12_point_0 50 rfl) ?_
      obtain ⟨hi18, h⟩ := mx_chkE h
      refine mx_iaload (mx_d tX12_point_0 51 rfl) (ly12_s14 g0) (mx_inbE hi18) ?_
      refine mx_iload_n (mx_d tX12_point_0 52 rfl) rfl rfl ?_
      obtain ⟨r19, h_r19, h⟩ := Option.bind_eq_some_iff.mp h
      refine mx_cSi (mx_d tX12_point_0 53 rfl) iX12_210 rfl sX12_has (CX12_has  h_r19) (by decide) rfl rfl (Nat.le_of_ble_eq_true rfl) ?_
      refine mx_if_eq (tgt := 132) (mx_d tX12_point_0 54 rfl) (by decide) (fun hc20 => ?_) (fun hc20 => ?_)
      · rw [if_pos hc20] at h
        obtain ⟨v21, e_v21, h⟩ := mx_letE h
        refine mx_iinc v21 (L2 := [.ref q0, .int y1, .float 0, .int y3, .int v21]) (mx_d tX12_point_1 1 rfl) rfl (by rw [e_v21]; rfl) (by decide) rfl ?_
        refine mx_goto (tgt := 95) (mx_d tX12_point_1 2 rfl) (by decide) ?_
        exact ih h hex
      · rw [if_neg hc20] at h
        refine mx_iload_n (mx_d tX12_point_0 55 rfl) rfl rfl ?_
        refine mx_iconst (1) (mx_d tX12_point_0 56 rfl) (by decide) ?_
        refine mx_iload (mx_d tX12_point_0 57 rfl) rfl ?_
        refine mx_ishl (mx_d tX12_point_0 58 rfl) ?_
        refine mx_ior (mx_d tX12_point_0 59 rfl) ?_
        obtain ⟨v22, e_v22, h⟩ := mx_letE h
        refine mx_istore_n (L2 := [.ref q0, .int y1, .float 0, .int v22, .int y4]) (mx_d tX12_point_1 0 rfl) rfl (by decide) (by rw [e_v22]; rfl) ?_
        obtain ⟨v23, e_v23, h⟩ := mx_letE h
        refine mx_iinc v23 (L2 := [.ref q0, .int y1, .float 0, .int v22, .int v23]) (mx_d tX12_point_1 1 rfl) rfl (by rw [e_v23]; rfl) (by decide) rfl ?_
        refine mx_goto (tgt := 95) (mx_d tX12_point_1 2 rfl) (by decide) ?_
        exact ih h hex
def FX12_point (a : Nat) (x0 : Int32) (x1 : Int32) (m : mB) : Option (Int32 × mB) := mx_let (mx_up m.1 a 0 0, m.2) (fun m1 => Option.bind (FX12_isPoint a x0 m1) (fun r2 => (if r2 = 0 then Option.bind (FX12_refuse a m1) (fun r26 => (some (r26.1, r26.2))) else (if x1 = 0 then mx_chk (mx_inb (158 + x0) 432) ((some ((m1.1 (a + 2) (Int32.toNatClampNeg (158 + x0))), m1))) else if x1 = 1 then mx_chk (mx_inb (168 + x0) 432) ((some ((m1.1 (a + 2) (Int32.toNatClampNeg (168 + x0))), m1))) else if x1 = 2 then (if x1 = 3 then Option.bind (FX12_partners a x0 1 m1) (fun r11 => (some (r11, m1))) else Option.bind (FX12_partners a x0 0 m1) (fun r10 => (some (r10, m1)))) else if x1 = 3 then (if x1 = 3 then Option.bind (FX12_partners a x0 1 m1) (fun r15 => (some (r15, m1))) else Option.bind (FX12_partners a x0 0 m1) (fun r14 => (some (r14, m1)))) else if x1 = 4 then Option.bind (FX12_point_L95 a x0 m1 mx_FU 0 0) (fun q24 => (some (q24, m1))) else Option.bind (FX12_refuse a m1) (fun r25 => (some (r25.1, r25.2)))))))
set_option maxRecDepth 20000 in
theorem CX12_point {G : mG} {l : Launch} {e : mE} {a : Nat} {x0 : Int32} {x1 : Int32} {m : mB} {r : (Int32 × mB)} (h0 : ly12 e a) (h : FX12_point a x0 x1 m = some r) : mx_Call G l MX12_point 4 0 0 [.ref a, .int x0, .int x1] (e, m) (fun v z => v = some (.int r.1) ∧ z = (e, r.2)) := by
  refine mx_entry (L := [.ref a, .int x0, .int x1, .float 0, .float 0]) (by decide +kernel) (Nat.le_of_ble_eq_true rfl) rfl ?_
  unfold FX12_point at h
  refine mx_aload_n (mx_d tX12_point_0 0 rfl) rfl rfl ?_
  refine mx_iconst (0) (mx_d tX12_point_0 1 rfl) (by decide) ?_
  obtain ⟨m1, e_m1, h⟩ := mx_letE h
  refine mx_putI (mx_d tX12_point_0 2 rfl) fX12_1 rfl ⟨_, rfl, rfl⟩ rfl (ly12_o h0) (mx_eqz (z' := (e, m1)) (by rw [e_m1]) ?_)
  refine mx_aload_n (mx_d tX12_point_0 3 rfl) rfl rfl ?_
  refine mx_iload_n (mx_d tX12_point_0 4 rfl) rfl rfl ?_
  obtain ⟨r2, h_r2, h⟩ := Option.bind_eq_some_iff.mp h
  refine mx_cVi (mx_d tX12_point_0 5 rfl) iX12_247 rfl vX12_isPoint ⟨_, rfl, rfl⟩ (ly12_o h0) (CX12_isPoint h0 h_r2) (by decide) rfl rfl (Nat.le_of_ble_eq_true rfl) ?_
  refine mx_if_ne (tgt := 18) (mx_d tX12_point_0 6 rfl) (by decide) (fun hc3 => ?_) (fun hc3 => ?_)
  · rw [if_neg hc3] at h
    refine mx_iload_n (mx_d tX12_point_0 10 rfl) rfl rfl ?_
    by_cases hc4 : x1 = 0
    · rw [if_pos hc4] at h
      refine mx_tableIn (tgt := 52) (mx_d tX12_point_0 11 rfl) (by rw [hc4]; decide) (by rw [hc4]; decide) (by rw [hc4]; rfl) (by decide) ?_
      refine mx_aload_n (mx_d tX12_point_0 12 rfl) rfl rfl ?_
      refine mx_getR (mx_d tX12_point_0 13 rfl) fX12_98 rfl rfl (ly12_o h0) (ly12_r14 h0) ?_
      refine mx_sipush (158) (mx_d tX12_point_0 14 rfl) (by decide) ?_
      refine mx_iload_n (mx_d tX12_point_0 15 rfl) rfl rfl ?_
      refine mx_iadd (mx_d tX12_point_0 16 rfl) ?_
      obtain ⟨hi5, h⟩ := mx_chkE h
      refine mx_iaload (mx_d tX12_point_0 17 rfl) (ly12_s14 h0) (mx_inbE hi5) ?_
      obtain rfl := Option.some.inj h
      exact mx_ireturn (mx_d tX12_point_0 18 rfl) rfl ⟨rfl, rfl⟩
    · rw [if_neg hc4] at h
      by_cases hc6 : x1 = 1
      · rw [if_pos hc6] at h
        refine mx_tableIn (tgt := 63) (mx_d tX12_point_0 11 rfl) (by rw [hc6]; decide) (by rw [hc6]; decide) (by rw [hc6]; rfl) (by decide) ?_
        refine mx_aload_n (mx_d tX12_point_0 19 rfl) rfl rfl ?_
        refine mx_getR (mx_d tX12_point_0 20 rfl) fX12_98 rfl rfl (ly12_o h0) (ly12_r14 h0) ?_
        refine mx_sipush (168) (mx_d tX12_point_0 21 rfl) (by decide) ?_
        refine mx_iload_n (mx_d tX12_point_0 22 rfl) rfl rfl ?_
        refine mx_iadd (mx_d tX12_point_0 23 rfl) ?_
        obtain ⟨hi7, h⟩ := mx_chkE h
        refine mx_iaload (mx_d tX12_point_0 24 rfl) (ly12_s14 h0) (mx_inbE hi7) ?_
        obtain rfl := Option.some.inj h
        exact mx_ireturn (mx_d tX12_point_0 25 rfl) rfl ⟨rfl, rfl⟩
      · rw [if_neg hc6] at h
        by_cases hc8 : x1 = 2
        · rw [if_pos hc8] at h
          refine mx_tableIn (tgt := 74) (mx_d tX12_point_0 11 rfl) (by rw [hc8]; decide) (by rw [hc8]; decide) (by rw [hc8]; rfl) (by decide) ?_
          refine mx_aload_n (mx_d tX12_point_0 26 rfl) rfl rfl ?_
          refine mx_iload_n (mx_d tX12_point_0 27 rfl) rfl rfl ?_
          refine mx_iload_n (mx_d tX12_point_0 28 rfl) rfl rfl ?_
          refine mx_iconst (3) (mx_d tX12_point_0 29 rfl) (by decide) ?_
          refine mx_icmp_ne (tgt := 85) (mx_d tX12_point_0 30 rfl) (by decide) (fun hc9 => ?_) (fun hc9 => ?_)
          · rw [if_neg hc9] at h
            refine mx_iconst (0) (mx_d tX12_point_0 33 rfl) (by decide) ?_
            obtain ⟨r10, h_r10, h⟩ := Option.bind_eq_some_iff.mp h
            refine mx_cVi (mx_d tX12_point_0 34 rfl) iX12_275 rfl vX12_partners ⟨_, rfl, rfl⟩ (ly12_o h0) (CX12_partners h0 h_r10) (by decide) rfl rfl (Nat.le_of_ble_eq_true rfl) ?_
            obtain rfl := Option.some.inj h
            exact mx_ireturn (mx_d tX12_point_0 35 rfl) rfl ⟨rfl, rfl⟩
          · rw [if_pos hc9] at h
            refine mx_iconst (1) (mx_d tX12_point_0 31 rfl) (by decide) ?_
            refine mx_goto (tgt := 86) (mx_d tX12_point_0 32 rfl) (by decide) ?_
            obtain ⟨r11, h_r11, h⟩ := Option.bind_eq_some_iff.mp h
            refine mx_cVi (mx_d tX12_point_0 34 rfl) iX12_275 rfl vX12_partners ⟨_, rfl, rfl⟩ (ly12_o h0) (CX12_partners h0 h_r11) (by decide) rfl rfl (Nat.le_of_ble_eq_true rfl) ?_
            obtain rfl := Option.some.inj h
            exact mx_ireturn (mx_d tX12_point_0 35 rfl) rfl ⟨rfl, rfl⟩
        · rw [if_neg hc8] at h
          by_cases hc12 : x1 = 3
          · rw [if_pos hc12] at h
            refine mx_tableIn (tgt := 74) (mx_d tX12_point_0 11 rfl) (by rw [hc12]; decide) (by rw [hc12]; decide) (by rw [hc12]; rfl) (by decide) ?_
            refine mx_aload_n (mx_d tX12_point_0 26 rfl) rfl rfl ?_
            refine mx_iload_n (mx_d tX12_point_0 27 rfl) rfl rfl ?_
            refine mx_iload_n (mx_d tX12_point_0 28 rfl) rfl rfl ?_
            refine mx_iconst (3) (mx_d tX12_point_0 29 rfl) (by decide) ?_
            refine mx_icmp_ne (tgt := 85) (mx_d tX12_point_0 30 rfl) (by decide) (fun hc13 => ?_) (fun hc13 => ?_)
            · rw [if_neg hc13] at h
              refine mx_iconst (0) (mx_d tX12_point_0 33 rfl) (by decide) ?_
              obtain ⟨r14, h_r14, h⟩ := Option.bind_eq_some_iff.mp h
              refine mx_cVi (mx_d tX12_point_0 34 rfl) iX12_275 rfl vX12_partners ⟨_, rfl, rfl⟩ (ly12_o h0) (CX12_partners h0 h_r14) (by decide) rfl rfl (Nat.le_of_ble_eq_true rfl) ?_
              obtain rfl := Option.some.inj h
              exact mx_ireturn (mx_d tX12_point_0 35 rfl) rfl ⟨rfl, rfl⟩
            · rw [if_pos hc13] at h
              refine mx_iconst (1) (mx_d tX12_point_0 31 rfl) (by decide) ?_
              refine mx_goto (tgt := 86) (mx_d tX12_point_0 32 rfl) (by decide) ?_
              obtain ⟨r15, h_r15, h⟩ := Option.bind_eq_some_iff.mp h
              refine mx_cVi (mx_d tX12_point_0 34 rfl) iX12_275 rfl vX12_partners ⟨_, rfl, rfl⟩ (ly12_o h0) (CX12_partners h0 h_r15) (by decide) rfl rfl (Nat.le_of_ble_eq_true rfl) ?_
              obtain rfl := Option.some.inj h
              exact mx_ireturn (mx_d tX12_point_0 35 rfl) rfl ⟨rfl, rfl⟩
          · rw [if_neg hc12] at h
            by_cases hc16 : x1 = 4
            · rw [if_pos hc16] at h
              refine mx_tableIn (tgt := 90) (mx_d tX12_point_0 11 rfl) (by rw [hc16]; decide) (by rw [hc16]; decide) (by rw [hc16]; rfl) (by decide) ?_
              refine mx_iconst (0) (mx_d tX12_point_0 36 rfl) (by decide) ?_
              refine mx_istore_n (L2 := [.ref a, .int x0, .int x1, .int 0, .float 0]) (mx_d tX12_point_0 37 rfl) rfl (by decide) (by rfl) ?_
              refine mx_iconst (0) (mx_d tX12_point_0 38 rfl) (by decide) ?_
              refine mx_istore (L2 := [.ref a, .int x0, .int x1, .int 0, .int 0]) (mx_d tX12_point_0 39 rfl) (by decide) (by rfl) ?_
              obtain ⟨q24, h_q24, h⟩ := Option.bind_eq_some_iff.mp h
              refine mx_forget (L' := [.ref a, .int x0, .float 0, .int 0, .int 0]) ⟨rfl, rfl, rfl, rfl, trivial⟩ ?_
              refine CX12_point_L95 h0 mx_FU h_q24 ?_
              refine mx_iload_n (mx_d tX12_point_1 3 rfl) rfl rfl ?_
              obtain rfl := Option.some.inj h
              exact mx_ireturn (mx_d tX12_point_1 4 rfl) rfl ⟨rfl, rfl⟩
            · rw [if_neg hc16] at h
              have z_hc4 := lv_neT hc4 (a := 0) (by decide)
              have z_hc6 := lv_neT hc6 (a := 1) (by decide)
              have z_hc8 := lv_neT hc8 (a := 2) (by decide)
              have z_hc12 := lv_neT hc12 (a := 3) (by decide)
              have z_hc16 := lv_neT hc16 (a := 4) (by decide)
              refine mx_tableOut (tgt := 140) (mx_d tX12_point_0 11 rfl) (by omega) (by decide) ?_
              refine mx_aload_n (mx_d tX12_point_1 5 rfl) rfl rfl ?_
              obtain ⟨r25, h_r25, h⟩ := Option.bind_eq_some_iff.mp h
              refine mx_cVi (mx_d tX12_point_1 6 rfl) iX12_272 rfl vX12_refuse ⟨_, rfl, rfl⟩ (ly12_o h0) (CX12_refuse h0 h_r25) (by decide) rfl rfl (Nat.le_of_ble_eq_true rfl) ?_
              obtain rfl := Option.some.inj h
              exact mx_ireturn (mx_d tX12_point_1 7 rfl) rfl ⟨rfl, rfl⟩
  · rw [if_pos hc3] at h
    refine mx_aload_n (mx_d tX12_point_0 7 rfl) rfl rfl ?_
    obtain ⟨r26, h_r26, h⟩ := Option.bind_eq_some_iff.mp h
    refine mx_cVi (mx_d tX12_point_0 8 rfl) iX12_272 rfl vX12_refuse ⟨_, rfl, rfl⟩ (ly12_o h0) (CX12_refuse h0 h_r26) (by decide) rfl rfl (Nat.le_of_ble_eq_true rfl) ?_
    obtain rfl := Option.some.inj h
    exact mx_ireturn (mx_d tX12_point_0 9 rfl) rfl ⟨rfl, rfl⟩
def FX12_isAsked_L2 (q0 : Nat) (m : mB) : Nat → Int32 → Option (Int32 ⊕ (Unit))
  | 0, _ => none
  | f + 1, y1 => (if (m.1 q0 47) ≤ y1 then (some (.inr ())) else mx_chk (mx_inb y1 940) (mx_chk (mx_inb (m.1 (q0 + 1) (Int32.toNatClampNeg y1)) 10) (mx_chk (mx_inb (y1 + 1) 940) ((if (m.1 (q0 + 1) (Int32.toNatClampNeg (y1 + 1))) = 255 then (if (m.1 (q0 + 16) (Int32.toNatClampNeg (m.1 (q0 + 1) (Int32.toNatClampNeg y1)))) = (-1) then mx_let (y1 + 2) (fun v9 => (FX12_isAsked_L2 q0 m f v9)) else (some (.inl 0))) else (if (m.1 (q0 + 16) (Int32.toNatClampNeg (m.1 (q0 + 1) (Int32.toNatClampNeg y1)))) = (m.1 (q0 + 1) (Int32.toNatClampNeg (y1 + 1))) then mx_let (y1 + 2) (fun v7 => (FX12_isAsked_L2 q0 m f v7)) else (some (.inl 0))))))))
set_option maxRecDepth 20000 in
theorem CX12_isAsked_L2 {G : mG} {l : Launch} {e : mE} {Post : Option Value → mS → Prop} {q0 : Nat} {m : mB} (g0 : ly12 e q0) : ∀ (f : Nat) {y1 : Int32} {q : (Int32 ⊕ (Unit))}, FX12_isAsked_L2 q0 m f y1 = some q → (∀ rr, q = .inl rr → Post (some (.int rr)) (e, m)) → (∀ u, q = .inr u → mx_Fr G l MX12_isAsked 1 0 0 Post 58 [.float 0, .float 0] [] (e, m)) → mx_Fr G l MX12_isAsked 1 0 0 Post 2 [.ref q0, .int y1] [] (e, m) := by
  intro f
  induction f with
  | zero => intro _ _ h; cases h
  | succ f ih =>
    intro y1 q h hret hex
    rw [FX12_isAsked_L2] at h
    refine mx_iload_n (mx_d tX12_isAsked_0 2 rfl) rfl rfl ?_
    refine mx_aload_n (mx_d tX12_isAsked_0 3 rfl) rfl rfl ?_
    refine mx_getI (mx_d tX12_isAsked_0 4 rfl) fX12_392 rfl (Or.inl rfl) (ly12_o g0) ?_
    refine mx_icmp_ge (tgt := 58) (mx_d tX12_isAsked_0 5 rfl) (by decide) (fun hc1 => ?_) (fun hc1 => ?_)
    · rw [if_pos hc1] at h
      obtain rfl := Option.some.inj h
      refine mx_forget (L' := [.float 0, .float 0]) trivial ?_
      exact (hex _ rfl)
    · rw [if_neg hc1] at h
      refine mx_aload_n (mx_d tX12_isAsked_0 6 rfl) rfl rfl ?_
      refine mx_getR (mx_d tX12_isAsked_0 7 rfl) fX12_145 rfl rfl (ly12_o g0) (ly12_r34 g0) ?_
      refine mx_aload_n (mx_d tX12_isAsked_0 8 rfl) rfl rfl ?_
      refine mx_getR (mx_d tX12_isAsked_0 9 rfl) fX12_7 rfl rfl (ly12_o g0) (ly12_r1 g0) ?_
      refine mx_iload_n (mx_d tX12_isAsked_0 10 rfl) rfl rfl ?_
      obtain ⟨hi2, h⟩ := mx_chkE h
      refine mx_iaload (mx_d tX12_isAsked_0 11 rfl) (ly12_s1 g0) (mx_inbE hi2) ?_
      obtain ⟨hi3, h⟩ := mx_chkE h
      refine mx_iaload (mx_d tX12_isAsked_0 12 rfl) (ly12_s34 g0) (mx_inbE hi3) ?_
      refine mx_aload_n (mx_d tX12_isAsked_0 13 rfl) rfl rfl ?_
      refine mx_getR (mx_d tX12_isAsked_0 14 rfl) fX12_7 rfl rfl (ly12_o g0) (ly12_r1 g0) ?_
      refine mx_iload_n (mx_d tX12_isAsked_0 15 rfl) rfl rfl ?_
      refine mx_iconst (1) (mx_d tX12_isAsked_0 16 rfl) (by decide) ?_
      refine mx_iadd (mx_d tX12_isAsked_0 17 rfl) ?_
      obtain ⟨hi4, h⟩ := mx_chkE h
      refine mx_iaload (mx_d tX12_isAsked_0 18 rfl) (ly12_s1 g0) (mx_inbE hi4) ?_
      refine mx_sipush (255) (mx_d tX12_isAsked_0 19 rfl) (by decide) ?_
      refine mx_icmp_ne (tgt := 39) (mx_d tX12_isAsked_0 20 rfl) (by decide) (fun hc5 => ?_) (fun hc5 => ?_)
      · rw [if_neg hc5] at h
        refine mx_aload_n (mx_d tX12_isAsked_0 23 rfl) rfl rfl ?_
        refine mx_getR (mx_d tX12_isAsked_0 24 rfl) fX12_7 rfl rfl (ly12_o g0) (ly12_r1 g0) ?_
        refine mx_iload_n (mx_d tX12_isAsked_0 25 rfl) rfl rfl ?_
        refine mx_iconst (1) (mx_d tX12_isAsked_0 26 rfl) (by decide) ?_
        refine mx_iadd (mx_d tX12_isAsked_0 27 rfl) ?_
        refine mx_iaload (mx_d tX12_isAsked_0 28 rfl) (ly12_s1 g0) (mx_inbE hi4) ?_
        refine mx_icmp_eq (tgt := 52) (mx_d tX12_isAsked_0 29 rfl) (by decide) (fun hc6 => ?_) (fun hc6 => ?_)
        · rw [if_pos hc6] at h
          obtain ⟨v7, e_v7, h⟩ := mx_letE h
          refine mx_iinc v7 (L2 := [.ref q0, .int v7]) (mx_d tX12_isAsked_0 32 rfl) rfl (by rw [e_v7]; rfl) (by decide) rfl ?_
          refine mx_goto (tgt := 2) (mx_d tX12_isAsked_0 33 rfl) (by decide) ?_
          exact ih h hret hex
        · rw [if_neg hc6] at h
          refine mx_iconst (0) (mx_d tX12_isAsked_0 30 rfl) (by decide) ?_
          obtain rfl := Option.some.inj h
          exact mx_zreturn (mx_d tX12_isAsked_0 31 rfl) rfl rfl (hret 0 rfl)
      · rw [if_pos hc5] at h
        refine mx_iconst ((-1)) (mx_d tX12_isAsked_0 21 rfl) (by decide) ?_
        refine mx_goto (tgt := 47) (mx_d tX12_isAsked_0 22 rfl) (by decide) ?_
        refine mx_icmp_eq (tgt := 52) (mx_d tX12_isAsked_0 29 rfl) (by decide) (fun hc8 => ?_) (fun hc8 => ?_)
        · rw [if_pos hc8] at h
          obtain ⟨v9, e_v9, h⟩ := mx_letE h
          refine mx_iinc v9 (L2 := [.ref q0, .int v9]) (mx_d tX12_isAsked_0 32 rfl) rfl (by rw [e_v9]; rfl) (by decide) rfl ?_
          refine mx_goto (tgt := 2) (mx_d tX12_isAsked_0 33 rfl) (by decide) ?_
          exact ih h hret hex
        · rw [if_neg hc8] at h
          refine mx_iconst (0) (mx_d tX12_isAsked_0 30 rfl) (by decide) ?_
          obtain rfl := Option.some.inj h
          exact mx_zreturn (mx_d tX12_isAsked_0 31 rfl) rfl rfl (hret 0 rfl)
def FX12_isAsked (a : Nat) (m : mB) : Option Int32 := Option.bind (FX12_isAsked_L2 a m mx_FU 0) (fun q10 => Sum.elim (fun rr => some rr) (fun u11 => (some 1)) q10)
set_option maxRecDepth 20000 in
theorem CX12_isAsked {G : mG} {l : Launch} {e : mE} {a : Nat} {m : mB} {r : Int32} (h0 : ly12 e a) (h : FX12_isAsked a m = some r) : mx_Call G l MX12_isAsked 1 0 0 [.ref a] (e, m) (fun v z => v = some (.int r) ∧ z = (e, m)) := by
  refine mx_entry (L := [.ref a, .float 0]) (by decide +kernel) (Nat.le_of_ble_eq_true rfl) rfl ?_
  unfold FX12_isAsked at h
  refine mx_iconst (0) (mx_d tX12_isAsked_0 0 rfl) (by decide) ?_
  refine mx_istore_n (L2 := [.ref a, .int 0]) (mx_d tX12_isAsked_0 1 rfl) rfl (by decide) (by rfl) ?_
  obtain ⟨q10, h_q10, h⟩ := Option.bind_eq_some_iff.mp h
  refine CX12_isAsked_L2 h0 mx_FU h_q10 (fun rr12 e_rr12 => ?_) (fun u11 e_u11 => ?_)
  · subst e_rr12
    rw [Sum.elim_inl] at h
    obtain rfl := Option.some.inj h
    exact ⟨rfl, rfl⟩
  · subst e_u11
    rw [Sum.elim_inr] at h
    refine mx_iconst (1) (mx_d tX12_isAsked_0 34 rfl) (by decide) ?_
    obtain rfl := Option.some.inj h
    exact mx_zreturn (mx_d tX12_isAsked_0 35 rfl) rfl rfl ⟨rfl, rfl⟩
def FX12_leaf_L121 (q0 : Nat) : Nat → Int32 → mB → Option (mB)
  | 0, _, _ => none
  | f + 1, y3, m => (if (m.1 (q0 + 2) 1) ≤ y3 then (some (m)) else mx_chk (mx_inb (3 + y3) 432) (mx_chk (mx_inb (m.1 (q0 + 2) (Int32.toNatClampNeg (3 + y3))) 10) (mx_chk (mx_inb (33 + y3) 432) ((if (m.1 (q0 + 16) (Int32.toNatClampNeg (m.1 (q0 + 2) (Int32.toNatClampNeg (3 + y3))))) = (m.1 (q0 + 2) (Int32.toNatClampNeg (33 + y3))) then mx_chk (mx_inb y3 30) (mx_let (mx_up m.1 (q0 + 21) (Int32.toNatClampNeg y3) ((m.1 (q0 + 21) (Int32.toNatClampNeg y3)) + 1), m.2) (fun m14 => mx_let (y3 + 1) (fun v15 => (FX12_leaf_L121 q0 f v15 m14)))) else mx_let (y3 + 1) (fun v12 => (FX12_leaf_L121 q0 f v12 m)))))))
set_option maxRecDepth 20000 in
theorem CX12_leaf_L121 {G : mG} {l : Launch} {e : mE} {Post : Option Value → mS → Prop} {q0 : Nat} (g0 : ly12 e q0) : ∀ (f : Nat) {y3 : Int32} {m : mB} {q : (mB)}, FX12_leaf_L121 q0 f y3 m = some q → (mx_Fr G l MX12_leaf 2 0 0 Post 172 [.ref q0, .float 0, .float 0, .float 0] [] (e, q)) → mx_Fr G l MX12_leaf 2 0 0 Post 121 [.ref q0, .float 0, .float 0, .int y3] [] (e, m) := by
  intro f
  induction f with
  | zero => intro _ _ _ h; cases h
  | succ f ih =>
    intro y3 m q h hex
    rw [FX12_leaf_L121] at h
    refine mx_iload_n (mx_d tX12_leaf_1 13 rfl) rfl rfl ?_
    refine mx_aload_n (mx_d tX12_leaf_1 14 rfl) rfl rfl ?_
    refine mx_getR (mx_d tX12_leaf_1 15 rfl) fX12_98 rfl rfl (ly12_o g0) (ly12_r14 g0) ?_
    refine mx_iconst (1) (mx_d tX12_leaf_1 16 rfl) (by decide) ?_
    refine mx_ialoadC 1 (mx_d tX12_leaf_1 17 rfl) (ly12_s14 g0) (by decide) (mx_inbE (by decide)) ?_
    refine mx_icmp_ge (tgt := 172) (mx_d tX12_leaf_1 18 rfl) (by decide) (fun hc7 => ?_) (fun hc7 => ?_)
    · rw [if_pos hc7] at h
      obtain rfl := Option.some.inj h
      refine mx_forget (L' := [.ref q0, .float 0, .float 0, .float 0]) ⟨rfl, trivial⟩ ?_
      exact hex
    · rw [if_neg hc7] at h
      refine mx_aload_n (mx_d tX12_leaf_1 19 rfl) rfl rfl ?_
      refine mx_getR (mx_d tX12_leaf_1 20 rfl) fX12_145 rfl rfl (ly12_o g0) (ly12_r34 g0) ?_
      refine mx_aload_n (mx_d tX12_leaf_1 21 rfl) rfl rfl ?_
      refine mx_getR (mx_d tX12_leaf_1 22 rfl) fX12_98 rfl rfl (ly12_o g0) (ly12_r14 g0) ?_
      refine mx_iconst (3) (mx_d tX12_leaf_1 23 rfl) (by decide) ?_
      refine mx_iload_n (mx_d tX12_leaf_1 24 rfl) rfl rfl ?_
      refine mx_iadd (mx_d tX12_leaf_1 25 rfl) ?_
      obtain ⟨hi8, h⟩ := mx_chkE h
      refine mx_iaload (mx_d tX12_leaf_1 26 rfl) (ly12_s14 g0) (mx_inbE hi8) ?_
      obtain ⟨hi9, h⟩ := mx_chkE h
      refine mx_iaload (mx_d tX12_leaf_1 27 rfl) (ly12_s34 g0) (mx_inbE hi9) ?_
      refine mx_aload_n (mx_d tX12_leaf_1 28 rfl) rfl rfl ?_
      refine mx_getR (mx_d tX12_leaf_1 29 rfl) fX12_98 rfl rfl (ly12_o g0) (ly12_r14 g0) ?_
      refine mx_bipush (33) (mx_d tX12_leaf_1 30 rfl) (by decide) ?_
      refine mx_iload_n (mx_d tX12_leaf_1 31 rfl) rfl rfl ?_
      refine mx_iadd (mx_d tX12_leaf_1 32 rfl) ?_
      obtain ⟨hi10, h⟩ := mx_chkE h
      refine mx_iaload (mx_d tX12_leaf_1 33 rfl) (ly12_s14 g0) (mx_inbE hi10) ?_
      refine mx_icmp_ne (tgt := 166) (mx_d tX12_leaf_1 34 rfl) (by decide) (fun hc11 => ?_) (fun hc11 => ?_)
      · rw [if_neg hc11] at h
        obtain ⟨v12, e_v12, h⟩ := mx_letE h
        refine mx_iinc v12 (L2 := [.ref q0, .float 0, .float 0, .int v12]) (mx_d tX12_leaf_1 43 rfl) rfl (by rw [e_v12]; rfl) (by decide) rfl ?_
        refine mx_goto (tgt := 121) (mx_d tX12_leaf_1 44 rfl) (by decide) ?_
        exact ih h hex
      · rw [if_pos hc11] at h
        refine mx_aload_n (mx_d tX12_leaf_1 35 rfl) rfl rfl ?_
        refine mx_getR (mx_d tX12_leaf_1 36 rfl) fX12_160 rfl rfl (ly12_o g0) (ly12_r39 g0) ?_
        refine mx_iload_n (mx_d tX12_leaf_1 37 rfl) rfl rfl ?_
        refine mx_dup2 (mx_d tX12_leaf_1 38 rfl) rfl rfl ?_
        obtain ⟨hi13, h⟩ := mx_chkE h
        refine mx_iaload (mx_d tX12_leaf_1 39 rfl) (ly12_s39 g0) (mx_inbE hi13) ?_
        refine mx_iconst (1) (mx_d tX12_leaf_1 40 rfl) (by decide) ?_
        refine mx_iadd (mx_d tX12_leaf_1 41 rfl) ?_
        obtain ⟨m14, e_m14, h⟩ := mx_letE h
        refine mx_iastore (mx_d tX12_leaf_1 42 rfl) (ly12_s39 g0) (mx_inbE hi13) (mx_eqz (z' := (e, m14)) (by rw [e_m14]) ?_)
        obtain ⟨v15, e_v15, h⟩ := mx_letE h
        refine mx_iinc v15 (L2 := [.ref q0, .float 0, .float 0, .int v15]) (mx_d tX12_leaf_1 43 rfl) rfl (by rw [e_v15]; rfl) (by decide) rfl ?_
        refine mx_goto (tgt := 121) (mx_d tX12_leaf_1 44 rfl) (by decide) ?_
        exact ih h hex
def FX12_leaf_L192 (q0 : Nat) : Nat → Int32 → mB → Option (mB)
  | 0, _, _ => none
  | f + 1, y3, m => (if (m.1 (q0 + 2) 0) ≤ y3 then (some (m)) else mx_chk (mx_inb y3 10) (mx_chk (mx_inb (((11 * y3) + (m.1 (q0 + 16) (Int32.toNatClampNeg y3))) + 1) 110) (mx_let (mx_up m.1 (q0 + 22) (Int32.toNatClampNeg (((11 * y3) + (m.1 (q0 + 16) (Int32.toNatClampNeg y3))) + 1)) ((m.1 (q0 + 22) (Int32.toNatClampNeg (((11 * y3) + (m.1 (q0 + 16) (Int32.toNatClampNeg y3))) + 1))) + 1), m.2) (fun m23 => mx_let (y3 + 1) (fun v24 => (FX12_leaf_L192 q0 f v24 m23))))))
set_option maxRecDepth 20000 in
theorem CX12_leaf_L192 {G : mG} {l : Launch} {e : mE} {Post : Option Value → mS → Prop} {q0 : Nat} (g0 : ly12 e q0) : ∀ (f : Nat) {y3 : Int32} {m : mB} {q : (mB)}, FX12_leaf_L192 q0 f y3 m = some q → (mx_Fr G l MX12_leaf 2 0 0 Post 230 [.float 0, .float 0, .float 0, .float 0] [] (e, q)) → mx_Fr G l MX12_leaf 2 0 0 Post 192 [.ref q0, .float 0, .float 0, .int y3] [] (e, m) := by
  intro f
  induction f with
  | zero => intro _ _ _ h; cases h
  | succ f ih =>
    intro y3 m q h hex
    rw [FX12_leaf_L192] at h
    refine mx_iload_n (mx_d tX12_leaf_1 57 rfl) rfl rfl ?_
    refine mx_aload_n (mx_d tX12_leaf_1 58 rfl) rfl rfl ?_
    refine mx_getR (mx_d tX12_leaf_1 59 rfl) fX12_98 rfl rfl (ly12_o g0) (ly12_r14 g0) ?_
    refine mx_iconst (0) (mx_d tX12_leaf_2 0 rfl) (by decide) ?_
    refine mx_ialoadC 0 (mx_d tX12_leaf_2 1 rfl) (ly12_s14 g0) (by decide) (mx_inbE (by decide)) ?_
    refine mx_icmp_ge (tgt := 230) (mx_d tX12_leaf_2 2 rfl) (by decide) (fun hc20 => ?_) (fun hc20 => ?_)
    · rw [if_pos hc20] at h
      obtain rfl := Option.some.inj h
      refine mx_forget (L' := [.float 0, .float 0, .float 0, .float 0]) trivial ?_
      exact hex
    · rw [if_neg hc20] at h
      refine mx_aload_n (mx_d tX12_leaf_2 3 rfl) rfl rfl ?_
      refine mx_getR (mx_d tX12_leaf_2 4 rfl) fX12_163 rfl rfl (ly12_o g0) (ly12_r40 g0) ?_
      refine mx_bipush (11) (mx_d tX12_leaf_2 5 rfl) (by decide) ?_
      refine mx_iload_n (mx_d tX12_leaf_2 6 rfl) rfl rfl ?_
      refine mx_imul (mx_d tX12_leaf_2 7 rfl) ?_
      refine mx_aload_n (mx_d tX12_leaf_2 8 rfl) rfl rfl ?_
      refine mx_getR (mx_d tX12_leaf_2 9 rfl) fX12_145 rfl rfl (ly12_o g0) (ly12_r34 g0) ?_
      refine mx_iload_n (mx_d tX12_leaf_2 10 rfl) rfl rfl ?_
      obtain ⟨hi21, h⟩ := mx_chkE h
      refine mx_iaload (mx_d tX12_leaf_2 11 rfl) (ly12_s34 g0) (mx_inbE hi21) ?_
      refine mx_iadd (mx_d tX12_leaf_2 12 rfl) ?_
      refine mx_iconst (1) (mx_d tX12_leaf_2 13 rfl) (by decide) ?_
      refine mx_iadd (mx_d tX12_leaf_2 14 rfl) ?_
      refine mx_dup2 (mx_d tX12_leaf_2 15 rfl) rfl rfl ?_
      obtain ⟨hi22, h⟩ := mx_chkE h
      refine mx_iaload (mx_d tX12_leaf_2 16 rfl) (ly12_s40 g0) (mx_inbE hi22) ?_
      refine mx_iconst (1) (mx_d tX12_leaf_2 17 rfl) (by decide) ?_
      refine mx_iadd (mx_d tX12_leaf_2 18 rfl) ?_
      obtain ⟨m23, e_m23, h⟩ := mx_letE h
      refine mx_iastore (mx_d tX12_leaf_2 19 rfl) (ly12_s40 g0) (mx_inbE hi22) (mx_eqz (z' := (e, m23)) (by rw [e_m23]) ?_)
      obtain ⟨v24, e_v24, h⟩ := mx_letE h
      refine mx_iinc v24 (L2 := [.ref q0, .float 0, .float 0, .int v24]) (mx_d tX12_leaf_2 20 rfl) rfl (by rw [e_v24]; rfl) (by decide) rfl ?_
      refine mx_goto (tgt := 192) (mx_d tX12_leaf_2 21 rfl) (by decide) ?_
      exact ih h hex
def FX12_leaf_L50 (q0 : Nat) : Nat → Int32 → mB → Option (mB)
  | 0, _, _ => none
  | f + 1, y3, m => (if (m.1 (q0 + 2) 0) ≤ y3 then (some (m)) else mx_chk (mx_inb y3 10) (mx_let (mx_up m.1 (q0 + 17) (Int32.toNatClampNeg y3) (m.1 (q0 + 16) (Int32.toNatClampNeg y3)), m.2) (fun m37 => mx_let (y3 + 1) (fun v38 => (FX12_leaf_L50 q0 f v38 m37)))))
set_option maxRecDepth 20000 in
theorem CX12_leaf_L50 {G : mG} {l : Launch} {e : mE} {Post : Option Value → mS → Prop} {q0 : Nat} (g0 : ly12 e q0) : ∀ (f : Nat) {y3 : Int32} {m : mB} {q : (mB)}, FX12_leaf_L50 q0 f y3 m = some q → (mx_Fr G l MX12_leaf 2 0 0 Post 78 [.float 0, .float 0, .float 0, .float 0] [] (e, q)) → mx_Fr G l MX12_leaf 2 0 0 Post 50 [.ref q0, .float 0, .float 0, .int y3] [] (e, m) := by
  intro f
  induction f with
  | zero => intro _ _ _ h; cases h
  | succ f ih =>
    intro y3 m q h hex
    rw [FX12_leaf_L50] at h
    refine mx_iload_n (mx_d tX12_leaf_0 32 rfl) rfl rfl ?_
    refine mx_aload_n (mx_d tX12_leaf_0 33 rfl) rfl rfl ?_
    refine mx_getR (mx_d tX12_leaf_0 34 rfl) fX12_98 rfl rfl (ly12_o g0) (ly12_r14 g0) ?_
    refine mx_iconst (0) (mx_d tX12_leaf_0 35 rfl) (by decide) ?_
    refine mx_ialoadC 0 (mx_d tX12_leaf_0 36 rfl) (ly12_s14 g0) (by decide) (mx_inbE (by decide)) ?_
    refine mx_icmp_ge (tgt := 78) (mx_d tX12_leaf_0 37 rfl) (by decide) (fun hc35 => ?_) (fun hc35 => ?_)
    · rw [if_pos hc35] at h
      obtain rfl := Option.some.inj h
      refine mx_forget (L' := [.float 0, .float 0, .float 0, .float 0]) trivial ?_
      exact hex
    · rw [if_neg hc35] at h
      refine mx_aload_n (mx_d tX12_leaf_0 38 rfl) rfl rfl ?_
      refine mx_getR (mx_d tX12_leaf_0 39 rfl) fX12_148 rfl rfl (ly12_o g0) (ly12_r35 g0) ?_
      refine mx_iload_n (mx_d tX12_leaf_0 40 rfl) rfl rfl ?_
      refine mx_aload_n (mx_d tX12_leaf_0 41 rfl) rfl rfl ?_
      refine mx_getR (mx_d tX12_leaf_0 42 rfl) fX12_145 rfl rfl (ly12_o g0) (ly12_r34 g0) ?_
      refine mx_iload_n (mx_d tX12_leaf_0 43 rfl) rfl rfl ?_
      obtain ⟨hi36, h⟩ := mx_chkE h
      refine mx_iaload (mx_d tX12_leaf_0 44 rfl) (ly12_s34 g0) (mx_inbE hi36) ?_
      obtain ⟨m37, e_m37, h⟩ := mx_letE h
      refine mx_iastore (mx_d tX12_leaf_0 45 rfl) (ly12_s35 g0) (mx_inbE hi36) (mx_eqz (z' := (e, m37)) (by rw [e_m37]) ?_)
      obtain ⟨v38, e_v38, h⟩ := mx_letE h
      refine mx_iinc v38 (L2 := [.ref q0, .float 0, .float 0, .int v38]) (mx_d tX12_leaf_0 46 rfl) rfl (by rw [e_v38]; rfl) (by decide) rfl ?_
      refine mx_goto (tgt := 50) (mx_d tX12_leaf_0 47 rfl) (by decide) ?_
      exact ih h hex
def FX12_leaf (a : Nat) (x0 : Int32) (x1 : Int32) (m : mB) : Option mB := (if (m.1 a 46) = 0 then mx_chk (mx_inb x1 6) (mx_let (mx_up m.1 (a + 20) (Int32.toNatClampNeg x1) ((m.1 (a + 20) (Int32.toNatClampNeg x1)) + 1), m.2) (fun m29 => mx_let (fun (m31 : mB) => (if (m31.1 a 41) < x0 then mx_let (mx_up m31.1 a 41 x0, m31.2) (fun m34 => Option.bind (FX12_leaf_L50 a mx_FU 0 m34) (fun q39 => (some q39))) else (some m31))) (fun k32 => (if x0 ≤ (m29.1 (a + 19) (Int32.toNatClampNeg x1)) then (k32 m29) else mx_let (mx_up m29.1 (a + 19) (Int32.toNatClampNeg x1) x0, m29.2) (fun m40 => (k32 m40)))))) else mx_let (fun (m3 : mB) => (if x0 = (m3.1 a 41) then mx_let (mx_up m3.1 a 43 ((m3.1 a 43) + 1), m3.2) (fun m6 => Option.bind (FX12_leaf_L121 a mx_FU 0 m6) (fun q16 => Option.bind (FX12_isAsked a q16) (fun r17 => (if r17 = 0 then (some q16) else mx_let (mx_up q16.1 a 44 ((q16.1 a 44) + 1), q16.2) (fun m19 => Option.bind (FX12_leaf_L192 a mx_FU 0 m19) (fun q25 => (some q25))))))) else (some m3))) (fun k4 => (if (m.1 a 41) ≤ x0 then (k4 m) else (if x0 ≤ (m.1 a 42) then (k4 m) else mx_let (mx_up m.1 a 42 x0, m.2) (fun m27 => (k4 m27))))))
set_option maxRecDepth 20000 in
theorem CX12_leaf {G : mG} {l : Launch} {e : mE} {a : Nat} {x0 : Int32} {x1 : Int32} {m : mB} {r : mB} (h0 : ly12 e a) (h : FX12_leaf a x0 x1 m = some r) : mx_Call G l MX12_leaf 2 0 0 [.ref a, .int x0, .int x1] (e, m) (fun v z => v = none ∧ z = (e, r)) := by
  refine mx_entry (L := [.ref a, .int x0, .int x1, .float 0]) (by decide +kernel) (Nat.le_of_ble_eq_true rfl) rfl ?_
  unfold FX12_leaf at h
  refine mx_aload_n (mx_d tX12_leaf_0 0 rfl) rfl rfl ?_
  refine mx_getI (mx_d tX12_leaf_0 1 rfl) fX12_365 rfl (Or.inr rfl) (ly12_o h0) ?_
  refine mx_if_ne (tgt := 79) (mx_d tX12_leaf_0 2 rfl) (by decide) (fun hc1 => ?_) (fun hc1 => ?_)
  · rw [if_neg hc1] at h
    refine mx_iload_n (mx_d tX12_leaf_0 49 rfl) rfl rfl ?_
    refine mx_aload_n (mx_d tX12_leaf_0 50 rfl) rfl rfl ?_
    refine mx_getI (mx_d tX12_leaf_0 51 rfl) fX12_369 rfl (Or.inl rfl) (ly12_o h0) ?_
    refine mx_letK (J := fun k4 => ∀ {m3 : mB}, k4 m3 = some r → mx_Fr G l MX12_leaf 2 0 0 (fun v z => v = none ∧ z = (e, r)) 100 [.ref a, .int x0, .float 0, .float 0] [] (e, m3)) h ?_ (fun k4 j_k4 h => ?_)
    · intro m3 h
      dsimp only at h
      refine mx_iload_n (mx_d tX12_leaf_1 0 rfl) rfl rfl ?_
      refine mx_aload_n (mx_d tX12_leaf_1 1 rfl) rfl rfl ?_
      refine mx_getI (mx_d tX12_leaf_1 2 rfl) fX12_369 rfl (Or.inl rfl) (ly12_o h0) ?_
      refine mx_icmp_eq (tgt := 109) (mx_d tX12_leaf_1 3 rfl) (by decide) (fun hc5 => ?_) (fun hc5 => ?_)
      · rw [if_pos hc5] at h
        refine mx_aload_n (mx_d tX12_leaf_1 5 rfl) rfl rfl ?_
        refine mx_dup (mx_d tX12_leaf_1 6 rfl) rfl ?_
        refine mx_getI (mx_d tX12_leaf_1 7 rfl) fX12_375 rfl (Or.inl rfl) (ly12_o h0) ?_
        refine mx_iconst (1) (mx_d tX12_leaf_1 8 rfl) (by decide) ?_
        refine mx_iadd (mx_d tX12_leaf_1 9 rfl) ?_
        obtain ⟨m6, e_m6, h⟩ := mx_letE h
        refine mx_putI (mx_d tX12_leaf_1 10 rfl) fX12_375 rfl ⟨_, rfl, rfl⟩ rfl (ly12_o h0) (mx_eqz (z' := (e, m6)) (by rw [e_m6]) ?_)
        refine mx_iconst (0) (mx_d tX12_leaf_1 11 rfl) (by decide) ?_
        refine mx_istore_n (L2 := [.ref a, .int x0, .float 0, .int 0]) (mx_d tX12_leaf_1 12 rfl) rfl (by decide) (by rfl) ?_
        obtain ⟨q16, h_q16, h⟩ := Option.bind_eq_some_iff.mp h
        refine mx_forget (L' := [.ref a, .float 0, .float 0, .int 0]) ⟨rfl, rfl, trivial⟩ ?_
        refine CX12_leaf_L121 h0 mx_FU h_q16 ?_
        refine mx_aload_n (mx_d tX12_leaf_1 45 rfl) rfl rfl ?_
        obtain ⟨r17, h_r17, h⟩ := Option.bind_eq_some_iff.mp h
        refine mx_cVi (mx_d tX12_leaf_1 46 rfl) iX12_378 rfl vX12_isAsked ⟨_, rfl, rfl⟩ (ly12_o h0) (CX12_isAsked h0 h_r17) (by decide) rfl rfl (Nat.le_of_ble_eq_true rfl) ?_
        refine mx_if_ne (tgt := 180) (mx_d tX12_leaf_1 47 rfl) (by decide) (fun hc18 => ?_) (fun hc18 => ?_)
        · rw [if_neg hc18] at h
          refine mx_aload_n (mx_d tX12_leaf_1 49 rfl) rfl rfl ?_
          refine mx_dup (mx_d tX12_leaf_1 50 rfl) rfl ?_
          refine mx_getI (mx_d tX12_leaf_1 51 rfl) fX12_381 rfl (Or.inl rfl) (ly12_o h0) ?_
          refine mx_iconst (1) (mx_d tX12_leaf_1 52 rfl) (by decide) ?_
          refine mx_iadd (mx_d tX12_leaf_1 53 rfl) ?_
          obtain ⟨m19, e_m19, h⟩ := mx_letE h
          refine mx_putI (mx_d tX12_leaf_1 54 rfl) fX12_381 rfl ⟨_, rfl, rfl⟩ rfl (ly12_o h0) (mx_eqz (z' := (e, m19)) (by rw [e_m19]) ?_)
          refine mx_iconst (0) (mx_d tX12_leaf_1 55 rfl) (by decide) ?_
          refine mx_istore_n (L2 := [.ref a, .float 0, .float 0, .int 0]) (mx_d tX12_leaf_1 56 rfl) rfl (by decide) (by rfl) ?_
          obtain ⟨q25, h_q25, h⟩ := Option.bind_eq_some_iff.mp h
          refine CX12_leaf_L192 h0 mx_FU h_q25 ?_
          obtain rfl := Option.some.inj h
          exact mx_return (mx_d tX12_leaf_2 22 rfl) rfl ⟨rfl, rfl⟩
        · rw [if_pos hc18] at h
          obtain rfl := Option.some.inj h
          exact mx_return (mx_d tX12_leaf_1 48 rfl) rfl ⟨rfl, rfl⟩
      · rw [if_neg hc5] at h
        obtain rfl := Option.some.inj h
        exact mx_return (mx_d tX12_leaf_1 4 rfl) rfl ⟨rfl, rfl⟩
    refine mx_icmp_ge (tgt := 100) (mx_d tX12_leaf_0 52 rfl) (by decide) (fun hc2 => ?_) (fun hc2 => ?_)
    · rw [if_pos hc2] at h
      refine mx_forget (L' := [.ref a, .int x0, .float 0, .float 0]) ⟨rfl, rfl, trivial⟩ ?_
      exact j_k4 h
    · rw [if_neg hc2] at h
      refine mx_iload_n (mx_d tX12_leaf_0 53 rfl) rfl rfl ?_
      refine mx_aload_n (mx_d tX12_leaf_0 54 rfl) rfl rfl ?_
      refine mx_getI (mx_d tX12_leaf_0 55 rfl) fX12_372 rfl (Or.inl rfl) (ly12_o h0) ?_
      refine mx_icmp_le (tgt := 100) (mx_d tX12_leaf_0 56 rfl) (by decide) (fun hc26 => ?_) (fun hc26 => ?_)
      · rw [if_pos hc26] at h
        refine mx_forget (L' := [.ref a, .int x0, .float 0, .float 0]) ⟨rfl, rfl, trivial⟩ ?_
        exact j_k4 h
      · rw [if_neg hc26] at h
        refine mx_aload_n (mx_d tX12_leaf_0 57 rfl) rfl rfl ?_
        refine mx_iload_n (mx_d tX12_leaf_0 58 rfl) rfl rfl ?_
        obtain ⟨m27, e_m27, h⟩ := mx_letE h
        refine mx_putI (mx_d tX12_leaf_0 59 rfl) fX12_372 rfl ⟨_, rfl, rfl⟩ rfl (ly12_o h0) (mx_eqz (z' := (e, m27)) (by rw [e_m27]) ?_)
        refine mx_forget (L' := [.ref a, .int x0, .float 0, .float 0]) ⟨rfl, rfl, trivial⟩ ?_
        exact j_k4 h
  · rw [if_pos hc1] at h
    refine mx_aload_n (mx_d tX12_leaf_0 3 rfl) rfl rfl ?_
    refine mx_getR (mx_d tX12_leaf_0 4 rfl) fX12_157 rfl rfl (ly12_o h0) (ly12_r38 h0) ?_
    refine mx_iload_n (mx_d tX12_leaf_0 5 rfl) rfl rfl ?_
    refine mx_dup2 (mx_d tX12_leaf_0 6 rfl) rfl rfl ?_
    obtain ⟨hi28, h⟩ := mx_chkE h
    refine mx_iaload (mx_d tX12_leaf_0 7 rfl) (ly12_s38 h0) (mx_inbE hi28) ?_
    refine mx_iconst (1) (mx_d tX12_leaf_0 8 rfl) (by decide) ?_
    refine mx_iadd (mx_d tX12_leaf_0 9 rfl) ?_
    obtain ⟨m29, e_m29, h⟩ := mx_letE h
    refine mx_iastore (mx_d tX12_leaf_0 10 rfl) (ly12_s38 h0) (mx_inbE hi28) (mx_eqz (z' := (e, m29)) (by rw [e_m29]) ?_)
    refine mx_iload_n (mx_d tX12_leaf_0 11 rfl) rfl rfl ?_
    refine mx_aload_n (mx_d tX12_leaf_0 12 rfl) rfl rfl ?_
    refine mx_getR (mx_d tX12_leaf_0 13 rfl) fX12_154 rfl rfl (ly12_o h0) (ly12_r37 h0) ?_
    refine mx_iload_n (mx_d tX12_leaf_0 14 rfl) rfl rfl ?_
    refine mx_iaload (mx_d tX12_leaf_0 15 rfl) (ly12_s37 h0) (mx_inbE hi28) ?_
    refine mx_letK (J := fun k32 => ∀ {m31 : mB}, k32 m31 = some r → mx_Fr G l MX12_leaf 2 0 0 (fun v z => v = none ∧ z = (e, r)) 34 [.ref a, .int x0, .float 0, .float 0] [] (e, m31)) h ?_ (fun k32 j_k32 h => ?_)
    · intro m31 h
      dsimp only at h
      refine mx_iload_n (mx_d tX12_leaf_0 22 rfl) rfl rfl ?_
      refine mx_aload_n (mx_d tX12_leaf_0 23 rfl) rfl rfl ?_
      refine mx_getI (mx_d tX12_leaf_0 24 rfl) fX12_369 rfl (Or.inl rfl) (ly12_o h0) ?_
      refine mx_icmp_gt (tgt := 43) (mx_d tX12_leaf_0 25 rfl) (by decide) (fun hc33 => ?_) (fun hc33 => ?_)
      · rw [if_pos hc33] at h
        refine mx_aload_n (mx_d tX12_leaf_0 27 rfl) rfl rfl ?_
        refine mx_iload_n (mx_d tX12_leaf_0 28 rfl) rfl rfl ?_
        obtain ⟨m34, e_m34, h⟩ := mx_letE h
        refine mx_putI (mx_d tX12_leaf_0 29 rfl) fX12_369 rfl ⟨_, rfl, rfl⟩ rfl (ly12_o h0) (mx_eqz (z' := (e, m34)) (by rw [e_m34]) ?_)
        refine mx_iconst (0) (mx_d tX12_leaf_0 30 rfl) (by decide) ?_
        refine mx_istore_n (L2 := [.ref a, .int x0, .float 0, .int 0]) (mx_d tX12_leaf_0 31 rfl) rfl (by decide) (by rfl) ?_
        obtain ⟨q39, h_q39, h⟩ := Option.bind_eq_some_iff.mp h
        refine mx_forget (L' := [.ref a, .float 0, .float 0, .int 0]) ⟨rfl, rfl, trivial⟩ ?_
        refine CX12_leaf_L50 h0 mx_FU h_q39 ?_
        obtain rfl := Option.some.inj h
        exact mx_return (mx_d tX12_leaf_0 48 rfl) rfl ⟨rfl, rfl⟩
      · rw [if_neg hc33] at h
        obtain rfl := Option.some.inj h
        exact mx_return (mx_d tX12_leaf_0 26 rfl) rfl ⟨rfl, rfl⟩
    refine mx_icmp_le (tgt := 34) (mx_d tX12_leaf_0 16 rfl) (by decide) (fun hc30 => ?_) (fun hc30 => ?_)
    · rw [if_pos hc30] at h
      refine mx_forget (L' := [.ref a, .int x0, .float 0, .float 0]) ⟨rfl, rfl, trivial⟩ ?_
      exact j_k32 h
    · rw [if_neg hc30] at h
      refine mx_aload_n (mx_d tX12_leaf_0 17 rfl) rfl rfl ?_
      refine mx_getR (mx_d tX12_leaf_0 18 rfl) fX12_154 rfl rfl (ly12_o h0) (ly12_r37 h0) ?_
      refine mx_iload_n (mx_d tX12_leaf_0 19 rfl) rfl rfl ?_
      refine mx_iload_n (mx_d tX12_leaf_0 20 rfl) rfl rfl ?_
      obtain ⟨m40, e_m40, h⟩ := mx_letE h
      refine mx_iastore (mx_d tX12_leaf_0 21 rfl) (ly12_s37 h0) (mx_inbE hi28) (mx_eqz (z' := (e, m40)) (by rw [e_m40]) ?_)
      refine mx_forget (L' := [.ref a, .int x0, .float 0, .float 0]) ⟨rfl, rfl, trivial⟩ ?_
      exact j_k32 h
def FX12_walk_L3 (rec : Nat → Int32 → Int32 → Int32 → mB → Option mB) (q0 : Nat) (y2 : Int32) (y3 : Int32) (m : mB) : Nat → Int32 → Option (Int32)
  | 0, _ => none
  | f + 1, y4 => (if (m.1 (q0 + 2) 0) ≤ y4 then (some (y4)) else mx_chk (mx_inb y4 10) ((if (m.1 (q0 + 16) (Int32.toNatClampNeg y4)) = (-1) then (some (y4)) else mx_let (y4 + 1) (fun v4 => (FX12_walk_L3 rec q0 y2 y3 m f v4)))))
set_option maxRecDepth 20000 in
theorem CX12_walk_L3 {G : mG} {l : Launch} {e : mE} {Post : Option Value → mS → Prop} {rec : Nat → Int32 → Int32 → Int32 → mB → Option mB} {D : Nat} {q0 : Nat} {y2 : Int32} {y3 : Int32} {m : mB} (hrec : ∀ {a : Nat} {x0 : Int32} {x1 : Int32} {x2 : Int32} {m : mB} {r : mB}, ly12 e a → rec a x0 x1 x2 m = some r → mx_Call G l MX12_walk D 0 0 [.ref a, .int x0, .int x1, .int x2] (e, m) (fun v z => v = none ∧ z = (e, r))) (g0 : ly12 e q0) : ∀ (f : Nat) {y4 : Int32} {q : (Int32)}, FX12_walk_L3 rec q0 y2 y3 m f y4 = some q → (mx_Fr G l MX12_walk (D + 4) 0 0 Post 31 [.ref q0, .float 0, .int y2, .int y3, .int q, .float 0] [] (e, m)) → mx_Fr G l MX12_walk (D + 4) 0 0 Post 3 [.ref q0, .float 0, .int y2, .int y3, .int y4, .float 0] [] (e, m) := by
  intro f
  induction f with
  | zero => intro _ _ h; cases h
  | succ f ih =>
    intro y4 q h hex
    rw [FX12_walk_L3] at h
    refine mx_iload (mx_d tX12_walk_0 2 rfl) rfl ?_
    refine mx_aload_n (mx_d tX12_walk_0 3 rfl) rfl rfl ?_
    refine mx_getR (mx_d tX12_walk_0 4 rfl) fX12_98 rfl rfl (ly12_o g0) (ly12_r14 g0) ?_
    refine mx_iconst (0) (mx_d tX12_walk_0 5 rfl) (by decide) ?_
    refine mx_ialoadC 0 (mx_d tX12_walk_0 6 rfl) (ly12_s14 g0) (by decide) (mx_inbE (by decide)) ?_
    refine mx_icmp_ge (tgt := 31) (mx_d tX12_walk_0 7 rfl) (by decide) (fun hc1 => ?_) (fun hc1 => ?_)
    · rw [if_pos hc1] at h
      obtain rfl := Option.some.inj h
      exact hex
    · rw [if_neg hc1] at h
      refine mx_aload_n (mx_d tX12_walk_0 8 rfl) rfl rfl ?_
      refine mx_getR (mx_d tX12_walk_0 9 rfl) fX12_145 rfl rfl (ly12_o g0) (ly12_r34 g0) ?_
      refine mx_iload (mx_d tX12_walk_0 10 rfl) rfl ?_
      obtain ⟨hi2, h⟩ := mx_chkE h
      refine mx_iaload (mx_d tX12_walk_0 11 rfl) (ly12_s34 g0) (mx_inbE hi2) ?_
      refine mx_iconst ((-1)) (mx_d tX12_walk_0 12 rfl) (by decide) ?_
      refine mx_icmp_eq (tgt := 31) (mx_d tX12_walk_0 13 rfl) (by decide) (fun hc3 => ?_) (fun hc3 => ?_)
      · rw [if_pos hc3] at h
        obtain rfl := Option.some.inj h
        exact hex
      · rw [if_neg hc3] at h
        obtain ⟨v4, e_v4, h⟩ := mx_letE h
        refine mx_iinc v4 (L2 := [.ref q0, .float 0, .int y2, .int y3, .int v4, .float 0]) (mx_d tX12_walk_0 14 rfl) rfl (by rw [e_v4]; rfl) (by decide) rfl ?_
        refine mx_goto (tgt := 3) (mx_d tX12_walk_0 15 rfl) (by decide) ?_
        exact ih h hex
def FX12_walk_L55 (rec : Nat → Int32 → Int32 → Int32 → mB → Option mB) (q0 : Nat) (y2 : Int32) (y3 : Int32) (y4 : Int32) : Nat → Int32 → mB → Option (mB)
  | 0, _, _ => none
  | f + 1, y5, m => (if (m.1 (q0 + 2) 0) ≤ y5 then (some (m)) else mx_chk (mx_inb y5 10) ((if (m.1 (q0 + 16) (Int32.toNatClampNeg y5)) = (-1) then Option.bind (FX12_areLinked q0 y4 y5 m) (fun r12 => (if r12 = 0 then mx_let (y5 + 1) (fun v23 => (FX12_walk_L55 rec q0 y2 y3 y4 f v23 m)) else mx_chk (mx_inb y4 10) (mx_let (mx_up m.1 (q0 + 16) (Int32.toNatClampNeg y4) y5, m.2) (fun m14 => mx_let (mx_up m14.1 (q0 + 16) (Int32.toNatClampNeg y5) y4, m14.2) (fun m16 => Option.bind (FX12_between q0 y4 y5 m16) (fun r17 => mx_chk (mx_inb (128 + r17) 432) (Option.bind (rec q0 (y4 + 1) (y2 + (m16.1 (q0 + 2) (Int32.toNatClampNeg (128 + r17)))) (y3 + 1) m16) (fun r19 => mx_let (mx_up r19.1 (q0 + 16) (Int32.toNatClampNeg y4) (-1), r19.2) (fun m20 => mx_let (mx_up m20.1 (q0 + 16) (Int32.toNatClampNeg y5) (-1), m20.2) (fun m21 => mx_let (y5 + 1) (fun v22 => (FX12_walk_L55 rec q0 y2 y3 y4 f v22 m21)))))))))))) else mx_let (y5 + 1) (fun v11 => (FX12_walk_L55 rec q0 y2 y3 y4 f v11 m)))))
set_option maxRecDepth 20000 in
theorem CX12_walk_L55 {G : mG} {l : Launch} {e : mE} {Post : Option Value → mS → Prop} {rec : Nat → Int32 → Int32 → Int32 → mB → Option mB} {D : Nat} {q0 : Nat} {y2 : Int32} {y3 : Int32} {y4 : Int32} (hrec : ∀ {a : Nat} {x0 : Int32} {x1 : Int32} {x2 : Int32} {m : mB} {r : mB}, ly12 e a → rec a x0 x1 x2 m = some r → mx_Call G l MX12_walk D 0 0 [.ref a, .int x0, .int x1, .int x2] (e, m) (fun v z => v = none ∧ z = (e, r))) (g0 : ly12 e q0) : ∀ (f : Nat) {y5 : Int32} {m : mB} {q : (mB)}, FX12_walk_L55 rec q0 y2 y3 y4 f y5 m = some q → (mx_Fr G l MX12_walk (D + 4) 0 0 Post 161 [.ref q0, .float 0, .int y2, .int y3, .int y4, .float 0] [] (e, q)) → mx_Fr G l MX12_walk (D + 4) 0 0 Post 55 [.ref q0, .float 0, .int y2, .int y3, .int y4, .int y5] [] (e, m) := by
  intro f
  induction f with
  | zero => intro _ _ _ h; cases h
  | succ f ih =>
    intro y5 m q h hex
    rw [FX12_walk_L55] at h
    refine mx_iload (mx_d tX12_walk_0 31 rfl) rfl ?_
    refine mx_aload_n (mx_d tX12_walk_0 32 rfl) rfl rfl ?_
    refine mx_getR (mx_d tX12_walk_0 33 rfl) fX12_98 rfl rfl (ly12_o g0) (ly12_r14 g0) ?_
    refine mx_iconst (0) (mx_d tX12_walk_0 34 rfl) (by decide) ?_
    refine mx_ialoadC 0 (mx_d tX12_walk_0 35 rfl) (ly12_s14 g0) (by decide) (mx_inbE (by decide)) ?_
    refine mx_icmp_ge (tgt := 161) (mx_d tX12_walk_0 36 rfl) (by decide) (fun hc8 => ?_) (fun hc8 => ?_)
    · rw [if_pos hc8] at h
      obtain rfl := Option.some.inj h
      refine mx_forget (L' := [.ref q0, .float 0, .int y2, .int y3, .int y4, .float 0]) ⟨rfl, rfl, rfl, rfl, trivial⟩ ?_
      exact hex
    · rw [if_neg hc8] at h
      refine mx_aload_n (mx_d tX12_walk_0 37 rfl) rfl rfl ?_
      refine mx_getR (mx_d tX12_walk_0 38 rfl) fX12_145 rfl rfl (ly12_o g0) (ly12_r34 g0) ?_
      refine mx_iload (mx_d tX12_walk_0 39 rfl) rfl ?_
      obtain ⟨hi9, h⟩ := mx_chkE h
      refine mx_iaload (mx_d tX12_walk_0 40 rfl) (ly12_s34 g0) (mx_inbE hi9) ?_
      refine mx_iconst ((-1)) (mx_d tX12_walk_0 41 rfl) (by decide) ?_
      refine mx_icmp_ne (tgt := 155) (mx_d tX12_walk_0 42 rfl) (by decide) (fun hc10 => ?_) (fun hc10 => ?_)
      · rw [if_neg hc10] at h
        obtain ⟨v11, e_v11, h⟩ := mx_letE h
        refine mx_iinc v11 (L2 := [.ref q0, .float 0, .int y2, .int y3, .int y4, .int v11]) (mx_d tX12_walk_1 28 rfl) rfl (by rw [e_v11]; rfl) (by decide) rfl ?_
        refine mx_goto (tgt := 55) (mx_d tX12_walk_1 29 rfl) (by decide) ?_
        exact ih h hex
      · rw [if_pos hc10] at h
        refine mx_aload_n (mx_d tX12_walk_0 43 rfl) rfl rfl ?_
        refine mx_iload (mx_d tX12_walk_0 44 rfl) rfl ?_
        refine mx_iload (mx_d tX12_walk_0 45 rfl) rfl ?_
        obtain ⟨r12, h_r12, h⟩ := Option.bind_eq_some_iff.mp h
        refine mx_cVi (mx_d tX12_walk_0 46 rfl) iX12_300 rfl vX12_areLinked ⟨_, rfl, rfl⟩ (ly12_o g0) (CX12_areLinked g0 h_r12) (by omega) rfl rfl (Nat.le_of_ble_eq_true rfl) ?_
        refine mx_if_ne (tgt := 91) (mx_d tX12_walk_0 47 rfl) (by decide) (fun hc13 => ?_) (fun hc13 => ?_)
        · rw [if_neg hc13] at h
          refine mx_aload_n (mx_d tX12_walk_0 49 rfl) rfl rfl ?_
          refine mx_getR (mx_d tX12_walk_0 50 rfl) fX12_145 rfl rfl (ly12_o g0) (ly12_r34 g0) ?_
          refine mx_iload (mx_d tX12_walk_0 51 rfl) rfl ?_
          refine mx_iload (mx_d tX12_walk_0 52 rfl) rfl ?_
          obtain ⟨hi15, h⟩ := mx_chkE h
          obtain ⟨m14, e_m14, h⟩ := mx_letE h
          refine mx_iastore (mx_d tX12_walk_0 53 rfl) (ly12_s34 g0) (mx_inbE hi15) (mx_eqz (z' := (e, m14)) (by rw [e_m14]) ?_)
          refine mx_aload_n (mx_d tX12_walk_0 54 rfl) rfl rfl ?_
          refine mx_getR (mx_d tX12_walk_0 55 rfl) fX12_145 rfl rfl (ly12_o g0) (ly12_r34 g0) ?_
          refine mx_iload (mx_d tX12_walk_0 56 rfl) rfl ?_
          refine mx_iload (mx_d tX12_walk_0 57 rfl) rfl ?_
          obtain ⟨m16, e_m16, h⟩ := mx_letE h
          refine mx_iastore (mx_d tX12_walk_0 58 rfl) (ly12_s34 g0) (mx_inbE hi9) (mx_eqz (z' := (e, m16)) (by rw [e_m16]) ?_)
          refine mx_aload_n (mx_d tX12_walk_0 59 rfl) rfl rfl ?_
          refine mx_iload (mx_d tX12_walk_1 0 rfl) rfl ?_
          refine mx_iconst (1) (mx_d tX12_walk_1 1 rfl) (by decide) ?_
          refine mx_iadd (mx_d tX12_walk_1 2 rfl) ?_
          refine mx_iload_n (mx_d tX12_walk_1 3 rfl) rfl rfl ?_
          refine mx_aload_n (mx_d tX12_walk_1 4 rfl) rfl rfl ?_
          refine mx_getR (mx_d tX12_walk_1 5 rfl) fX12_98 rfl rfl (ly12_o g0) (ly12_r14 g0) ?_
          refine mx_sipush (128) (mx_d tX12_walk_1 6 rfl) (by decide) ?_
          refine mx_aload_n (mx_d tX12_walk_1 7 rfl) rfl rfl ?_
          refine mx_iload (mx_d tX12_walk_1 8 rfl) rfl ?_
          refine mx_iload (mx_d tX12_walk_1 9 rfl) rfl ?_
          obtain ⟨r17, h_r17, h⟩ := Option.bind_eq_some_iff.mp h
          refine mx_cVi (mx_d tX12_walk_1 10 rfl) iX12_250 rfl vX12_between ⟨_, rfl, rfl⟩ (ly12_o g0) (CX12_between g0 h_r17) (by omega) rfl rfl (Nat.le_of_ble_eq_true rfl) ?_
          refine mx_iadd (mx_d tX12_walk_1 11 rfl) ?_
          obtain ⟨hi18, h⟩ := mx_chkE h
          refine mx_iaload (mx_d tX12_walk_1 12 rfl) (ly12_s14 g0) (mx_inbE hi18) ?_
          refine mx_iadd (mx_d tX12_walk_1 13 rfl) ?_
          refine mx_iload_n (mx_d tX12_walk_1 14 rfl) rfl rfl ?_
          refine mx_iconst (1) (mx_d tX12_walk_1 15 rfl) (by decide) ?_
          refine mx_iadd (mx_d tX12_walk_1 16 rfl) ?_
          obtain ⟨r19, h_r19, h⟩ := Option.bind_eq_some_iff.mp h
          refine mx_cVv (mx_d tX12_walk_1 17 rfl) iX12_388 rfl vX12_walk ⟨_, rfl, rfl⟩ (ly12_o g0) (hrec g0 h_r19) (by omega) rfl rfl (Nat.le_of_ble_eq_true rfl) ?_
          refine mx_aload_n (mx_d tX12_walk_1 18 rfl) rfl rfl ?_
          refine mx_getR (mx_d tX12_walk_1 19 rfl) fX12_145 rfl rfl (ly12_o g0) (ly12_r34 g0) ?_
          refine mx_iload (mx_d tX12_walk_1 20 rfl) rfl ?_
          refine mx_iconst ((-1)) (mx_d tX12_walk_1 21 rfl) (by decide) ?_
          obtain ⟨m20, e_m20, h⟩ := mx_letE h
          refine mx_iastore (mx_d tX12_walk_1 22 rfl) (ly12_s34 g0) (mx_inbE hi15) (mx_eqz (z' := (e, m20)) (by rw [e_m20]) ?_)
          refine mx_aload_n (mx_d tX12_walk_1 23 rfl) rfl rfl ?_
          refine mx_getR (mx_d tX12_walk_1 24 rfl) fX12_145 rfl rfl (ly12_o g0) (ly12_r34 g0) ?_
          refine mx_iload (mx_d tX12_walk_1 25 rfl) rfl ?_
          refine mx_iconst ((-1)) (mx_d tX12_walk_1 26 rfl) (by decide) ?_
          obtain ⟨m21, e_m21, h⟩ := mx_letE h
          refine mx_iastore (mx_d tX12_walk_1 27 rfl) (ly12_s34 g0) (mx_inbE hi9) (mx_eqz (z' := (e, m21)) (by rw [e_m21]) ?_)
          obtain ⟨v22, e_v22, h⟩ := mx_letE h
          refine mx_iinc v22 (L2 := [.ref q0, .float 0, .int y2, .int y3, .int y4, .int v22]) (mx_d tX12_walk_1 28 rfl) rfl (by rw [e_v22]; rfl) (by decide) rfl ?_
          refine mx_goto (tgt := 55) (mx_d tX12_walk_1 29 rfl) (by decide) ?_
          exact ih h hex
        · rw [if_pos hc13] at h
          refine mx_goto (tgt := 155) (mx_d tX12_walk_0 48 rfl) (by decide) ?_
          obtain ⟨v23, e_v23, h⟩ := mx_letE h
          refine mx_iinc v23 (L2 := [.ref q0, .float 0, .int y2, .int y3, .int y4, .int v23]) (mx_d tX12_walk_1 28 rfl) rfl (by rw [e_v23]; rfl) (by decide) rfl ?_
          refine mx_goto (tgt := 55) (mx_d tX12_walk_1 29 rfl) (by decide) ?_
          exact ih h hex
def FX12_walk_B (rec : Nat → Int32 → Int32 → Int32 → mB → Option mB) (a : Nat) (x0 : Int32) (x1 : Int32) (x2 : Int32) (m : mB) : Option mB := Option.bind (FX12_walk_L3 rec a x1 x2 m mx_FU x0) (fun q5 => (if q5 = (m.1 (a + 2) 0) then Option.bind (FX12_leaf a x1 x2 m) (fun r26 => (some r26)) else mx_let (q5 + 1) (fun v7 => Option.bind (FX12_walk_L55 rec a x1 x2 q5 mx_FU v7 m) (fun q24 => Option.bind (rec a (q5 + 1) x1 x2 q24) (fun r25 => (some r25))))))
def FX12_walk : Nat → Nat → Int32 → Int32 → Int32 → mB → Option mB
  | 0, _, _, _, _, _ => none
  | D + 1, a, x0, x1, x2, m => FX12_walk_B (FX12_walk D) a x0 x1 x2 m
set_option maxRecDepth 20000 in
theorem CX12_walk_B {G : mG} {l : Launch} {e : mE} {rec : Nat → Int32 → Int32 → Int32 → mB → Option mB} {D : Nat} {a : Nat} {x0 : Int32} {x1 : Int32} {x2 : Int32} {m : mB} {r : mB} (hrec : ∀ {a : Nat} {x0 : Int32} {x1 : Int32} {x2 : Int32} {m : mB} {r : mB}, ly12 e a → rec a x0 x1 x2 m = some r → mx_Call G l MX12_walk D 0 0 [.ref a, .int x0, .int x1, .int x2] (e, m) (fun v z => v = none ∧ z = (e, r))) (h0 : ly12 e a) (h : FX12_walk_B rec a x0 x1 x2 m = some r) : mx_Call G l MX12_walk (D + 4) 0 0 [.ref a, .int x0, .int x1, .int x2] (e, m) (fun v z => v = none ∧ z = (e, r)) := by
  refine mx_entry (L := [.ref a, .int x0, .int x1, .int x2, .float 0, .float 0]) (by decide +kernel) (Nat.le_of_ble_eq_true rfl) rfl ?_
  unfold FX12_walk_B at h
  refine mx_iload_n (mx_d tX12_walk_0 0 rfl) rfl rfl ?_
  refine mx_istore (L2 := [.ref a, .int x0, .int x1, .int x2, .int x0, .float 0]) (mx_d tX12_walk_0 1 rfl) (by decide) (by rfl) ?_
  obtain ⟨q5, h_q5, h⟩ := Option.bind_eq_some_iff.mp h
  refine mx_forget (L' := [.ref a, .float 0, .int x1, .int x2, .int x0, .float 0]) ⟨rfl, rfl, rfl, rfl, trivial⟩ ?_
  refine CX12_walk_L3 hrec h0 mx_FU h_q5 ?_
  refine mx_iload (mx_d tX12_walk_0 16 rfl) rfl ?_
  refine mx_aload_n (mx_d tX12_walk_0 17 rfl) rfl rfl ?_
  refine mx_getR (mx_d tX12_walk_0 18 rfl) fX12_98 rfl rfl (ly12_o h0) (ly12_r14 h0) ?_
  refine mx_iconst (0) (mx_d tX12_walk_0 19 rfl) (by decide) ?_
  refine mx_ialoadC 0 (mx_d tX12_walk_0 20 rfl) (ly12_s14 h0) (by decide) (mx_inbE (by decide)) ?_
  refine mx_icmp_ne (tgt := 49) (mx_d tX12_walk_0 21 rfl) (by decide) (fun hc6 => ?_) (fun hc6 => ?_)
  · rw [if_neg hc6] at h
    refine mx_iload (mx_d tX12_walk_0 27 rfl) rfl ?_
    refine mx_iconst (1) (mx_d tX12_walk_0 28 rfl) (by decide) ?_
    refine mx_iadd (mx_d tX12_walk_0 29 rfl) ?_
    obtain ⟨v7, e_v7, h⟩ := mx_letE h
    refine mx_istore (L2 := [.ref a, .float 0, .int x1, .int x2, .int q5, .int v7]) (mx_d tX12_walk_0 30 rfl) (by decide) (by rw [e_v7]; rfl) ?_
    obtain ⟨q24, h_q24, h⟩ := Option.bind_eq_some_iff.mp h
    refine CX12_walk_L55 hrec h0 mx_FU h_q24 ?_
    refine mx_aload_n (mx_d tX12_walk_1 30 rfl) rfl rfl ?_
    refine mx_iload (mx_d tX12_walk_1 31 rfl) rfl ?_
    refine mx_iconst (1) (mx_d tX12_walk_1 32 rfl) (by decide) ?_
    refine mx_iadd (mx_d tX12_walk_1 33 rfl) ?_
    refine mx_iload_n (mx_d tX12_walk_1 34 rfl) rfl rfl ?_
    refine mx_iload_n (mx_d tX12_walk_1 35 rfl) rfl rfl ?_
    obtain ⟨r25, h_r25, h⟩ := Option.bind_eq_some_iff.mp h
    refine mx_cVv (mx_d tX12_walk_1 36 rfl) iX12_388 rfl vX12_walk ⟨_, rfl, rfl⟩ (ly12_o h0) (hrec h0 h_r25) (by omega) rfl rfl (Nat.le_of_ble_eq_true rfl) ?_
    obtain rfl := Option.some.inj h
    exact mx_return (mx_d tX12_walk_1 37 rfl) rfl ⟨rfl, rfl⟩
  · rw [if_pos hc6] at h
    refine mx_aload_n (mx_d tX12_walk_0 22 rfl) rfl rfl ?_
    refine mx_iload_n (mx_d tX12_walk_0 23 rfl) rfl rfl ?_
    refine mx_iload_n (mx_d tX12_walk_0 24 rfl) rfl rfl ?_
    obtain ⟨r26, h_r26, h⟩ := Option.bind_eq_some_iff.mp h
    refine mx_cVv (mx_d tX12_walk_0 25 rfl) iX12_384 rfl vX12_leaf ⟨_, rfl, rfl⟩ (ly12_o h0) (CX12_leaf h0 h_r26) (by omega) rfl rfl (Nat.le_of_ble_eq_true rfl) ?_
    obtain rfl := Option.some.inj h
    exact mx_return (mx_d tX12_walk_0 26 rfl) rfl ⟨rfl, rfl⟩
theorem CX12_walk {G : mG} {l : Launch} {e : mE} : ∀ (D : Nat) {a : Nat} {x0 : Int32} {x1 : Int32} {x2 : Int32} {m : mB} {r : mB}, ly12 e a → FX12_walk D a x0 x1 x2 m = some r → mx_Call G l MX12_walk (4 * D) 0 0 [.ref a, .int x0, .int x1, .int x2] (e, m) (fun v z => v = none ∧ z = (e, r)) := by
  intro D
  induction D with
  | zero => intro _ _ _ _ _ _ _ h; cases h
  | succ D ih =>
    intro a x0 x1 x2 m r h0 h
    rw [FX12_walk] at h
    have hh := CX12_walk_B (rec := FX12_walk D) (D := 4 * D) (fun {_ _ _ _} {_} {_} zh0 hz => ih zh0 hz) h0 h
    rw [show 4 * (D + 1) = 4 * D + 4 by omega]
    exact hh
def FX12_survey_L7 (q0 : Nat) : Nat → Int32 → mB → Option (mB)
  | 0, _, _ => none
  | f + 1, y1, m => (if 5 < y1 then (some (m)) else mx_chk (mx_inb y1 6) (mx_let (mx_up m.1 (q0 + 19) (Int32.toNatClampNeg y1) (-1), m.2) (fun m3 => mx_let (mx_up m3.1 (q0 + 20) (Int32.toNatClampNeg y1) 0, m3.2) (fun m5 => mx_let (y1 + 1) (fun v6 => (FX12_survey_L7 q0 f v6 m5))))))
set_option maxRecDepth 20000 in
theorem CX12_survey_L7 {G : mG} {l : Launch} {e : mE} {Post : Option Value → mS → Prop} {q0 : Nat} (g0 : ly12 e q0) : ∀ (f : Nat) {y1 : Int32} {m : mB} {q : (mB)}, FX12_survey_L7 q0 f y1 m = some q → (mx_Fr G l MX12_survey 257 0 0 Post 32 [.ref q0, .float 0] [] (e, q)) → mx_Fr G l MX12_survey 257 0 0 Post 7 [.ref q0, .int y1] [] (e, m) := by
  intro f
  induction f with
  | zero => intro _ _ _ h; cases h
  | succ f ih =>
    intro y1 m q h hex
    rw [FX12_survey_L7] at h
    refine mx_iload_n (mx_d tX12_survey_0 5 rfl) rfl rfl ?_
    refine mx_iconst (5) (mx_d tX12_survey_0 6 rfl) (by decide) ?_
    refine mx_icmp_gt (tgt := 32) (mx_d tX12_survey_0 7 rfl) (by decide) (fun hc2 => ?_) (fun hc2 => ?_)
    · rw [if_pos hc2] at h
      obtain rfl := Option.some.inj h
      refine mx_forget (L' := [.ref q0, .float 0]) ⟨rfl, trivial⟩ ?_
      exact hex
    · rw [if_neg hc2] at h
      refine mx_aload_n (mx_d tX12_survey_0 8 rfl) rfl rfl ?_
      refine mx_getR (mx_d tX12_survey_0 9 rfl) fX12_154 rfl rfl (ly12_o g0) (ly12_r37 g0) ?_
      refine mx_iload_n (mx_d tX12_survey_0 10 rfl) rfl rfl ?_
      refine mx_iconst ((-1)) (mx_d tX12_survey_0 11 rfl) (by decide) ?_
      obtain ⟨hi4, h⟩ := mx_chkE h
      obtain ⟨m3, e_m3, h⟩ := mx_letE h
      refine mx_iastore (mx_d tX12_survey_0 12 rfl) (ly12_s37 g0) (mx_inbE hi4) (mx_eqz (z' := (e, m3)) (by rw [e_m3]) ?_)
      refine mx_aload_n (mx_d tX12_survey_0 13 rfl) rfl rfl ?_
      refine mx_getR (mx_d tX12_survey_0 14 rfl) fX12_157 rfl rfl (ly12_o g0) (ly12_r38 g0) ?_
      refine mx_iload_n (mx_d tX12_survey_0 15 rfl) rfl rfl ?_
      refine mx_iconst (0) (mx_d tX12_survey_0 16 rfl) (by decide) ?_
      obtain ⟨m5, e_m5, h⟩ := mx_letE h
      refine mx_iastore (mx_d tX12_survey_0 17 rfl) (ly12_s38 g0) (mx_inbE hi4) (mx_eqz (z' := (e, m5)) (by rw [e_m5]) ?_)
      obtain ⟨v6, e_v6, h⟩ := mx_letE h
      refine mx_iinc v6 (L2 := [.ref q0, .int v6]) (mx_d tX12_survey_0 18 rfl) rfl (by rw [e_v6]; rfl) (by decide) rfl ?_
      refine mx_goto (tgt := 7) (mx_d tX12_survey_0 19 rfl) (by decide) ?_
      exact ih h hex
def FX12_survey_L34 (q0 : Nat) : Nat → Int32 → mB → Option (mB)
  | 0, _, _ => none
  | f + 1, y1, m => (if 10 ≤ y1 then (some (m)) else mx_chk (mx_inb y1 10) (mx_let (mx_up m.1 (q0 + 16) (Int32.toNatClampNeg y1) (-1), m.2) (fun m9 => mx_let (y1 + 1) (fun v11 => (FX12_survey_L34 q0 f v11 m9)))))
set_option maxRecDepth 20000 in
theorem CX12_survey_L34 {G : mG} {l : Launch} {e : mE} {Post : Option Value → mS → Prop} {q0 : Nat} (g0 : ly12 e q0) : ∀ (f : Nat) {y1 : Int32} {m : mB} {q : (mB)}, FX12_survey_L34 q0 f y1 m = some q → (mx_Fr G l MX12_survey 257 0 0 Post 53 [.ref q0, .float 0] [] (e, q)) → mx_Fr G l MX12_survey 257 0 0 Post 34 [.ref q0, .int y1] [] (e, m) := by
  intro f
  induction f with
  | zero => intro _ _ _ h; cases h
  | succ f ih =>
    intro y1 m q h hex
    rw [FX12_survey_L34] at h
    refine mx_iload_n (mx_d tX12_survey_0 22 rfl) rfl rfl ?_
    refine mx_bipush (10) (mx_d tX12_survey_0 23 rfl) (by decide) ?_
    refine mx_icmp_ge (tgt := 53) (mx_d tX12_survey_0 24 rfl) (by decide) (fun hc8 => ?_) (fun hc8 => ?_)
    · rw [if_pos hc8] at h
      obtain rfl := Option.some.inj h
      refine mx_forget (L' := [.ref q0, .float 0]) ⟨rfl, trivial⟩ ?_
      exact hex
    · rw [if_neg hc8] at h
      refine mx_aload_n (mx_d tX12_survey_0 25 rfl) rfl rfl ?_
      refine mx_getR (mx_d tX12_survey_0 26 rfl) fX12_145 rfl rfl (ly12_o g0) (ly12_r34 g0) ?_
      refine mx_iload_n (mx_d tX12_survey_0 27 rfl) rfl rfl ?_
      refine mx_iconst ((-1)) (mx_d tX12_survey_0 28 rfl) (by decide) ?_
      obtain ⟨hi10, h⟩ := mx_chkE h
      obtain ⟨m9, e_m9, h⟩ := mx_letE h
      refine mx_iastore (mx_d tX12_survey_0 29 rfl) (ly12_s34 g0) (mx_inbE hi10) (mx_eqz (z' := (e, m9)) (by rw [e_m9]) ?_)
      obtain ⟨v11, e_v11, h⟩ := mx_letE h
      refine mx_iinc v11 (L2 := [.ref q0, .int v11]) (mx_d tX12_survey_0 30 rfl) rfl (by rw [e_v11]; rfl) (by decide) rfl ?_
      refine mx_goto (tgt := 34) (mx_d tX12_survey_0 31 rfl) (by decide) ?_
      exact ih h hex
def FX12_survey (a : Nat) (m : mB) : Option mB := mx_let (mx_up m.1 a 41 (-1), m.2) (fun m1 => Option.bind (FX12_survey_L7 a mx_FU 0 m1) (fun q7 => Option.bind (FX12_survey_L34 a mx_FU 0 q7) (fun q12 => mx_let (mx_up q12.1 a 46 0, q12.2) (fun m13 => Option.bind (FX12_walk 64 a 0 0 0 m13) (fun r14 => (some r14))))))
set_option maxRecDepth 20000 in
theorem CX12_survey {G : mG} {l : Launch} {e : mE} {a : Nat} {m : mB} {r : mB} (h0 : ly12 e a) (h : FX12_survey a m = some r) : mx_Call G l MX12_survey 257 0 0 [.ref a] (e, m) (fun v z => v = none ∧ z = (e, r)) := by
  refine mx_entry (L := [.ref a, .float 0]) (by decide +kernel) (Nat.le_of_ble_eq_true rfl) rfl ?_
  unfold FX12_survey at h
  refine mx_aload_n (mx_d tX12_survey_0 0 rfl) rfl rfl ?_
  refine mx_iconst ((-1)) (mx_d tX12_survey_0 1 rfl) (by decide) ?_
  obtain ⟨m1, e_m1, h⟩ := mx_letE h
  refine mx_putI (mx_d tX12_survey_0 2 rfl) fX12_369 rfl ⟨_, rfl, rfl⟩ rfl (ly12_o h0) (mx_eqz (z' := (e, m1)) (by rw [e_m1]) ?_)
  refine mx_iconst (0) (mx_d tX12_survey_0 3 rfl) (by decide) ?_
  refine mx_istore_n (L2 := [.ref a, .int 0]) (mx_d tX12_survey_0 4 rfl) rfl (by decide) (by rfl) ?_
  obtain ⟨q7, h_q7, h⟩ := Option.bind_eq_some_iff.mp h
  refine CX12_survey_L7 h0 mx_FU h_q7 ?_
  refine mx_iconst (0) (mx_d tX12_survey_0 20 rfl) (by decide) ?_
  refine mx_istore_n (L2 := [.ref a, .int 0]) (mx_d tX12_survey_0 21 rfl) rfl (by decide) (by rfl) ?_
  obtain ⟨q12, h_q12, h⟩ := Option.bind_eq_some_iff.mp h
  refine CX12_survey_L34 h0 mx_FU h_q12 ?_
  refine mx_aload_n (mx_d tX12_survey_0 32 rfl) rfl rfl ?_
  refine mx_iconst (0) (mx_d tX12_survey_0 33 rfl) (by decide) ?_
  obtain ⟨m13, e_m13, h⟩ := mx_letE h
  refine mx_putZ (mx_d tX12_survey_0 34 rfl) fX12_365 rfl ⟨_, rfl, rfl⟩ rfl (by decide) (ly12_o h0) (mx_eqz (z' := (e, m13)) (by rw [e_m13]) ?_)
  refine mx_aload_n (mx_d tX12_survey_0 35 rfl) rfl rfl ?_
  refine mx_iconst (0) (mx_d tX12_survey_0 36 rfl) (by decide) ?_
  refine mx_iconst (0) (mx_d tX12_survey_0 37 rfl) (by decide) ?_
  refine mx_iconst (0) (mx_d tX12_survey_0 38 rfl) (by decide) ?_
  obtain ⟨r14, h_r14, h⟩ := Option.bind_eq_some_iff.mp h
  refine mx_cVv (mx_d tX12_survey_0 39 rfl) iX12_388 rfl vX12_walk ⟨_, rfl, rfl⟩ (ly12_o h0) (CX12_walk 64 h0 h_r14) (by decide) rfl rfl (Nat.le_of_ble_eq_true rfl) ?_
  obtain rfl := Option.some.inj h
  exact mx_return (mx_d tX12_survey_0 40 rfl) rfl ⟨rfl, rfl⟩
def FX12_surveyMost_L21 (q0 : Nat) : Nat → Int32 → mB → Option (mB)
  | 0, _, _ => none
  | f + 1, y1, m => (if 30 ≤ y1 then (some (m)) else mx_chk (mx_inb y1 30) (mx_let (mx_up m.1 (q0 + 21) (Int32.toNatClampNeg y1) 0, m.2) (fun m6 => mx_let (y1 + 1) (fun v8 => (FX12_surveyMost_L21 q0 f v8 m6)))))
set_option maxRecDepth 20000 in
theorem CX12_surveyMost_L21 {G : mG} {l : Launch} {e : mE} {Post : Option Value → mS → Prop} {q0 : Nat} (g0 : ly12 e q0) : ∀ (f : Nat) {y1 : Int32} {m : mB} {q : (mB)}, FX12_surveyMost_L21 q0 f y1 m = some q → (mx_Fr G l MX12_surveyMost 258 0 0 Post 40 [.ref q0, .float 0] [] (e, q)) → mx_Fr G l MX12_surveyMost 258 0 0 Post 21 [.ref q0, .int y1] [] (e, m) := by
  intro f
  induction f with
  | zero => intro _ _ _ h; cases h
  | succ f ih =>
    intro y1 m q h hex
    rw [FX12_surveyMost_L21] at h
    refine mx_iload_n (mx_d tX12_surveyMost_0 13 rfl) rfl rfl ?_
    refine mx_bipush (30) (mx_d tX12_surveyMost_0 14 rfl) (by decide) ?_
    refine mx_icmp_ge (tgt := 40) (mx_d tX12_surveyMost_0 15 rfl) (by decide) (fun hc5 => ?_) (fun hc5 => ?_)
    · rw [if_pos hc5] at h
      obtain rfl := Option.some.inj h
      refine mx_forget (L' := [.ref q0, .float 0]) ⟨rfl, trivial⟩ ?_
      exact hex
    · rw [if_neg hc5] at h
      refine mx_aload_n (mx_d tX12_surveyMost_0 16 rfl) rfl rfl ?_
      refine mx_getR (mx_d tX12_surveyMost_0 17 rfl) fX12_160 rfl rfl (ly12_o g0) (ly12_r39 g0) ?_
      refine mx_iload_n (mx_d tX12_surveyMost_0 18 rfl) rfl rfl ?_
      refine mx_iconst (0) (mx_d tX12_surveyMost_0 19 rfl) (by decide) ?_
      obtain ⟨hi7, h⟩ := mx_chkE h
      obtain ⟨m6, e_m6, h⟩ := mx_letE h
      refine mx_iastore (mx_d tX12_surveyMost_0 20 rfl) (ly12_s39 g0) (mx_inbE hi7) (mx_eqz (z' := (e, m6)) (by rw [e_m6]) ?_)
      obtain ⟨v8, e_v8, h⟩ := mx_letE h
      refine mx_iinc v8 (L2 := [.ref q0, .int v8]) (mx_d tX12_surveyMost_0 21 rfl) rfl (by rw [e_v8]; rfl) (by decide) rfl ?_
      refine mx_goto (tgt := 21) (mx_d tX12_surveyMost_0 22 rfl) (by decide) ?_
      exact ih h hex
def FX12_surveyMost_L42 (q0 : Nat) : Nat → Int32 → mB → Option (mB)
  | 0, _, _ => none
  | f + 1, y1, m => (if 110 ≤ y1 then (some (m)) else mx_chk (mx_inb y1 110) (mx_let (mx_up m.1 (q0 + 22) (Int32.toNatClampNeg y1) 0, m.2) (fun m11 => mx_let (y1 + 1) (fun v13 => (FX12_surveyMost_L42 q0 f v13 m11)))))
set_option maxRecDepth 20000 in
theorem CX12_surveyMost_L42 {G : mG} {l : Launch} {e : mE} {Post : Option Value → mS → Prop} {q0 : Nat} (g0 : ly12 e q0) : ∀ (f : Nat) {y1 : Int32} {m : mB} {q : (mB)}, FX12_surveyMost_L42 q0 f y1 m = some q → (mx_Fr G l MX12_surveyMost 258 0 0 Post 61 [.ref q0, .float 0] [] (e, q)) → mx_Fr G l MX12_surveyMost 258 0 0 Post 42 [.ref q0, .int y1] [] (e, m) := by
  intro f
  induction f with
  | zero => intro _ _ _ h; cases h
  | succ f ih =>
    intro y1 m q h hex
    rw [FX12_surveyMost_L42] at h
    refine mx_iload_n (mx_d tX12_surveyMost_0 25 rfl) rfl rfl ?_
    refine mx_bipush (110) (mx_d tX12_surveyMost_0 26 rfl) (by decide) ?_
    refine mx_icmp_ge (tgt := 61) (mx_d tX12_surveyMost_0 27 rfl) (by decide) (fun hc10 => ?_) (fun hc10 => ?_)
    · rw [if_pos hc10] at h
      obtain rfl := Option.some.inj h
      refine mx_forget (L' := [.ref q0, .float 0]) ⟨rfl, trivial⟩ ?_
      exact hex
    · rw [if_neg hc10] at h
      refine mx_aload_n (mx_d tX12_surveyMost_0 28 rfl) rfl rfl ?_
      refine mx_getR (mx_d tX12_surveyMost_0 29 rfl) fX12_163 rfl rfl (ly12_o g0) (ly12_r40 g0) ?_
      refine mx_iload_n (mx_d tX12_surveyMost_0 30 rfl) rfl rfl ?_
      refine mx_iconst (0) (mx_d tX12_surveyMost_0 31 rfl) (by decide) ?_
      obtain ⟨hi12, h⟩ := mx_chkE h
      obtain ⟨m11, e_m11, h⟩ := mx_letE h
      refine mx_iastore (mx_d tX12_surveyMost_0 32 rfl) (ly12_s40 g0) (mx_inbE hi12) (mx_eqz (z' := (e, m11)) (by rw [e_m11]) ?_)
      obtain ⟨v13, e_v13, h⟩ := mx_letE h
      refine mx_iinc v13 (L2 := [.ref q0, .int v13]) (mx_d tX12_surveyMost_0 33 rfl) rfl (by rw [e_v13]; rfl) (by decide) rfl ?_
      refine mx_goto (tgt := 42) (mx_d tX12_surveyMost_0 34 rfl) (by decide) ?_
      exact ih h hex
def FX12_surveyMost (a : Nat) (m : mB) : Option mB := Option.bind (FX12_survey a m) (fun r1 => mx_let (mx_up r1.1 a 42 (-1), r1.2) (fun m2 => mx_let (mx_up m2.1 a 43 0, m2.2) (fun m3 => mx_let (mx_up m3.1 a 44 0, m3.2) (fun m4 => Option.bind (FX12_surveyMost_L21 a mx_FU 0 m4) (fun q9 => Option.bind (FX12_surveyMost_L42 a mx_FU 0 q9) (fun q14 => mx_let (mx_up q14.1 a 46 1, q14.2) (fun m15 => Option.bind (FX12_walk 64 a 0 0 0 m15) (fun r16 => (some r16)))))))))
set_option maxRecDepth 20000 in
theorem CX12_surveyMost {G : mG} {l : Launch} {e : mE} {a : Nat} {m : mB} {r : mB} (h0 : ly12 e a) (h : FX12_surveyMost a m = some r) : mx_Call G l MX12_surveyMost 258 0 0 [.ref a] (e, m) (fun v z => v = none ∧ z = (e, r)) := by
  refine mx_entry (L := [.ref a, .float 0]) (by decide +kernel) (Nat.le_of_ble_eq_true rfl) rfl ?_
  unfold FX12_surveyMost at h
  refine mx_aload_n (mx_d tX12_surveyMost_0 0 rfl) rfl rfl ?_
  obtain ⟨r1, h_r1, h⟩ := Option.bind_eq_some_iff.mp h
  refine mx_cVv (mx_d tX12_surveyMost_0 1 rfl) iX12_395 rfl vX12_survey ⟨_, rfl, rfl⟩ (ly12_o h0) (CX12_survey h0 h_r1) (by decide) rfl rfl (Nat.le_of_ble_eq_true rfl) ?_
  refine mx_aload_n (mx_d tX12_surveyMost_0 2 rfl) rfl rfl ?_
  refine mx_iconst ((-1)) (mx_d tX12_surveyMost_0 3 rfl) (by decide) ?_
  obtain ⟨m2, e_m2, h⟩ := mx_letE h
  refine mx_putI (mx_d tX12_surveyMost_0 4 rfl) fX12_372 rfl ⟨_, rfl, rfl⟩ rfl (ly12_o h0) (mx_eqz (z' := (e, m2)) (by rw [e_m2]) ?_)
  refine mx_aload_n (mx_d tX12_surveyMost_0 5 rfl) rfl rfl ?_
  refine mx_iconst (0) (mx_d tX12_surveyMost_0 6 rfl) (by decide) ?_
  obtain ⟨m3, e_m3, h⟩ := mx_letE h
  refine mx_putI (mx_d tX12_surveyMost_0 7 rfl) fX12_375 rfl ⟨_, rfl, rfl⟩ rfl (ly12_o h0) (mx_eqz (z' := (e, m3)) (by rw [e_m3]) ?_)
  refine mx_aload_n (mx_d tX12_surveyMost_0 8 rfl) rfl rfl ?_
  refine mx_iconst (0) (mx_d tX12_surveyMost_0 9 rfl) (by decide) ?_
  obtain ⟨m4, e_m4, h⟩ := mx_letE h
  refine mx_putI (mx_d tX12_surveyMost_0 10 rfl) fX12_381 rfl ⟨_, rfl, rfl⟩ rfl (ly12_o h0) (mx_eqz (z' := (e, m4)) (by rw [e_m4]) ?_)
  refine mx_iconst (0) (mx_d tX12_surveyMost_0 11 rfl) (by decide) ?_
  refine mx_istore_n (L2 := [.ref a, .int 0]) (mx_d tX12_surveyMost_0 12 rfl) rfl (by decide) (by rfl) ?_
  obtain ⟨q9, h_q9, h⟩ := Option.bind_eq_some_iff.mp h
  refine CX12_surveyMost_L21 h0 mx_FU h_q9 ?_
  refine mx_iconst (0) (mx_d tX12_surveyMost_0 23 rfl) (by decide) ?_
  refine mx_istore_n (L2 := [.ref a, .int 0]) (mx_d tX12_surveyMost_0 24 rfl) rfl (by decide) (by rfl) ?_
  obtain ⟨q14, h_q14, h⟩ := Option.bind_eq_some_iff.mp h
  refine CX12_surveyMost_L42 h0 mx_FU h_q14 ?_
  refine mx_aload_n (mx_d tX12_surveyMost_0 35 rfl) rfl rfl ?_
  refine mx_iconst (1) (mx_d tX12_surveyMost_0 36 rfl) (by decide) ?_
  obtain ⟨m15, e_m15, h⟩ := mx_letE h
  refine mx_putZ (mx_d tX12_surveyMost_0 37 rfl) fX12_365 rfl ⟨_, rfl, rfl⟩ rfl (by decide) (ly12_o h0) (mx_eqz (z' := (e, m15)) (by rw [e_m15]) ?_)
  refine mx_aload_n (mx_d tX12_surveyMost_0 38 rfl) rfl rfl ?_
  refine mx_iconst (0) (mx_d tX12_surveyMost_0 39 rfl) (by decide) ?_
  refine mx_iconst (0) (mx_d tX12_surveyMost_0 40 rfl) (by decide) ?_
  refine mx_iconst (0) (mx_d tX12_surveyMost_0 41 rfl) (by decide) ?_
  obtain ⟨r16, h_r16, h⟩ := Option.bind_eq_some_iff.mp h
  refine mx_cVv (mx_d tX12_surveyMost_0 42 rfl) iX12_388 rfl vX12_walk ⟨_, rfl, rfl⟩ (ly12_o h0) (CX12_walk 64 h0 h_r16) (by decide) rfl rfl (Nat.le_of_ble_eq_true rfl) ?_
  obtain rfl := Option.some.inj h
  exact mx_return (mx_d tX12_surveyMost_0 43 rfl) rfl ⟨rfl, rfl⟩
def FX12_fateOf (a : Nat) (x0 : Int32) (m : mB) : Option (Int32 × mB) := mx_let (mx_up m.1 a 47 0, m.2) (fun m1 => Option.bind (FX12_surveyMost a m1) (fun r2 => mx_chk (mx_inb x0 30) ((if (r2.1 (a + 21) (Int32.toNatClampNeg x0)) = 0 then (some (0, r2)) else (if (r2.1 (a + 21) (Int32.toNatClampNeg x0)) = (r2.1 a 43) then (some (2, r2)) else (some (1, r2)))))))
set_option maxRecDepth 20000 in
theorem CX12_fateOf {G : mG} {l : Launch} {e : mE} {a : Nat} {x0 : Int32} {m : mB} {r : (Int32 × mB)} (h0 : ly12 e a) (h : FX12_fateOf a x0 m = some r) : mx_Call G l MX12_fateOf 259 0 0 [.ref a, .int x0] (e, m) (fun v z => v = some (.int r.1) ∧ z = (e, r.2)) := by
  refine mx_entry (L := [.ref a, .int x0]) (by decide +kernel) (Nat.le_of_ble_eq_true rfl) rfl ?_
  unfold FX12_fateOf at h
  refine mx_aload_n (mx_d tX12_fateOf_0 0 rfl) rfl rfl ?_
  refine mx_iconst (0) (mx_d tX12_fateOf_0 1 rfl) (by decide) ?_
  obtain ⟨m1, e_m1, h⟩ := mx_letE h
  refine mx_putI (mx_d tX12_fateOf_0 2 rfl) fX12_392 rfl ⟨_, rfl, rfl⟩ rfl (ly12_o h0) (mx_eqz (z' := (e, m1)) (by rw [e_m1]) ?_)
  refine mx_aload_n (mx_d tX12_fateOf_0 3 rfl) rfl rfl ?_
  obtain ⟨r2, h_r2, h⟩ := Option.bind_eq_some_iff.mp h
  refine mx_cVv (mx_d tX12_fateOf_0 4 rfl) iX12_398 rfl vX12_surveyMost ⟨_, rfl, rfl⟩ (ly12_o h0) (CX12_surveyMost h0 h_r2) (by decide) rfl rfl (Nat.le_of_ble_eq_true rfl) ?_
  refine mx_aload_n (mx_d tX12_fateOf_0 5 rfl) rfl rfl ?_
  refine mx_getR (mx_d tX12_fateOf_0 6 rfl) fX12_160 rfl rfl (ly12_o h0) (ly12_r39 h0) ?_
  refine mx_iload_n (mx_d tX12_fateOf_0 7 rfl) rfl rfl ?_
  obtain ⟨hi3, h⟩ := mx_chkE h
  refine mx_iaload (mx_d tX12_fateOf_0 8 rfl) (ly12_s39 h0) (mx_inbE hi3) ?_
  refine mx_if_ne (tgt := 22) (mx_d tX12_fateOf_0 9 rfl) (by decide) (fun hc4 => ?_) (fun hc4 => ?_)
  · rw [if_neg hc4] at h
    refine mx_aload_n (mx_d tX12_fateOf_0 12 rfl) rfl rfl ?_
    refine mx_getR (mx_d tX12_fateOf_0 13 rfl) fX12_160 rfl rfl (ly12_o h0) (ly12_r39 h0) ?_
    refine mx_iload_n (mx_d tX12_fateOf_0 14 rfl) rfl rfl ?_
    refine mx_iaload (mx_d tX12_fateOf_0 15 rfl) (ly12_s39 h0) (mx_inbE hi3) ?_
    refine mx_aload_n (mx_d tX12_fateOf_0 16 rfl) rfl rfl ?_
    refine mx_getI (mx_d tX12_fateOf_0 17 rfl) fX12_375 rfl (Or.inl rfl) (ly12_o h0) ?_
    refine mx_icmp_ne (tgt := 39) (mx_d tX12_fateOf_0 18 rfl) (by decide) (fun hc5 => ?_) (fun hc5 => ?_)
    · rw [if_neg hc5] at h
      refine mx_iconst (1) (mx_d tX12_fateOf_0 21 rfl) (by decide) ?_
      obtain rfl := Option.some.inj h
      exact mx_ireturn (mx_d tX12_fateOf_0 22 rfl) rfl ⟨rfl, rfl⟩
    · rw [if_pos hc5] at h
      refine mx_iconst (2) (mx_d tX12_fateOf_0 19 rfl) (by decide) ?_
      refine mx_goto (tgt := 40) (mx_d tX12_fateOf_0 20 rfl) (by decide) ?_
      obtain rfl := Option.some.inj h
      exact mx_ireturn (mx_d tX12_fateOf_0 22 rfl) rfl ⟨rfl, rfl⟩
  · rw [if_pos hc4] at h
    refine mx_iconst (0) (mx_d tX12_fateOf_0 10 rfl) (by decide) ?_
    refine mx_goto (tgt := 40) (mx_d tX12_fateOf_0 11 rfl) (by decide) ?_
    obtain rfl := Option.some.inj h
    exact mx_ireturn (mx_d tX12_fateOf_0 22 rfl) rfl ⟨rfl, rfl⟩
def FX12_link (a : Nat) (x0 : Int32) (x1 : Int32) (m : mB) : Option (Int32 × mB) := mx_let (mx_up m.1 a 0 0, m.2) (fun m1 => Option.bind (FX12_isLink a x0 m1) (fun r2 => (if r2 = 0 then (some ((-1), m1)) else (if x1 = 0 then mx_chk (mx_inb (3 + x0) 432) ((some ((m1.1 (a + 2) (Int32.toNatClampNeg (3 + x0))), m1))) else if x1 = 1 then mx_chk (mx_inb (33 + x0) 432) ((some ((m1.1 (a + 2) (Int32.toNatClampNeg (33 + x0))), m1))) else if x1 = 2 then mx_chk (mx_inb (128 + x0) 432) ((some ((m1.1 (a + 2) (Int32.toNatClampNeg (128 + x0))), m1))) else if x1 = 3 then Option.bind (FX12_isOfPair a x0 m1) (fun r11 => (if r11 = 0 then (some (0, m1)) else (some (1, m1)))) else if x1 = 4 then Option.bind (FX12_fateOf a x0 m1) (fun r14 => (some (r14.1, r14.2))) else (some ((-1), m1))))))
set_option maxRecDepth 20000 in
theorem CX12_link {G : mG} {l : Launch} {e : mE} {a : Nat} {x0 : Int32} {x1 : Int32} {m : mB} {r : (Int32 × mB)} (h0 : ly12 e a) (h : FX12_link a x0 x1 m = some r) : mx_Call G l MX12_link 260 0 0 [.ref a, .int x0, .int x1] (e, m) (fun v z => v = some (.int r.1) ∧ z = (e, r.2)) := by
  refine mx_entry (L := [.ref a, .int x0, .int x1]) (by decide +kernel) (Nat.le_of_ble_eq_true rfl) rfl ?_
  unfold FX12_link at h
  refine mx_aload_n (mx_d tX12_link_0 0 rfl) rfl rfl ?_
  refine mx_iconst (0) (mx_d tX12_link_0 1 rfl) (by decide) ?_
  obtain ⟨m1, e_m1, h⟩ := mx_letE h
  refine mx_putI (mx_d tX12_link_0 2 rfl) fX12_1 rfl ⟨_, rfl, rfl⟩ rfl (ly12_o h0) (mx_eqz (z' := (e, m1)) (by rw [e_m1]) ?_)
  refine mx_aload_n (mx_d tX12_link_0 3 rfl) rfl rfl ?_
  refine mx_iload_n (mx_d tX12_link_0 4 rfl) rfl rfl ?_
  obtain ⟨r2, h_r2, h⟩ := Option.bind_eq_some_iff.mp h
  refine mx_cVi (mx_d tX12_link_0 5 rfl) iX12_279 rfl vX12_isLink ⟨_, rfl, rfl⟩ (ly12_o h0) (CX12_isLink h0 h_r2) (by decide) rfl rfl (Nat.le_of_ble_eq_true rfl) ?_
  refine mx_if_ne (tgt := 15) (mx_d tX12_link_0 6 rfl) (by decide) (fun hc3 => ?_) (fun hc3 => ?_)
  · rw [if_neg hc3] at h
    refine mx_iload_n (mx_d tX12_link_0 9 rfl) rfl rfl ?_
    by_cases hc4 : x1 = 0
    · rw [if_pos hc4] at h
      refine mx_tableIn (tgt := 52) (mx_d tX12_link_0 10 rfl) (by rw [hc4]; decide) (by rw [hc4]; decide) (by rw [hc4]; rfl) (by decide) ?_
      refine mx_aload_n (mx_d tX12_link_0 11 rfl) rfl rfl ?_
      refine mx_getR (mx_d tX12_link_0 12 rfl) fX12_98 rfl rfl (ly12_o h0) (ly12_r14 h0) ?_
      refine mx_iconst (3) (mx_d tX12_link_0 13 rfl) (by decide) ?_
      refine mx_iload_n (mx_d tX12_link_0 14 rfl) rfl rfl ?_
      refine mx_iadd (mx_d tX12_link_0 15 rfl) ?_
      obtain ⟨hi5, h⟩ := mx_chkE h
      refine mx_iaload (mx_d tX12_link_0 16 rfl) (ly12_s14 h0) (mx_inbE hi5) ?_
      obtain rfl := Option.some.inj h
      exact mx_ireturn (mx_d tX12_link_0 17 rfl) rfl ⟨rfl, rfl⟩
    · rw [if_neg hc4] at h
      by_cases hc6 : x1 = 1
      · rw [if_pos hc6] at h
        refine mx_tableIn (tgt := 61) (mx_d tX12_link_0 10 rfl) (by rw [hc6]; decide) (by rw [hc6]; decide) (by rw [hc6]; rfl) (by decide) ?_
        refine mx_aload_n (mx_d tX12_link_0 18 rfl) rfl rfl ?_
        refine mx_getR (mx_d tX12_link_0 19 rfl) fX12_98 rfl rfl (ly12_o h0) (ly12_r14 h0) ?_
        refine mx_bipush (33) (mx_d tX12_link_0 20 rfl) (by decide) ?_
        refine mx_iload_n (mx_d tX12_link_0 21 rfl) rfl rfl ?_
        refine mx_iadd (mx_d tX12_link_0 22 rfl) ?_
        obtain ⟨hi7, h⟩ := mx_chkE h
        refine mx_iaload (mx_d tX12_link_0 23 rfl) (ly12_s14 h0) (mx_inbE hi7) ?_
        obtain rfl := Option.some.inj h
        exact mx_ireturn (mx_d tX12_link_0 24 rfl) rfl ⟨rfl, rfl⟩
      · rw [if_neg hc6] at h
        by_cases hc8 : x1 = 2
        · rw [if_pos hc8] at h
          refine mx_tableIn (tgt := 71) (mx_d tX12_link_0 10 rfl) (by rw [hc8]; decide) (by rw [hc8]; decide) (by rw [hc8]; rfl) (by decide) ?_
          refine mx_aload_n (mx_d tX12_link_0 25 rfl) rfl rfl ?_
          refine mx_getR (mx_d tX12_link_0 26 rfl) fX12_98 rfl rfl (ly12_o h0) (ly12_r14 h0) ?_
          refine mx_sipush (128) (mx_d tX12_link_0 27 rfl) (by decide) ?_
          refine mx_iload_n (mx_d tX12_link_0 28 rfl) rfl rfl ?_
          refine mx_iadd (mx_d tX12_link_0 29 rfl) ?_
          obtain ⟨hi9, h⟩ := mx_chkE h
          refine mx_iaload (mx_d tX12_link_0 30 rfl) (ly12_s14 h0) (mx_inbE hi9) ?_
          obtain rfl := Option.some.inj h
          exact mx_ireturn (mx_d tX12_link_0 31 rfl) rfl ⟨rfl, rfl⟩
        · rw [if_neg hc8] at h
          by_cases hc10 : x1 = 3
          · rw [if_pos hc10] at h
            refine mx_tableIn (tgt := 82) (mx_d tX12_link_0 10 rfl) (by rw [hc10]; decide) (by rw [hc10]; decide) (by rw [hc10]; rfl) (by decide) ?_
            refine mx_aload_n (mx_d tX12_link_0 32 rfl) rfl rfl ?_
            refine mx_iload_n (mx_d tX12_link_0 33 rfl) rfl rfl ?_
            obtain ⟨r11, h_r11, h⟩ := Option.bind_eq_some_iff.mp h
            refine mx_cVi (mx_d tX12_link_0 34 rfl) iX12_260 rfl vX12_isOfPair ⟨_, rfl, rfl⟩ (ly12_o h0) (CX12_isOfPair h0 h_r11) (by decide) rfl rfl (Nat.le_of_ble_eq_true rfl) ?_
            refine mx_if_eq (tgt := 94) (mx_d tX12_link_0 35 rfl) (by decide) (fun hc12 => ?_) (fun hc12 => ?_)
            · rw [if_pos hc12] at h
              refine mx_iconst (0) (mx_d tX12_link_0 38 rfl) (by decide) ?_
              obtain rfl := Option.some.inj h
              exact mx_ireturn (mx_d tX12_link_0 39 rfl) rfl ⟨rfl, rfl⟩
            · rw [if_neg hc12] at h
              refine mx_iconst (1) (mx_d tX12_link_0 36 rfl) (by decide) ?_
              refine mx_goto (tgt := 95) (mx_d tX12_link_0 37 rfl) (by decide) ?_
              obtain rfl := Option.some.inj h
              exact mx_ireturn (mx_d tX12_link_0 39 rfl) rfl ⟨rfl, rfl⟩
          · rw [if_neg hc10] at h
            by_cases hc13 : x1 = 4
            · rw [if_pos hc13] at h
              refine mx_tableIn (tgt := 96) (mx_d tX12_link_0 10 rfl) (by rw [hc13]; decide) (by rw [hc13]; decide) (by rw [hc13]; rfl) (by decide) ?_
              refine mx_aload_n (mx_d tX12_link_0 40 rfl) rfl rfl ?_
              refine mx_iload_n (mx_d tX12_link_0 41 rfl) rfl rfl ?_
              obtain ⟨r14, h_r14, h⟩ := Option.bind_eq_some_iff.mp h
              refine mx_cVi (mx_d tX12_link_0 42 rfl) iX12_282 rfl vX12_fateOf ⟨_, rfl, rfl⟩ (ly12_o h0) (CX12_fateOf h0 h_r14) (by decide) rfl rfl (Nat.le_of_ble_eq_true rfl) ?_
              obtain rfl := Option.some.inj h
              exact mx_ireturn (mx_d tX12_link_0 43 rfl) rfl ⟨rfl, rfl⟩
            · rw [if_neg hc13] at h
              have z_hc4 := lv_neT hc4 (a := 0) (by decide)
              have z_hc6 := lv_neT hc6 (a := 1) (by decide)
              have z_hc8 := lv_neT hc8 (a := 2) (by decide)
              have z_hc10 := lv_neT hc10 (a := 3) (by decide)
              have z_hc13 := lv_neT hc13 (a := 4) (by decide)
              refine mx_tableOut (tgt := 102) (mx_d tX12_link_0 10 rfl) (by omega) (by decide) ?_
              refine mx_iconst ((-1)) (mx_d tX12_link_0 44 rfl) (by decide) ?_
              obtain rfl := Option.some.inj h
              exact mx_ireturn (mx_d tX12_link_0 45 rfl) rfl ⟨rfl, rfl⟩
  · rw [if_pos hc3] at h
    refine mx_iconst ((-1)) (mx_d tX12_link_0 7 rfl) (by decide) ?_
    obtain rfl := Option.some.inj h
    exact mx_ireturn (mx_d tX12_link_0 8 rfl) rfl ⟨rfl, rfl⟩
def FX12_slack (a : Nat) (x0 : Int32) (m : mB) : Option (Int32 × mB) := mx_let (mx_up m.1 a 0 0, m.2) (fun m1 => Option.bind (FX12_isLink a x0 m1) (fun r2 => (if r2 = 0 then Option.bind (FX12_refuse a m1) (fun r4 => (some (r4.1, r4.2))) else Option.bind (FX12_slackOf a x0 m1) (fun r5 => (some (r5, m1))))))
set_option maxRecDepth 20000 in
theorem CX12_slack {G : mG} {l : Launch} {e : mE} {a : Nat} {x0 : Int32} {m : mB} {r : (Int32 × mB)} (h0 : ly12 e a) (h : FX12_slack a x0 m = some r) : mx_Call G l MX12_slack 3 0 0 [.ref a, .int x0] (e, m) (fun v z => v = some (.int r.1) ∧ z = (e, r.2)) := by
  refine mx_entry (L := [.ref a, .int x0]) (by decide +kernel) (Nat.le_of_ble_eq_true rfl) rfl ?_
  unfold FX12_slack at h
  refine mx_aload_n (mx_d tX12_slack_0 0 rfl) rfl rfl ?_
  refine mx_iconst (0) (mx_d tX12_slack_0 1 rfl) (by decide) ?_
  obtain ⟨m1, e_m1, h⟩ := mx_letE h
  refine mx_putI (mx_d tX12_slack_0 2 rfl) fX12_1 rfl ⟨_, rfl, rfl⟩ rfl (ly12_o h0) (mx_eqz (z' := (e, m1)) (by rw [e_m1]) ?_)
  refine mx_aload_n (mx_d tX12_slack_0 3 rfl) rfl rfl ?_
  refine mx_iload_n (mx_d tX12_slack_0 4 rfl) rfl rfl ?_
  obtain ⟨r2, h_r2, h⟩ := Option.bind_eq_some_iff.mp h
  refine mx_cVi (mx_d tX12_slack_0 5 rfl) iX12_279 rfl vX12_isLink ⟨_, rfl, rfl⟩ (ly12_o h0) (CX12_isLink h0 h_r2) (by decide) rfl rfl (Nat.le_of_ble_eq_true rfl) ?_
  refine mx_if_eq (tgt := 21) (mx_d tX12_slack_0 6 rfl) (by decide) (fun hc3 => ?_) (fun hc3 => ?_)
  · rw [if_pos hc3] at h
    refine mx_aload_n (mx_d tX12_slack_0 11 rfl) rfl rfl ?_
    obtain ⟨r4, h_r4, h⟩ := Option.bind_eq_some_iff.mp h
    refine mx_cVi (mx_d tX12_slack_0 12 rfl) iX12_272 rfl vX12_refuse ⟨_, rfl, rfl⟩ (ly12_o h0) (CX12_refuse h0 h_r4) (by decide) rfl rfl (Nat.le_of_ble_eq_true rfl) ?_
    obtain rfl := Option.some.inj h
    exact mx_ireturn (mx_d tX12_slack_0 13 rfl) rfl ⟨rfl, rfl⟩
  · rw [if_neg hc3] at h
    refine mx_aload_n (mx_d tX12_slack_0 7 rfl) rfl rfl ?_
    refine mx_iload_n (mx_d tX12_slack_0 8 rfl) rfl rfl ?_
    obtain ⟨r5, h_r5, h⟩ := Option.bind_eq_some_iff.mp h
    refine mx_cVi (mx_d tX12_slack_0 9 rfl) iX12_269 rfl vX12_slackOf ⟨_, rfl, rfl⟩ (ly12_o h0) (CX12_slackOf h0 h_r5) (by decide) rfl rfl (Nat.le_of_ble_eq_true rfl) ?_
    refine mx_goto (tgt := 25) (mx_d tX12_slack_0 10 rfl) (by decide) ?_
    obtain rfl := Option.some.inj h
    exact mx_ireturn (mx_d tX12_slack_0 13 rfl) rfl ⟨rfl, rfl⟩
def FX12_odd (a : Nat) (x0 : Int32) (x1 : Int32) (m : mB) : Option (Int32 × mB) := mx_let (mx_up m.1 a 0 0, m.2) (fun m1 => Option.bind (FX12_isOdd a x0 m1) (fun r2 => (if r2 = 0 then (some ((-1), m1)) else (if x1 = 0 then mx_chk (mx_inb (178 + x0) 432) ((some ((m1.1 (a + 2) (Int32.toNatClampNeg (178 + x0))), m1))) else if x1 = 1 then mx_chk (mx_inb (184 + x0) 432) ((some ((m1.1 (a + 2) (Int32.toNatClampNeg (184 + x0))), m1))) else if x1 = 2 then mx_chk (mx_inb (178 + x0) 432) (Option.bind (FX12_pairsIn a (m1.1 (a + 2) (Int32.toNatClampNeg (178 + x0))) m1) (fun r10 => (some (r10, m1)))) else (some ((-1), m1))))))
set_option maxRecDepth 20000 in
theorem CX12_odd {G : mG} {l : Launch} {e : mE} {a : Nat} {x0 : Int32} {x1 : Int32} {m : mB} {r : (Int32 × mB)} (h0 : ly12 e a) (h : FX12_odd a x0 x1 m = some r) : mx_Call G l MX12_odd 3 0 0 [.ref a, .int x0, .int x1] (e, m) (fun v z => v = some (.int r.1) ∧ z = (e, r.2)) := by
  refine mx_entry (L := [.ref a, .int x0, .int x1]) (by decide +kernel) (Nat.le_of_ble_eq_true rfl) rfl ?_
  unfold FX12_odd at h
  refine mx_aload_n (mx_d tX12_odd_0 0 rfl) rfl rfl ?_
  refine mx_iconst (0) (mx_d tX12_odd_0 1 rfl) (by decide) ?_
  obtain ⟨m1, e_m1, h⟩ := mx_letE h
  refine mx_putI (mx_d tX12_odd_0 2 rfl) fX12_1 rfl ⟨_, rfl, rfl⟩ rfl (ly12_o h0) (mx_eqz (z' := (e, m1)) (by rw [e_m1]) ?_)
  refine mx_aload_n (mx_d tX12_odd_0 3 rfl) rfl rfl ?_
  refine mx_iload_n (mx_d tX12_odd_0 4 rfl) rfl rfl ?_
  obtain ⟨r2, h_r2, h⟩ := Option.bind_eq_some_iff.mp h
  refine mx_cVi (mx_d tX12_odd_0 5 rfl) iX12_285 rfl vX12_isOdd ⟨_, rfl, rfl⟩ (ly12_o h0) (CX12_isOdd h0 h_r2) (by decide) rfl rfl (Nat.le_of_ble_eq_true rfl) ?_
  refine mx_if_ne (tgt := 15) (mx_d tX12_odd_0 6 rfl) (by decide) (fun hc3 => ?_) (fun hc3 => ?_)
  · rw [if_neg hc3] at h
    refine mx_iload_n (mx_d tX12_odd_0 9 rfl) rfl rfl ?_
    by_cases hc4 : x1 = 0
    · rw [if_pos hc4] at h
      refine mx_tableIn (tgt := 44) (mx_d tX12_odd_0 10 rfl) (by rw [hc4]; decide) (by rw [hc4]; decide) (by rw [hc4]; rfl) (by decide) ?_
      refine mx_aload_n (mx_d tX12_odd_0 11 rfl) rfl rfl ?_
      refine mx_getR (mx_d tX12_odd_0 12 rfl) fX12_98 rfl rfl (ly12_o h0) (ly12_r14 h0) ?_
      refine mx_sipush (178) (mx_d tX12_odd_0 13 rfl) (by decide) ?_
      refine mx_iload_n (mx_d tX12_odd_0 14 rfl) rfl rfl ?_
      refine mx_iadd (mx_d tX12_odd_0 15 rfl) ?_
      obtain ⟨hi5, h⟩ := mx_chkE h
      refine mx_iaload (mx_d tX12_odd_0 16 rfl) (ly12_s14 h0) (mx_inbE hi5) ?_
      obtain rfl := Option.some.inj h
      exact mx_ireturn (mx_d tX12_odd_0 17 rfl) rfl ⟨rfl, rfl⟩
    · rw [if_neg hc4] at h
      by_cases hc6 : x1 = 1
      · rw [if_pos hc6] at h
        refine mx_tableIn (tgt := 55) (mx_d tX12_odd_0 10 rfl) (by rw [hc6]; decide) (by rw [hc6]; decide) (by rw [hc6]; rfl) (by decide) ?_
        refine mx_aload_n (mx_d tX12_odd_0 18 rfl) rfl rfl ?_
        refine mx_getR (mx_d tX12_odd_0 19 rfl) fX12_98 rfl rfl (ly12_o h0) (ly12_r14 h0) ?_
        refine mx_sipush (184) (mx_d tX12_odd_0 20 rfl) (by decide) ?_
        refine mx_iload_n (mx_d tX12_odd_0 21 rfl) rfl rfl ?_
        refine mx_iadd (mx_d tX12_odd_0 22 rfl) ?_
        obtain ⟨hi7, h⟩ := mx_chkE h
        refine mx_iaload (mx_d tX12_odd_0 23 rfl) (ly12_s14 h0) (mx_inbE hi7) ?_
        obtain rfl := Option.some.inj h
        exact mx_ireturn (mx_d tX12_odd_0 24 rfl) rfl ⟨rfl, rfl⟩
      · rw [if_neg hc6] at h
        by_cases hc8 : x1 = 2
        · rw [if_pos hc8] at h
          refine mx_tableIn (tgt := 66) (mx_d tX12_odd_0 10 rfl) (by rw [hc8]; decide) (by rw [hc8]; decide) (by rw [hc8]; rfl) (by decide) ?_
          refine mx_aload_n (mx_d tX12_odd_0 25 rfl) rfl rfl ?_
          refine mx_aload_n (mx_d tX12_odd_0 26 rfl) rfl rfl ?_
          refine mx_getR (mx_d tX12_odd_0 27 rfl) fX12_98 rfl rfl (ly12_o h0) (ly12_r14 h0) ?_
          refine mx_sipush (178) (mx_d tX12_odd_0 28 rfl) (by decide) ?_
          refine mx_iload_n (mx_d tX12_odd_0 29 rfl) rfl rfl ?_
          refine mx_iadd (mx_d tX12_odd_0 30 rfl) ?_
          obtain ⟨hi9, h⟩ := mx_chkE h
          refine mx_iaload (mx_d tX12_odd_0 31 rfl) (ly12_s14 h0) (mx_inbE hi9) ?_
          obtain ⟨r10, h_r10, h⟩ := Option.bind_eq_some_iff.mp h
          refine mx_cVi (mx_d tX12_odd_0 32 rfl) iX12_257 rfl vX12_pairsIn ⟨_, rfl, rfl⟩ (ly12_o h0) (CX12_pairsIn h0 h_r10) (by decide) rfl rfl (Nat.le_of_ble_eq_true rfl) ?_
          obtain rfl := Option.some.inj h
          exact mx_ireturn (mx_d tX12_odd_0 33 rfl) rfl ⟨rfl, rfl⟩
        · rw [if_neg hc8] at h
          have z_hc4 := lv_neT hc4 (a := 0) (by decide)
          have z_hc6 := lv_neT hc6 (a := 1) (by decide)
          have z_hc8 := lv_neT hc8 (a := 2) (by decide)
          refine mx_tableOut (tgt := 81) (mx_d tX12_odd_0 10 rfl) (by omega) (by decide) ?_
          refine mx_iconst ((-1)) (mx_d tX12_odd_0 34 rfl) (by decide) ?_
          obtain rfl := Option.some.inj h
          exact mx_ireturn (mx_d tX12_odd_0 35 rfl) rfl ⟨rfl, rfl⟩
  · rw [if_pos hc3] at h
    refine mx_iconst ((-1)) (mx_d tX12_odd_0 7 rfl) (by decide) ?_
    obtain rfl := Option.some.inj h
    exact mx_ireturn (mx_d tX12_odd_0 8 rfl) rfl ⟨rfl, rfl⟩
def FX12_now_L64 (q0 : Nat) (m : mB) : Nat → Int32 → Int32 → Option (Int32)
  | 0, _, _ => none
  | f + 1, y2, y3 => (if (m.1 (q0 + 2) 0) ≤ y3 then (some (y2)) else Option.bind (FX12_isLone q0 y3 m) (fun r8 => (if r8 = 0 then mx_let (y3 + 1) (fun v10 => (FX12_now_L64 q0 m f y2 v10)) else mx_let (y2 ||| ((1 : Int32) <<< (y3 &&& 31))) (fun v11 => mx_let (y3 + 1) (fun v12 => (FX12_now_L64 q0 m f v11 v12))))))
set_option maxRecDepth 20000 in
theorem CX12_now_L64 {G : mG} {l : Launch} {e : mE} {Post : Option Value → mS → Prop} {q0 : Nat} {m : mB} (g0 : ly12 e q0) : ∀ (f : Nat) {y2 : Int32} {y3 : Int32} {q : (Int32)}, FX12_now_L64 q0 m f y2 y3 = some q → (mx_Fr G l MX12_now 4 0 0 Post 94 [.float 0, .float 0, .int q, .float 0] [] (e, m)) → mx_Fr G l MX12_now 4 0 0 Post 64 [.ref q0, .float 0, .int y2, .int y3] [] (e, m) := by
  intro f
  induction f with
  | zero => intro _ _ _ h; cases h
  | succ f ih =>
    intro y2 y3 q h hex
    rw [FX12_now_L64] at h
    refine mx_iload_n (mx_d tX12_now_0 15 rfl) rfl rfl ?_
    refine mx_aload_n (mx_d tX12_now_0 16 rfl) rfl rfl ?_
    refine mx_getR (mx_d tX12_now_0 17 rfl) fX12_98 rfl rfl (ly12_o g0) (ly12_r14 g0) ?_
    refine mx_iconst (0) (mx_d tX12_now_0 18 rfl) (by decide) ?_
    refine mx_ialoadC 0 (mx_d tX12_now_0 19 rfl) (ly12_s14 g0) (by decide) (mx_inbE (by decide)) ?_
    refine mx_icmp_ge (tgt := 94) (mx_d tX12_now_0 20 rfl) (by decide) (fun hc7 => ?_) (fun hc7 => ?_)
    · rw [if_pos hc7] at h
      obtain rfl := Option.some.inj h
      refine mx_forget (L' := [.float 0, .float 0, .int y2, .float 0]) ⟨rfl, trivial⟩ ?_
      exact hex
    · rw [if_neg hc7] at h
      refine mx_aload_n (mx_d tX12_now_0 21 rfl) rfl rfl ?_
      refine mx_iload_n (mx_d tX12_now_0 22 rfl) rfl rfl ?_
      obtain ⟨r8, h_r8, h⟩ := Option.bind_eq_some_iff.mp h
      refine mx_cVi (mx_d tX12_now_0 23 rfl) iX12_294 rfl vX12_isLone ⟨_, rfl, rfl⟩ (ly12_o g0) (CX12_isLone g0 h_r8) (by decide) rfl rfl (Nat.le_of_ble_eq_true rfl) ?_
      refine mx_if_eq (tgt := 88) (mx_d tX12_now_0 24 rfl) (by decide) (fun hc9 => ?_) (fun hc9 => ?_)
      · rw [if_pos hc9] at h
        obtain ⟨v10, e_v10, h⟩ := mx_letE h
        refine mx_iinc v10 (L2 := [.ref q0, .float 0, .int y2, .int v10]) (mx_d tX12_now_0 31 rfl) rfl (by rw [e_v10]; rfl) (by decide) rfl ?_
        refine mx_goto (tgt := 64) (mx_d tX12_now_0 32 rfl) (by decide) ?_
        exact ih h hex
      · rw [if_neg hc9] at h
        refine mx_iload_n (mx_d tX12_now_0 25 rfl) rfl rfl ?_
        refine mx_iconst (1) (mx_d tX12_now_0 26 rfl) (by decide) ?_
        refine mx_iload_n (mx_d tX12_now_0 27 rfl) rfl rfl ?_
        refine mx_ishl (mx_d tX12_now_0 28 rfl) ?_
        refine mx_ior (mx_d tX12_now_0 29 rfl) ?_
        obtain ⟨v11, e_v11, h⟩ := mx_letE h
        refine mx_istore_n (L2 := [.ref q0, .float 0, .int v11, .int y3]) (mx_d tX12_now_0 30 rfl) rfl (by decide) (by rw [e_v11]; rfl) ?_
        obtain ⟨v12, e_v12, h⟩ := mx_letE h
        refine mx_iinc v12 (L2 := [.ref q0, .float 0, .int v11, .int v12]) (mx_d tX12_now_0 31 rfl) rfl (by rw [e_v12]; rfl) (by decide) rfl ?_
        refine mx_goto (tgt := 64) (mx_d tX12_now_0 32 rfl) (by decide) ?_
        exact ih h hex
def FX12_now_L98 (q0 : Nat) (m : mB) : Nat → Int32 → Int32 → Option (Int32)
  | 0, _, _ => none
  | f + 1, y2, y3 => (if (m.1 (q0 + 2) 1) ≤ y3 then (some (y2)) else Option.bind (FX12_slackOf q0 y3 m) (fun r16 => (if r16 = 0 then mx_let (y2 ||| ((1 : Int32) <<< (y3 &&& 31))) (fun v19 => mx_let (y3 + 1) (fun v20 => (FX12_now_L98 q0 m f v19 v20))) else mx_let (y3 + 1) (fun v18 => (FX12_now_L98 q0 m f y2 v18)))))
set_option maxRecDepth 20000 in
theorem CX12_now_L98 {G : mG} {l : Launch} {e : mE} {Post : Option Value → mS → Prop} {q0 : Nat} {m : mB} (g0 : ly12 e q0) : ∀ (f : Nat) {y2 : Int32} {y3 : Int32} {q : (Int32)}, FX12_now_L98 q0 m f y2 y3 = some q → (mx_Fr G l MX12_now 4 0 0 Post 128 [.float 0, .float 0, .int q, .float 0] [] (e, m)) → mx_Fr G l MX12_now 4 0 0 Post 98 [.ref q0, .float 0, .int y2, .int y3] [] (e, m) := by
  intro f
  induction f with
  | zero => intro _ _ _ h; cases h
  | succ f ih =>
    intro y2 y3 q h hex
    rw [FX12_now_L98] at h
    refine mx_iload_n (mx_d tX12_now_0 37 rfl) rfl rfl ?_
    refine mx_aload_n (mx_d tX12_now_0 38 rfl) rfl rfl ?_
    refine mx_getR (mx_d tX12_now_0 39 rfl) fX12_98 rfl rfl (ly12_o g0) (ly12_r14 g0) ?_
    refine mx_iconst (1) (mx_d tX12_now_0 40 rfl) (by decide) ?_
    refine mx_ialoadC 1 (mx_d tX12_now_0 41 rfl) (ly12_s14 g0) (by decide) (mx_inbE (by decide)) ?_
    refine mx_icmp_ge (tgt := 128) (mx_d tX12_now_0 42 rfl) (by decide) (fun hc15 => ?_) (fun hc15 => ?_)
    · rw [if_pos hc15] at h
      obtain rfl := Option.some.inj h
      refine mx_forget (L' := [.float 0, .float 0, .int y2, .float 0]) ⟨rfl, trivial⟩ ?_
      exact hex
    · rw [if_neg hc15] at h
      refine mx_aload_n (mx_d tX12_now_0 43 rfl) rfl rfl ?_
      refine mx_iload_n (mx_d tX12_now_0 44 rfl) rfl rfl ?_
      obtain ⟨r16, h_r16, h⟩ := Option.bind_eq_some_iff.mp h
      refine mx_cVi (mx_d tX12_now_0 45 rfl) iX12_269 rfl vX12_slackOf ⟨_, rfl, rfl⟩ (ly12_o g0) (CX12_slackOf g0 h_r16) (by decide) rfl rfl (Nat.le_of_ble_eq_true rfl) ?_
      refine mx_if_ne (tgt := 122) (mx_d tX12_now_0 46 rfl) (by decide) (fun hc17 => ?_) (fun hc17 => ?_)
      · rw [if_neg hc17] at h
        obtain ⟨v18, e_v18, h⟩ := mx_letE h
        refine mx_iinc v18 (L2 := [.ref q0, .float 0, .int y2, .int v18]) (mx_d tX12_now_0 53 rfl) rfl (by rw [e_v18]; rfl) (by decide) rfl ?_
        refine mx_goto (tgt := 98) (mx_d tX12_now_0 54 rfl) (by decide) ?_
        exact ih h hex
      · rw [if_pos hc17] at h
        refine mx_iload_n (mx_d tX12_now_0 47 rfl) rfl rfl ?_
        refine mx_iconst (1) (mx_d tX12_now_0 48 rfl) (by decide) ?_
        refine mx_iload_n (mx_d tX12_now_0 49 rfl) rfl rfl ?_
        refine mx_ishl (mx_d tX12_now_0 50 rfl) ?_
        refine mx_ior (mx_d tX12_now_0 51 rfl) ?_
        obtain ⟨v19, e_v19, h⟩ := mx_letE h
        refine mx_istore_n (L2 := [.ref q0, .float 0, .int v19, .int y3]) (mx_d tX12_now_0 52 rfl) rfl (by decide) (by rw [e_v19]; rfl) ?_
        obtain ⟨v20, e_v20, h⟩ := mx_letE h
        refine mx_iinc v20 (L2 := [.ref q0, .float 0, .int v19, .int v20]) (mx_d tX12_now_0 53 rfl) rfl (by rw [e_v20]; rfl) (by decide) rfl ?_
        refine mx_goto (tgt := 98) (mx_d tX12_now_0 54 rfl) (by decide) ?_
        exact ih h hex
def FX12_now (a : Nat) (x0 : Int32) (m : mB) : Option (Int32 × mB) := mx_let (mx_up m.1 a 0 0, m.2) (fun m1 => (if x0 = 0 then Option.bind (FX12_totalNow a m1) (fun r3 => (some (r3, m1))) else if x0 = 1 then Option.bind (FX12_pairMany a m1) (fun r5 => (some (r5, m1))) else if x0 = 2 then Option.bind (FX12_now_L64 a m1 mx_FU 0 0) (fun q13 => (some (q13, m1))) else if x0 = 3 then Option.bind (FX12_now_L98 a m1 mx_FU 0 0) (fun q21 => (some (q21, m1))) else if x0 = 4 then Option.bind (FX12_boundNow a m1) (fun r23 => (some (r23, m1))) else if x0 = 5 then (some ((m1.1 (a + 2) 126), m1)) else if x0 = 6 then (some ((m1.1 (a + 2) 127), m1)) else (some ((-1), m1))))
set_option maxRecDepth 20000 in
theorem CX12_now {G : mG} {l : Launch} {e : mE} {a : Nat} {x0 : Int32} {m : mB} {r : (Int32 × mB)} (h0 : ly12 e a) (h : FX12_now a x0 m = some r) : mx_Call G l MX12_now 4 0 0 [.ref a, .int x0] (e, m) (fun v z => v = some (.int r.1) ∧ z = (e, r.2)) := by
  refine mx_entry (L := [.ref a, .int x0, .float 0, .float 0]) (by decide +kernel) (Nat.le_of_ble_eq_true rfl) rfl ?_
  unfold FX12_now at h
  refine mx_aload_n (mx_d tX12_now_0 0 rfl) rfl rfl ?_
  refine mx_iconst (0) (mx_d tX12_now_0 1 rfl) (by decide) ?_
  obtain ⟨m1, e_m1, h⟩ := mx_letE h
  refine mx_putI (mx_d tX12_now_0 2 rfl) fX12_1 rfl ⟨_, rfl, rfl⟩ rfl (ly12_o h0) (mx_eqz (z' := (e, m1)) (by rw [e_m1]) ?_)
  refine mx_iconst (0) (mx_d tX12_now_0 3 rfl) (by decide) ?_
  refine mx_istore_n (L2 := [.ref a, .int x0, .int 0, .float 0]) (mx_d tX12_now_0 4 rfl) rfl (by decide) (by rfl) ?_
  refine mx_iload_n (mx_d tX12_now_0 5 rfl) rfl rfl ?_
  by_cases hc2 : x0 = 0
  · rw [if_pos hc2] at h
    refine mx_tableIn (tgt := 52) (mx_d tX12_now_0 6 rfl) (by rw [hc2]; decide) (by rw [hc2]; decide) (by rw [hc2]; rfl) (by decide) ?_
    refine mx_aload_n (mx_d tX12_now_0 7 rfl) rfl rfl ?_
    obtain ⟨r3, h_r3, h⟩ := Option.bind_eq_some_iff.mp h
    refine mx_cVi (mx_d tX12_now_0 8 rfl) iX12_288 rfl vX12_totalNow ⟨_, rfl, rfl⟩ (ly12_o h0) (CX12_totalNow h0 h_r3) (by decide) rfl rfl (Nat.le_of_ble_eq_true rfl) ?_
    obtain rfl := Option.some.inj h
    exact mx_ireturn (mx_d tX12_now_0 9 rfl) rfl ⟨rfl, rfl⟩
  · rw [if_neg hc2] at h
    by_cases hc4 : x0 = 1
    · rw [if_pos hc4] at h
      refine mx_tableIn (tgt := 57) (mx_d tX12_now_0 6 rfl) (by rw [hc4]; decide) (by rw [hc4]; decide) (by rw [hc4]; rfl) (by decide) ?_
      refine mx_aload_n (mx_d tX12_now_0 10 rfl) rfl rfl ?_
      obtain ⟨r5, h_r5, h⟩ := Option.bind_eq_some_iff.mp h
      refine mx_cVi (mx_d tX12_now_0 11 rfl) iX12_291 rfl vX12_pairMany ⟨_, rfl, rfl⟩ (ly12_o h0) (CX12_pairMany h0 h_r5) (by decide) rfl rfl (Nat.le_of_ble_eq_true rfl) ?_
      obtain rfl := Option.some.inj h
      exact mx_ireturn (mx_d tX12_now_0 12 rfl) rfl ⟨rfl, rfl⟩
    · rw [if_neg hc4] at h
      by_cases hc6 : x0 = 2
      · rw [if_pos hc6] at h
        refine mx_tableIn (tgt := 62) (mx_d tX12_now_0 6 rfl) (by rw [hc6]; decide) (by rw [hc6]; decide) (by rw [hc6]; rfl) (by decide) ?_
        refine mx_iconst (0) (mx_d tX12_now_0 13 rfl) (by decide) ?_
        refine mx_istore_n (L2 := [.ref a, .int x0, .int 0, .int 0]) (mx_d tX12_now_0 14 rfl) rfl (by decide) (by rfl) ?_
        obtain ⟨q13, h_q13, h⟩ := Option.bind_eq_some_iff.mp h
        refine mx_forget (L' := [.ref a, .float 0, .int 0, .int 0]) ⟨rfl, rfl, rfl, trivial⟩ ?_
        refine CX12_now_L64 h0 mx_FU h_q13 ?_
        refine mx_iload_n (mx_d tX12_now_0 33 rfl) rfl rfl ?_
        obtain rfl := Option.some.inj h
        exact mx_ireturn (mx_d tX12_now_0 34 rfl) rfl ⟨rfl, rfl⟩
      · rw [if_neg hc6] at h
        by_cases hc14 : x0 = 3
        · rw [if_pos hc14] at h
          refine mx_tableIn (tgt := 96) (mx_d tX12_now_0 6 rfl) (by rw [hc14]; decide) (by rw [hc14]; decide) (by rw [hc14]; rfl) (by decide) ?_
          refine mx_iconst (0) (mx_d tX12_now_0 35 rfl) (by decide) ?_
          refine mx_istore_n (L2 := [.ref a, .int x0, .int 0, .int 0]) (mx_d tX12_now_0 36 rfl) rfl (by decide) (by rfl) ?_
          obtain ⟨q21, h_q21, h⟩ := Option.bind_eq_some_iff.mp h
          refine mx_forget (L' := [.ref a, .float 0, .int 0, .int 0]) ⟨rfl, rfl, rfl, trivial⟩ ?_
          refine CX12_now_L98 h0 mx_FU h_q21 ?_
          refine mx_iload_n (mx_d tX12_now_0 55 rfl) rfl rfl ?_
          obtain rfl := Option.some.inj h
          exact mx_ireturn (mx_d tX12_now_0 56 rfl) rfl ⟨rfl, rfl⟩
        · rw [if_neg hc14] at h
          by_cases hc22 : x0 = 4
          · rw [if_pos hc22] at h
            refine mx_tableIn (tgt := 130) (mx_d tX12_now_0 6 rfl) (by rw [hc22]; decide) (by rw [hc22]; decide) (by rw [hc22]; rfl) (by decide) ?_
            refine mx_aload_n (mx_d tX12_now_0 57 rfl) rfl rfl ?_
            obtain ⟨r23, h_r23, h⟩ := Option.bind_eq_some_iff.mp h
            refine mx_cVi (mx_d tX12_now_0 58 rfl) iX12_297 rfl vX12_boundNow ⟨_, rfl, rfl⟩ (ly12_o h0) (CX12_boundNow h0 h_r23) (by decide) rfl rfl (Nat.le_of_ble_eq_true rfl) ?_
            obtain rfl := Option.some.inj h
            exact mx_ireturn (mx_d tX12_now_0 59 rfl) rfl ⟨rfl, rfl⟩
          · rw [if_neg hc22] at h
            by_cases hc24 : x0 = 5
            · rw [if_pos hc24] at h
              refine mx_tableIn (tgt := 135) (mx_d tX12_now_0 6 rfl) (by rw [hc24]; decide) (by rw [hc24]; decide) (by rw [hc24]; rfl) (by decide) ?_
              refine mx_aload_n (mx_d tX12_now_1 0 rfl) rfl rfl ?_
              refine mx_getR (mx_d tX12_now_1 1 rfl) fX12_98 rfl rfl (ly12_o h0) (ly12_r14 h0) ?_
              refine mx_bipush (126) (mx_d tX12_now_1 2 rfl) (by decide) ?_
              refine mx_ialoadC 126 (mx_d tX12_now_1 3 rfl) (ly12_s14 h0) (by decide) (mx_inbE (by decide)) ?_
              obtain rfl := Option.some.inj h
              exact mx_ireturn (mx_d tX12_now_1 4 rfl) rfl ⟨rfl, rfl⟩
            · rw [if_neg hc24] at h
              by_cases hc25 : x0 = 6
              · rw [if_pos hc25] at h
                refine mx_tableIn (tgt := 143) (mx_d tX12_now_0 6 rfl) (by rw [hc25]; decide) (by rw [hc25]; decide) (by rw [hc25]; rfl) (by decide) ?_
                refine mx_aload_n (mx_d tX12_now_1 5 rfl) rfl rfl ?_
                refine mx_getR (mx_d tX12_now_1 6 rfl) fX12_98 rfl rfl (ly12_o h0) (ly12_r14 h0) ?_
                refine mx_bipush (127) (mx_d tX12_now_1 7 rfl) (by decide) ?_
                refine mx_ialoadC 127 (mx_d tX12_now_1 8 rfl) (ly12_s14 h0) (by decide) (mx_inbE (by decide)) ?_
                obtain rfl := Option.some.inj h
                exact mx_ireturn (mx_d tX12_now_1 9 rfl) rfl ⟨rfl, rfl⟩
              · rw [if_neg hc25] at h
                have z_hc2 := lv_neT hc2 (a := 0) (by decide)
                have z_hc4 := lv_neT hc4 (a := 1) (by decide)
                have z_hc6 := lv_neT hc6 (a := 2) (by decide)
                have z_hc14 := lv_neT hc14 (a := 3) (by decide)
                have z_hc22 := lv_neT hc22 (a := 4) (by decide)
                have z_hc24 := lv_neT hc24 (a := 5) (by decide)
                have z_hc25 := lv_neT hc25 (a := 6) (by decide)
                refine mx_tableOut (tgt := 151) (mx_d tX12_now_0 6 rfl) (by omega) (by decide) ?_
                refine mx_iconst ((-1)) (mx_d tX12_now_1 10 rfl) (by decide) ?_
                obtain rfl := Option.some.inj h
                exact mx_ireturn (mx_d tX12_now_1 11 rfl) rfl ⟨rfl, rfl⟩
def FX12_goesOn_L25 (rec : Nat → Int32 → Int32 → Int32 → mB → Option (Int32 × mB)) (q0 : Nat) (y1 : Int32) (y2 : Int32) (y3 : Int32) (y4 : Int32) : Nat → Int32 → mB → Option ((Int32 × mB) ⊕ (mB))
  | 0, _, _ => none
  | f + 1, y5, m => (if (m.1 (q0 + 2) 0) ≤ y5 then (some (.inr m)) else Option.bind (FX12_has y3 y5 m) (fun r5 => (if r5 = 0 then Option.bind (FX12_areLinked q0 y4 y5 m) (fun r8 => (if r8 = 0 then mx_let (y5 + 1) (fun v10 => (FX12_goesOn_L25 rec q0 y1 y2 y3 y4 f v10 m)) else Option.bind (FX12_arePaired q0 y4 y5 m) (fun r11 => (if (y1 - y1 / 2 * 2) = 0 then (if r11 = 1 then mx_chk (mx_inb y1 10) (mx_let (mx_up m.1 (q0 + 13) (Int32.toNatClampNeg y1) y5, m.2) (fun m21 => Option.bind (rec q0 (y1 + 1) y2 (y3 ||| ((1 : Int32) <<< (y5 &&& 31))) m21) (fun r23 => (if r23.1 = 0 then mx_let (y5 + 1) (fun v25 => (FX12_goesOn_L25 rec q0 y1 y2 y3 y4 f v25 r23.2)) else (some (.inl (1, r23.2))))))) else mx_let (y5 + 1) (fun v26 => (FX12_goesOn_L25 rec q0 y1 y2 y3 y4 f v26 m))) else (if r11 = 0 then mx_chk (mx_inb y1 10) (mx_let (mx_up m.1 (q0 + 13) (Int32.toNatClampNeg y1) y5, m.2) (fun m14 => Option.bind (rec q0 (y1 + 1) y2 (y3 ||| ((1 : Int32) <<< (y5 &&& 31))) m14) (fun r16 => (if r16.1 = 0 then mx_let (y5 + 1) (fun v18 => (FX12_goesOn_L25 rec q0 y1 y2 y3 y4 f v18 r16.2)) else (some (.inl (1, r16.2))))))) else mx_let (y5 + 1) (fun v19 => (FX12_goesOn_L25 rec q0 y1 y2 y3 y4 f v19 m))))))) else mx_let (y5 + 1) (fun v7 => (FX12_goesOn_L25 rec q0 y1 y2 y3 y4 f v7 m)))))
set_option maxRecDepth 20000 in
theorem CX12_goesOn_L25 {G : mG} {l : Launch} {e : mE} {Post : Option Value → mS → Prop} {rec : Nat → Int32 → Int32 → Int32 → mB → Option (Int32 × mB)} {D : Nat} {q0 : Nat} {y1 : Int32} {y2 : Int32} {y3 : Int32} {y4 : Int32} (hrec : ∀ {a : Nat} {x0 : Int32} {x1 : Int32} {x2 : Int32} {m : mB} {r : (Int32 × mB)}, ly12 e a → rec a x0 x1 x2 m = some r → mx_Call G l MX12_goesOn D 0 0 [.ref a, .int x0, .int x1, .int x2] (e, m) (fun v z => v = some (.int r.1) ∧ z = (e, r.2))) (g0 : ly12 e q0) : ∀ (f : Nat) {y5 : Int32} {m : mB} {q : ((Int32 × mB) ⊕ (mB))}, FX12_goesOn_L25 rec q0 y1 y2 y3 y4 f y5 m = some q → (∀ rr, q = .inl rr → Post (some (.int rr.1)) (e, rr.2)) → (∀ u, q = .inr u → mx_Fr G l MX12_goesOn (D + 4) 0 0 Post 114 [.float 0, .float 0, .float 0, .float 0, .float 0, .float 0] [] (e, u)) → mx_Fr G l MX12_goesOn (D + 4) 0 0 Post 25 [.ref q0, .int y1, .int y2, .int y3, .int y4, .int y5] [] (e, m) := by
  intro f
  induction f with
  | zero => intro _ _ _ h; cases h
  | succ f ih =>
    intro y5 m q h hret hex
    rw [FX12_goesOn_L25] at h
    refine mx_iload (mx_d tX12_goesOn_0 16 rfl) rfl ?_
    refine mx_aload_n (mx_d tX12_goesOn_0 17 rfl) rfl rfl ?_
    refine mx_getR (mx_d tX12_goesOn_0 18 rfl) fX12_98 rfl rfl (ly12_o g0) (ly12_r14 g0) ?_
    refine mx_iconst (0) (mx_d tX12_goesOn_0 19 rfl) (by decide) ?_
    refine mx_ialoadC 0 (mx_d tX12_goesOn_0 20 rfl) (ly12_s14 g0) (by decide) (mx_inbE (by decide)) ?_
    refine mx_icmp_ge (tgt := 114) (mx_d tX12_goesOn_0 21 rfl) (by decide) (fun hc4 => ?_) (fun hc4 => ?_)
    · rw [if_pos hc4] at h
      obtain rfl := Option.some.inj h
      refine mx_forget (L' := [.float 0, .float 0, .float 0, .float 0, .float 0, .float 0]) trivial ?_
      exact (hex _ rfl)
    · rw [if_neg hc4] at h
      refine mx_iload_n (mx_d tX12_goesOn_0 22 rfl) rfl rfl ?_
      refine mx_iload (mx_d tX12_goesOn_0 23 rfl) rfl ?_
      obtain ⟨r5, h_r5, h⟩ := Option.bind_eq_some_iff.mp h
      refine mx_cSi (mx_d tX12_goesOn_0 24 rfl) iX12_210 rfl sX12_has (CX12_has  h_r5) (by omega) rfl rfl (Nat.le_of_ble_eq_true rfl) ?_
      refine mx_if_ne (tgt := 108) (mx_d tX12_goesOn_0 25 rfl) (by decide) (fun hc6 => ?_) (fun hc6 => ?_)
      · rw [if_neg hc6] at h
        obtain ⟨v7, e_v7, h⟩ := mx_letE h
        refine mx_iinc v7 (L2 := [.ref q0, .int y1, .int y2, .int y3, .int y4, .int v7]) (mx_d tX12_goesOn_1 3 rfl) rfl (by rw [e_v7]; rfl) (by decide) rfl ?_
        refine mx_goto (tgt := 25) (mx_d tX12_goesOn_1 4 rfl) (by decide) ?_
        exact ih h hret hex
      · rw [if_pos hc6] at h
        refine mx_aload_n (mx_d tX12_goesOn_0 26 rfl) rfl rfl ?_
        refine mx_iload (mx_d tX12_goesOn_0 27 rfl) rfl ?_
        refine mx_iload (mx_d tX12_goesOn_0 28 rfl) rfl ?_
        obtain ⟨r8, h_r8, h⟩ := Option.bind_eq_some_iff.mp h
        refine mx_cVi (mx_d tX12_goesOn_0 29 rfl) iX12_300 rfl vX12_areLinked ⟨_, rfl, rfl⟩ (ly12_o g0) (CX12_areLinked g0 h_r8) (by omega) rfl rfl (Nat.le_of_ble_eq_true rfl) ?_
        refine mx_if_eq (tgt := 108) (mx_d tX12_goesOn_0 30 rfl) (by decide) (fun hc9 => ?_) (fun hc9 => ?_)
        · rw [if_pos hc9] at h
          obtain ⟨v10, e_v10, h⟩ := mx_letE h
          refine mx_iinc v10 (L2 := [.ref q0, .int y1, .int y2, .int y3, .int y4, .int v10]) (mx_d tX12_goesOn_1 3 rfl) rfl (by rw [e_v10]; rfl) (by decide) rfl ?_
          refine mx_goto (tgt := 25) (mx_d tX12_goesOn_1 4 rfl) (by decide) ?_
          exact ih h hret hex
        · rw [if_neg hc9] at h
          refine mx_aload_n (mx_d tX12_goesOn_0 31 rfl) rfl rfl ?_
          refine mx_iload (mx_d tX12_goesOn_0 32 rfl) rfl ?_
          refine mx_iload (mx_d tX12_goesOn_0 33 rfl) rfl ?_
          obtain ⟨r11, h_r11, h⟩ := Option.bind_eq_some_iff.mp h
          refine mx_cVi (mx_d tX12_goesOn_0 34 rfl) iX12_254 rfl vX12_arePaired ⟨_, rfl, rfl⟩ (ly12_o g0) (CX12_arePaired g0 h_r11) (by omega) rfl rfl (Nat.le_of_ble_eq_true rfl) ?_
          refine mx_iload_n (mx_d tX12_goesOn_0 35 rfl) rfl rfl ?_
          refine mx_iconst (2) (mx_d tX12_goesOn_0 36 rfl) (by decide) ?_
          refine mx_irem (mx_d tX12_goesOn_0 37 rfl) (by decide) ?_
          refine mx_if_ne (tgt := 74) (mx_d tX12_goesOn_0 38 rfl) (by decide) (fun hc12 => ?_) (fun hc12 => ?_)
          · rw [if_neg hc12] at h
            refine mx_iconst (0) (mx_d tX12_goesOn_0 41 rfl) (by decide) ?_
            refine mx_icmp_eq (tgt := 81) (mx_d tX12_goesOn_0 42 rfl) (by decide) (fun hc13 => ?_) (fun hc13 => ?_)
            · rw [if_pos hc13] at h
              refine mx_aload_n (mx_d tX12_goesOn_0 44 rfl) rfl rfl ?_
              refine mx_getR (mx_d tX12_goesOn_0 45 rfl) fX12_133 rfl rfl (ly12_o g0) (ly12_r26 g0) ?_
              refine mx_iload_n (mx_d tX12_goesOn_0 46 rfl) rfl rfl ?_
              refine mx_iload (mx_d tX12_goesOn_0 47 rfl) rfl ?_
              obtain ⟨hi15, h⟩ := mx_chkE h
              obtain ⟨m14, e_m14, h⟩ := mx_letE h
              refine mx_iastore (mx_d tX12_goesOn_0 48 rfl) (ly12_s26 g0) (mx_inbE hi15) (mx_eqz (z' := (e, m14)) (by rw [e_m14]) ?_)
              refine mx_aload_n (mx_d tX12_goesOn_0 49 rfl) rfl rfl ?_
              refine mx_iload_n (mx_d tX12_goesOn_0 50 rfl) rfl rfl ?_
              refine mx_iconst (1) (mx_d tX12_goesOn_0 51 rfl) (by decide) ?_
              refine mx_iadd (mx_d tX12_goesOn_0 52 rfl) ?_
              refine mx_iload_n (mx_d tX12_goesOn_0 53 rfl) rfl rfl ?_
              refine mx_iload_n (mx_d tX12_goesOn_0 54 rfl) rfl rfl ?_
              refine mx_iconst (1) (mx_d tX12_goesOn_0 55 rfl) (by decide) ?_
              refine mx_iload (mx_d tX12_goesOn_0 56 rfl) rfl ?_
              refine mx_ishl (mx_d tX12_goesOn_0 57 rfl) ?_
              refine mx_ior (mx_d tX12_goesOn_0 58 rfl) ?_
              obtain ⟨r16, h_r16, h⟩ := Option.bind_eq_some_iff.mp h
              refine mx_cVi (mx_d tX12_goesOn_0 59 rfl) iX12_303 rfl vX12_goesOn ⟨_, rfl, rfl⟩ (ly12_o g0) (hrec g0 h_r16) (by omega) rfl rfl (Nat.le_of_ble_eq_true rfl) ?_
              refine mx_if_eq (tgt := 108) (mx_d tX12_goesOn_1 0 rfl) (by decide) (fun hc17 => ?_) (fun hc17 => ?_)
              · rw [if_pos hc17] at h
                obtain ⟨v18, e_v18, h⟩ := mx_letE h
                refine mx_iinc v18 (L2 := [.ref q0, .int y1, .int y2, .int y3, .int y4, .int v18]) (mx_d tX12_goesOn_1 3 rfl) rfl (by rw [e_v18]; rfl) (by decide) rfl ?_
                refine mx_goto (tgt := 25) (mx_d tX12_goesOn_1 4 rfl) (by decide) ?_
                exact ih h hret hex
              · rw [if_neg hc17] at h
                refine mx_iconst (1) (mx_d tX12_goesOn_1 1 rfl) (by decide) ?_
                obtain rfl := Option.some.inj h
                exact mx_zreturn (mx_d tX12_goesOn_1 2 rfl) rfl rfl (hret (1, r16.2) rfl)
            · rw [if_neg hc13] at h
              refine mx_goto (tgt := 108) (mx_d tX12_goesOn_0 43 rfl) (by decide) ?_
              obtain ⟨v19, e_v19, h⟩ := mx_letE h
              refine mx_iinc v19 (L2 := [.ref q0, .int y1, .int y2, .int y3, .int y4, .int v19]) (mx_d tX12_goesOn_1 3 rfl) rfl (by rw [e_v19]; rfl) (by decide) rfl ?_
              refine mx_goto (tgt := 25) (mx_d tX12_goesOn_1 4 rfl) (by decide) ?_
              exact ih h hret hex
          · rw [if_pos hc12] at h
            refine mx_iconst (1) (mx_d tX12_goesOn_0 39 rfl) (by decide) ?_
            refine mx_goto (tgt := 75) (mx_d tX12_goesOn_0 40 rfl) (by decide) ?_
            refine mx_icmp_eq (tgt := 81) (mx_d tX12_goesOn_0 42 rfl) (by decide) (fun hc20 => ?_) (fun hc20 => ?_)
            · rw [if_pos hc20] at h
              refine mx_aload_n (mx_d tX12_goesOn_0 44 rfl) rfl rfl ?_
              refine mx_getR (mx_d tX12_goesOn_0 45 rfl) fX12_133 rfl rfl (ly12_o g0) (ly12_r26 g0) ?_
              refine mx_iload_n (mx_d tX12_goesOn_0 46 rfl) rfl rfl ?_
              refine mx_iload (mx_d tX12_goesOn_0 47 rfl) rfl ?_
              obtain ⟨hi22, h⟩ := mx_chkE h
              obtain ⟨m21, e_m21, h⟩ := mx_letE h
              refine mx_iastore (mx_d tX12_goesOn_0 48 rfl) (ly12_s26 g0) (mx_inbE hi22) (mx_eqz (z' := (e, m21)) (by rw [e_m21]) ?_)
              refine mx_aload_n (mx_d tX12_goesOn_0 49 rfl) rfl rfl ?_
              refine mx_iload_n (mx_d tX12_goesOn_0 50 rfl) rfl rfl ?_
              refine mx_iconst (1) (mx_d tX12_goesOn_0 51 rfl) (by decide) ?_
              refine mx_iadd (mx_d tX12_goesOn_0 52 rfl) ?_
              refine mx_iload_n (mx_d tX12_goesOn_0 53 rfl) rfl rfl ?_
              refine mx_iload_n (mx_d tX12_goesOn_0 54 rfl) rfl rfl ?_
              refine mx_iconst (1) (mx_d tX12_goesOn_0 55 rfl) (by decide) ?_
              refine mx_iload (mx_d tX12_goesOn_0 56 rfl) rfl ?_
              refine mx_ishl (mx_d tX12_goesOn_0 57 rfl) ?_
              refine mx_ior (mx_d tX12_goesOn_0 58 rfl) ?_
              obtain ⟨r23, h_r23, h⟩ := Option.bind_eq_some_iff.mp h
              refine mx_cVi (mx_d tX12_goesOn_0 59 rfl) iX12_303 rfl vX12_goesOn ⟨_, rfl, rfl⟩ (ly12_o g0) (hrec g0 h_r23) (by omega) rfl rfl (Nat.le_of_ble_eq_true rfl) ?_
              refine mx_if_eq (tgt := 108) (mx_d tX12_goesOn_1 0 rfl) (by decide) (fun hc24 => ?_) (fun hc24 => ?_)
              · rw [if_pos hc24] at h
                obtain ⟨v25, e_v25, h⟩ := mx_letE h
                refine mx_iinc v25 (L2 := [.ref q0, .int y1, .int y2, .int y3, .int y4, .int v25]) (mx_d tX12_goesOn_1 3 rfl) rfl (by rw [e_v25]; rfl) (by decide) rfl ?_
                refine mx_goto (tgt := 25) (mx_d tX12_goesOn_1 4 rfl) (by decide) ?_
                exact ih h hret hex
              · rw [if_neg hc24] at h
                refine mx_iconst (1) (mx_d tX12_goesOn_1 1 rfl) (by decide) ?_
                obtain rfl := Option.some.inj h
                exact mx_zreturn (mx_d tX12_goesOn_1 2 rfl) rfl rfl (hret (1, r23.2) rfl)
            · rw [if_neg hc20] at h
              refine mx_goto (tgt := 108) (mx_d tX12_goesOn_0 43 rfl) (by decide) ?_
              obtain ⟨v26, e_v26, h⟩ := mx_letE h
              refine mx_iinc v26 (L2 := [.ref q0, .int y1, .int y2, .int y3, .int y4, .int v26]) (mx_d tX12_goesOn_1 3 rfl) rfl (by rw [e_v26]; rfl) (by decide) rfl ?_
              refine mx_goto (tgt := 25) (mx_d tX12_goesOn_1 4 rfl) (by decide) ?_
              exact ih h hret hex
def FX12_goesOn_B (rec : Nat → Int32 → Int32 → Int32 → mB → Option (Int32 × mB)) (a : Nat) (x0 : Int32) (x1 : Int32) (x2 : Int32) (m : mB) : Option (Int32 × mB) := mx_chk (mx_inb (x0 - 1) 10) (mx_let (m.1 (a + 13) (Int32.toNatClampNeg (x0 - 1))) (fun v2 => (if x0 = x1 then Option.bind (FX12_isLone a v2 m) (fun r30 => mx_chk (mx_b01 r30) ((some (r30, m)))) else Option.bind (FX12_goesOn_L25 rec a x0 x1 x2 v2 mx_FU 0 m) (fun q27 => Sum.elim (fun rr => some rr) (fun u28 => (some (0, u28))) q27))))
def FX12_goesOn : Nat → Nat → Int32 → Int32 → Int32 → mB → Option (Int32 × mB)
  | 0, _, _, _, _, _ => none
  | D + 1, a, x0, x1, x2, m => FX12_goesOn_B (FX12_goesOn D) a x0 x1 x2 m
set_option maxRecDepth 20000 in
theorem CX12_goesOn_B {G : mG} {l : Launch} {e : mE} {rec : Nat → Int32 → Int32 → Int32 → mB → Option (Int32 × mB)} {D : Nat} {a : Nat} {x0 : Int32} {x1 : Int32} {x2 : Int32} {m : mB} {r : (Int32 × mB)} (hrec : ∀ {a : Nat} {x0 : Int32} {x1 : Int32} {x2 : Int32} {m : mB} {r : (Int32 × mB)}, ly12 e a → rec a x0 x1 x2 m = some r → mx_Call G l MX12_goesOn D 0 0 [.ref a, .int x0, .int x1, .int x2] (e, m) (fun v z => v = some (.int r.1) ∧ z = (e, r.2))) (h0 : ly12 e a) (h : FX12_goesOn_B rec a x0 x1 x2 m = some r) : mx_Call G l MX12_goesOn (D + 4) 0 0 [.ref a, .int x0, .int x1, .int x2] (e, m) (fun v z => v = some (.int r.1) ∧ z = (e, r.2)) := by
  refine mx_entry (L := [.ref a, .int x0, .int x1, .int x2, .float 0, .float 0]) (by decide +kernel) (Nat.le_of_ble_eq_true rfl) rfl ?_
  unfold FX12_goesOn_B at h
  refine mx_aload_n (mx_d tX12_goesOn_0 0 rfl) rfl rfl ?_
  refine mx_getR (mx_d tX12_goesOn_0 1 rfl) fX12_133 rfl rfl (ly12_o h0) (ly12_r26 h0) ?_
  refine mx_iload_n (mx_d tX12_goesOn_0 2 rfl) rfl rfl ?_
  refine mx_iconst (1) (mx_d tX12_goesOn_0 3 rfl) (by decide) ?_
  refine mx_isub (mx_d tX12_goesOn_0 4 rfl) ?_
  obtain ⟨hi1, h⟩ := mx_chkE h
  refine mx_iaload (mx_d tX12_goesOn_0 5 rfl) (ly12_s26 h0) (mx_inbE hi1) ?_
  obtain ⟨v2, e_v2, h⟩ := mx_letE h
  refine mx_istore (L2 := [.ref a, .int x0, .int x1, .int x2, .int v2, .float 0]) (mx_d tX12_goesOn_0 6 rfl) (by decide) (by rw [e_v2]; rfl) ?_
  refine mx_iload_n (mx_d tX12_goesOn_0 7 rfl) rfl rfl ?_
  refine mx_iload_n (mx_d tX12_goesOn_0 8 rfl) rfl rfl ?_
  refine mx_icmp_ne (tgt := 22) (mx_d tX12_goesOn_0 9 rfl) (by decide) (fun hc3 => ?_) (fun hc3 => ?_)
  · rw [if_neg hc3] at h
    refine mx_iconst (0) (mx_d tX12_goesOn_0 14 rfl) (by decide) ?_
    refine mx_istore (L2 := [.ref a, .int x0, .int x1, .int x2, .int v2, .int 0]) (mx_d tX12_goesOn_0 15 rfl) (by decide) (by rfl) ?_
    obtain ⟨q27, h_q27, h⟩ := Option.bind_eq_some_iff.mp h
    refine CX12_goesOn_L25 hrec h0 mx_FU h_q27 (fun rr29 e_rr29 => ?_) (fun u28 e_u28 => ?_)
    · subst e_rr29
      rw [Sum.elim_inl] at h
      obtain rfl := Option.some.inj h
      exact ⟨rfl, rfl⟩
    · subst e_u28
      rw [Sum.elim_inr] at h
      refine mx_iconst (0) (mx_d tX12_goesOn_1 5 rfl) (by decide) ?_
      obtain rfl := Option.some.inj h
      exact mx_zreturn (mx_d tX12_goesOn_1 6 rfl) rfl rfl ⟨rfl, rfl⟩
  · rw [if_pos hc3] at h
    refine mx_aload_n (mx_d tX12_goesOn_0 10 rfl) rfl rfl ?_
    refine mx_iload (mx_d tX12_goesOn_0 11 rfl) rfl ?_
    obtain ⟨r30, h_r30, h⟩ := Option.bind_eq_some_iff.mp h
    refine mx_cVi (mx_d tX12_goesOn_0 12 rfl) iX12_294 rfl vX12_isLone ⟨_, rfl, rfl⟩ (ly12_o h0) (CX12_isLone h0 h_r30) (by omega) rfl rfl (Nat.le_of_ble_eq_true rfl) ?_
    obtain ⟨hb31, h⟩ := mx_chkE h
    obtain rfl := Option.some.inj h
    exact mx_zreturn (mx_d tX12_goesOn_0 13 rfl) rfl (mx_nb (mx_b01E hb31)) ⟨rfl, rfl⟩
theorem CX12_goesOn {G : mG} {l : Launch} {e : mE} : ∀ (D : Nat) {a : Nat} {x0 : Int32} {x1 : Int32} {x2 : Int32} {m : mB} {r : (Int32 × mB)}, ly12 e a → FX12_goesOn D a x0 x1 x2 m = some r → mx_Call G l MX12_goesOn (4 * D) 0 0 [.ref a, .int x0, .int x1, .int x2] (e, m) (fun v z => v = some (.int r.1) ∧ z = (e, r.2)) := by
  intro D
  induction D with
  | zero => intro _ _ _ _ _ _ _ h; cases h
  | succ D ih =>
    intro a x0 x1 x2 m r h0 h
    rw [FX12_goesOn] at h
    have hh := CX12_goesOn_B (rec := FX12_goesOn D) (D := 4 * D) (fun {_ _ _ _} {_} {_} zh0 hz => ih zh0 hz) h0 h
    rw [show 4 * (D + 1) = 4 * D + 4 by omega]
    exact hh
def FX12_layPath_L9 (q0 : Nat) (y1 : Int32) : Nat → Int32 → mB → Option ((Int32 × mB) ⊕ (mB))
  | 0, _, _ => none
  | f + 1, y2, m => (if (m.1 (q0 + 2) 0) < y2 then (some (.inr m)) else Option.bind (FX12_goesOn 64 q0 1 y2 ((1 : Int32) <<< (y1 &&& 31)) m) (fun r3 => (if r3.1 = 0 then mx_let (y2 + 2) (fun v5 => (FX12_layPath_L9 q0 y1 f v5 r3.2)) else (some (.inl (y2, r3.2))))))
set_option maxRecDepth 20000 in
theorem CX12_layPath_L9 {G : mG} {l : Launch} {e : mE} {Post : Option Value → mS → Prop} {q0 : Nat} {y1 : Int32} (g0 : ly12 e q0) : ∀ (f : Nat) {y2 : Int32} {m : mB} {q : ((Int32 × mB) ⊕ (mB))}, FX12_layPath_L9 q0 y1 f y2 m = some q → (∀ rr, q = .inl rr → Post (some (.int rr.1)) (e, rr.2)) → (∀ u, q = .inr u → mx_Fr G l MX12_layPath 257 0 0 Post 39 [.float 0, .float 0, .float 0] [] (e, u)) → mx_Fr G l MX12_layPath 257 0 0 Post 9 [.ref q0, .int y1, .int y2] [] (e, m) := by
  intro f
  induction f with
  | zero => intro _ _ _ h; cases h
  | succ f ih =>
    intro y2 m q h hret hex
    rw [FX12_layPath_L9] at h
    refine mx_iload_n (mx_d tX12_layPath_0 7 rfl) rfl rfl ?_
    refine mx_aload_n (mx_d tX12_layPath_0 8 rfl) rfl rfl ?_
    refine mx_getR (mx_d tX12_layPath_0 9 rfl) fX12_98 rfl rfl (ly12_o g0) (ly12_r14 g0) ?_
    refine mx_iconst (0) (mx_d tX12_layPath_0 10 rfl) (by decide) ?_
    refine mx_ialoadC 0 (mx_d tX12_layPath_0 11 rfl) (ly12_s14 g0) (by decide) (mx_inbE (by decide)) ?_
    refine mx_icmp_gt (tgt := 39) (mx_d tX12_layPath_0 12 rfl) (by decide) (fun hc2 => ?_) (fun hc2 => ?_)
    · rw [if_pos hc2] at h
      obtain rfl := Option.some.inj h
      refine mx_forget (L' := [.float 0, .float 0, .float 0]) trivial ?_
      exact (hex _ rfl)
    · rw [if_neg hc2] at h
      refine mx_aload_n (mx_d tX12_layPath_0 13 rfl) rfl rfl ?_
      refine mx_iconst (1) (mx_d tX12_layPath_0 14 rfl) (by decide) ?_
      refine mx_iload_n (mx_d tX12_layPath_0 15 rfl) rfl rfl ?_
      refine mx_iconst (1) (mx_d tX12_layPath_0 16 rfl) (by decide) ?_
      refine mx_iload_n (mx_d tX12_layPath_0 17 rfl) rfl rfl ?_
      refine mx_ishl (mx_d tX12_layPath_0 18 rfl) ?_
      obtain ⟨r3, h_r3, h⟩ := Option.bind_eq_some_iff.mp h
      refine mx_cVi (mx_d tX12_layPath_0 19 rfl) iX12_303 rfl vX12_goesOn ⟨_, rfl, rfl⟩ (ly12_o g0) (CX12_goesOn 64 g0 h_r3) (by decide) rfl rfl (Nat.le_of_ble_eq_true rfl) ?_
      refine mx_if_eq (tgt := 33) (mx_d tX12_layPath_0 20 rfl) (by decide) (fun hc4 => ?_) (fun hc4 => ?_)
      · rw [if_pos hc4] at h
        obtain ⟨v5, e_v5, h⟩ := mx_letE h
        refine mx_iinc v5 (L2 := [.ref q0, .int y1, .int v5]) (mx_d tX12_layPath_0 23 rfl) rfl (by rw [e_v5]; rfl) (by decide) rfl ?_
        refine mx_goto (tgt := 9) (mx_d tX12_layPath_0 24 rfl) (by decide) ?_
        exact ih h hret hex
      · rw [if_neg hc4] at h
        refine mx_iload_n (mx_d tX12_layPath_0 21 rfl) rfl rfl ?_
        obtain rfl := Option.some.inj h
        exact mx_ireturn (mx_d tX12_layPath_0 22 rfl) rfl (hret (y2, r3.2) rfl)
def FX12_layPath (a : Nat) (x0 : Int32) (m : mB) : Option (Int32 × mB) := mx_let (mx_up m.1 (a + 13) 0 x0, m.2) (fun m1 => Option.bind (FX12_layPath_L9 a x0 mx_FU 2 m1) (fun q6 => Sum.elim (fun rr => some rr) (fun u7 => (some (0, u7))) q6))
set_option maxRecDepth 20000 in
theorem CX12_layPath {G : mG} {l : Launch} {e : mE} {a : Nat} {x0 : Int32} {m : mB} {r : (Int32 × mB)} (h0 : ly12 e a) (h : FX12_layPath a x0 m = some r) : mx_Call G l MX12_layPath 257 0 0 [.ref a, .int x0] (e, m) (fun v z => v = some (.int r.1) ∧ z = (e, r.2)) := by
  refine mx_entry (L := [.ref a, .int x0, .float 0]) (by decide +kernel) (Nat.le_of_ble_eq_true rfl) rfl ?_
  unfold FX12_layPath at h
  refine mx_aload_n (mx_d tX12_layPath_0 0 rfl) rfl rfl ?_
  refine mx_getR (mx_d tX12_layPath_0 1 rfl) fX12_133 rfl rfl (ly12_o h0) (ly12_r26 h0) ?_
  refine mx_iconst (0) (mx_d tX12_layPath_0 2 rfl) (by decide) ?_
  refine mx_iload_n (mx_d tX12_layPath_0 3 rfl) rfl rfl ?_
  obtain ⟨m1, e_m1, h⟩ := mx_letE h
  refine mx_iastoreC 0 (mx_d tX12_layPath_0 4 rfl) (ly12_s26 h0) (by decide) (mx_inbE (by decide)) (mx_eqz (z' := (e, m1)) (by rw [e_m1]) ?_)
  refine mx_iconst (2) (mx_d tX12_layPath_0 5 rfl) (by decide) ?_
  refine mx_istore_n (L2 := [.ref a, .int x0, .int 2]) (mx_d tX12_layPath_0 6 rfl) rfl (by decide) (by rfl) ?_
  obtain ⟨q6, h_q6, h⟩ := Option.bind_eq_some_iff.mp h
  refine CX12_layPath_L9 h0 mx_FU h_q6 (fun rr8 e_rr8 => ?_) (fun u7 e_u7 => ?_)
  · subst e_rr8
    rw [Sum.elim_inl] at h
    obtain rfl := Option.some.inj h
    exact ⟨rfl, rfl⟩
  · subst e_u7
    rw [Sum.elim_inr] at h
    refine mx_iconst (0) (mx_d tX12_layPath_0 25 rfl) (by decide) ?_
    obtain rfl := Option.some.inj h
    exact mx_ireturn (mx_d tX12_layPath_0 26 rfl) rfl ⟨rfl, rfl⟩
def FX12_isPath_L2 (q0 : Nat) (q1 : Nat) (w1 : Nat) (y2 : Int32) (m : mB) : Nat → Int32 → Option (Int32 ⊕ (Unit))
  | 0, _ => none
  | f + 1, y3 => (if y2 ≤ y3 then (some (.inr ())) else mx_chk (mx_inb y3 w1) (Option.bind (FX12_isPoint q0 (m.1 q1 (Int32.toNatClampNeg y3)) m) (fun r3 => (if r3 = 0 then (some (.inl 0)) else mx_let (y3 + 1) (fun v5 => (FX12_isPath_L2 q0 q1 w1 y2 m f v5))))))
set_option maxRecDepth 20000 in
theorem CX12_isPath_L2 {G : mG} {l : Launch} {e : mE} {Post : Option Value → mS → Prop} {q0 : Nat} {q1 : Nat} {w1 : Nat} {y2 : Int32} {m : mB} (g0 : ly12 e q0) (g1 : mx_is e q1 100 w1) : ∀ (f : Nat) {y3 : Int32} {q : (Int32 ⊕ (Unit))}, FX12_isPath_L2 q0 q1 w1 y2 m f y3 = some q → (∀ rr, q = .inl rr → Post (some (.int rr)) (e, m)) → (∀ u, q = .inr u → mx_Fr G l MX12_isPath 4 0 0 Post 25 [.ref q0, .ref q1, .int y2, .float 0] [] (e, m)) → mx_Fr G l MX12_isPath 4 0 0 Post 2 [.ref q0, .ref q1, .int y2, .int y3] [] (e, m) := by
  intro f
  induction f with
  | zero => intro _ _ h; cases h
  | succ f ih =>
    intro y3 q h hret hex
    rw [FX12_isPath_L2] at h
    refine mx_iload_n (mx_d tX12_isPath_0 2 rfl) rfl rfl ?_
    refine mx_iload_n (mx_d tX12_isPath_0 3 rfl) rfl rfl ?_
    refine mx_icmp_ge (tgt := 25) (mx_d tX12_isPath_0 4 rfl) (by decide) (fun hc1 => ?_) (fun hc1 => ?_)
    · rw [if_pos hc1] at h
      obtain rfl := Option.some.inj h
      refine mx_forget (L' := [.ref q0, .ref q1, .int y2, .float 0]) ⟨rfl, rfl, rfl, trivial⟩ ?_
      exact (hex _ rfl)
    · rw [if_neg hc1] at h
      refine mx_aload_n (mx_d tX12_isPath_0 5 rfl) rfl rfl ?_
      refine mx_aload_n (mx_d tX12_isPath_0 6 rfl) rfl rfl ?_
      refine mx_iload_n (mx_d tX12_isPath_0 7 rfl) rfl rfl ?_
      obtain ⟨hi2, h⟩ := mx_chkE h
      refine mx_iaload (mx_d tX12_isPath_0 8 rfl) g1 (mx_inbE hi2) ?_
      obtain ⟨r3, h_r3, h⟩ := Option.bind_eq_some_iff.mp h
      refine mx_cVi (mx_d tX12_isPath_0 9 rfl) iX12_247 rfl vX12_isPoint ⟨_, rfl, rfl⟩ (ly12_o g0) (CX12_isPoint g0 h_r3) (by decide) rfl rfl (Nat.le_of_ble_eq_true rfl) ?_
      refine mx_if_ne (tgt := 19) (mx_d tX12_isPath_0 10 rfl) (by decide) (fun hc4 => ?_) (fun hc4 => ?_)
      · rw [if_neg hc4] at h
        obtain ⟨v5, e_v5, h⟩ := mx_letE h
        refine mx_iinc v5 (L2 := [.ref q0, .ref q1, .int y2, .int v5]) (mx_d tX12_isPath_0 13 rfl) rfl (by rw [e_v5]; rfl) (by decide) rfl ?_
        refine mx_goto (tgt := 2) (mx_d tX12_isPath_0 14 rfl) (by decide) ?_
        exact ih h hret hex
      · rw [if_pos hc4] at h
        refine mx_iconst (0) (mx_d tX12_isPath_0 11 rfl) (by decide) ?_
        obtain rfl := Option.some.inj h
        exact mx_zreturn (mx_d tX12_isPath_0 12 rfl) rfl rfl (hret 0 rfl)
def FX12_isPath_L27 (q0 : Nat) (q1 : Nat) (w1 : Nat) (y2 : Int32) (m : mB) : Nat → Int32 → Option (Int32 ⊕ (Unit))
  | 0, _ => none
  | f + 1, y3 => (if y2 ≤ y3 then (some (.inr ())) else mx_chk (mx_inb (y3 - 1) w1) (mx_chk (mx_inb y3 w1) (Option.bind (FX12_areLinked q0 (m.1 q1 (Int32.toNatClampNeg (y3 - 1))) (m.1 q1 (Int32.toNatClampNeg y3)) m) (fun r12 => (if r12 = 0 then (some (.inl 0)) else Option.bind (FX12_arePaired q0 (m.1 q1 (Int32.toNatClampNeg (y3 - 1))) (m.1 q1 (Int32.toNatClampNeg y3)) m) (fun r14 => (if (y3 - y3 / 2 * 2) = 0 then (if r14 = 1 then mx_let (y3 + 1) (fun v19 => (FX12_isPath_L27 q0 q1 w1 y2 m f v19)) else (some (.inl 0))) else (if r14 = 0 then mx_let (y3 + 1) (fun v17 => (FX12_isPath_L27 q0 q1 w1 y2 m f v17)) else (some (.inl 0))))))))))
set_option maxRecDepth 20000 in
theorem CX12_isPath_L27 {G : mG} {l : Launch} {e : mE} {Post : Option Value → mS → Prop} {q0 : Nat} {q1 : Nat} {w1 : Nat} {y2 : Int32} {m : mB} (g0 : ly12 e q0) (g1 : mx_is e q1 100 w1) : ∀ (f : Nat) {y3 : Int32} {q : (Int32 ⊕ (Unit))}, FX12_isPath_L27 q0 q1 w1 y2 m f y3 = some q → (∀ rr, q = .inl rr → Post (some (.int rr)) (e, m)) → (∀ u, q = .inr u → mx_Fr G l MX12_isPath 4 0 0 Post 81 [.ref q0, .ref q1, .int y2, .float 0] [] (e, m)) → mx_Fr G l MX12_isPath 4 0 0 Post 27 [.ref q0, .ref q1, .int y2, .int y3] [] (e, m) := by
  intro f
  induction f with
  | zero => intro _ _ h; cases h
  | succ f ih =>
    intro y3 q h hret hex
    rw [FX12_isPath_L27] at h
    refine mx_iload_n (mx_d tX12_isPath_0 17 rfl) rfl rfl ?_
    refine mx_iload_n (mx_d tX12_isPath_0 18 rfl) rfl rfl ?_
    refine mx_icmp_ge (tgt := 81) (mx_d tX12_isPath_0 19 rfl) (by decide) (fun hc9 => ?_) (fun hc9 => ?_)
    · rw [if_pos hc9] at h
      obtain rfl := Option.some.inj h
      refine mx_forget (L' := [.ref q0, .ref q1, .int y2, .float 0]) ⟨rfl, rfl, rfl, trivial⟩ ?_
      exact (hex _ rfl)
    · rw [if_neg hc9] at h
      refine mx_aload_n (mx_d tX12_isPath_0 20 rfl) rfl rfl ?_
      refine mx_aload_n (mx_d tX12_isPath_0 21 rfl) rfl rfl ?_
      refine mx_iload_n (mx_d tX12_isPath_0 22 rfl) rfl rfl ?_
      refine mx_iconst (1) (mx_d tX12_isPath_0 23 rfl) (by decide) ?_
      refine mx_isub (mx_d tX12_isPath_0 24 rfl) ?_
      obtain ⟨hi10, h⟩ := mx_chkE h
      refine mx_iaload (mx_d tX12_isPath_0 25 rfl) g1 (mx_inbE hi10) ?_
      refine mx_aload_n (mx_d tX12_isPath_0 26 rfl) rfl rfl ?_
      refine mx_iload_n (mx_d tX12_isPath_0 27 rfl) rfl rfl ?_
      obtain ⟨hi11, h⟩ := mx_chkE h
      refine mx_iaload (mx_d tX12_isPath_0 28 rfl) g1 (mx_inbE hi11) ?_
      obtain ⟨r12, h_r12, h⟩ := Option.bind_eq_some_iff.mp h
      refine mx_cVi (mx_d tX12_isPath_0 29 rfl) iX12_300 rfl vX12_areLinked ⟨_, rfl, rfl⟩ (ly12_o g0) (CX12_areLinked g0 h_r12) (by decide) rfl rfl (Nat.le_of_ble_eq_true rfl) ?_
      refine mx_if_eq (tgt := 73) (mx_d tX12_isPath_0 30 rfl) (by decide) (fun hc13 => ?_) (fun hc13 => ?_)
      · rw [if_pos hc13] at h
        refine mx_iconst (0) (mx_d tX12_isPath_0 49 rfl) (by decide) ?_
        obtain rfl := Option.some.inj h
        exact mx_zreturn (mx_d tX12_isPath_0 50 rfl) rfl rfl (hret 0 rfl)
      · rw [if_neg hc13] at h
        refine mx_aload_n (mx_d tX12_isPath_0 31 rfl) rfl rfl ?_
        refine mx_aload_n (mx_d tX12_isPath_0 32 rfl) rfl rfl ?_
        refine mx_iload_n (mx_d tX12_isPath_0 33 rfl) rfl rfl ?_
        refine mx_iconst (1) (mx_d tX12_isPath_0 34 rfl) (by decide) ?_
        refine mx_isub (mx_d tX12_isPath_0 35 rfl) ?_
        refine mx_iaload (mx_d tX12_isPath_0 36 rfl) g1 (mx_inbE hi10) ?_
        refine mx_aload_n (mx_d tX12_isPath_0 37 rfl) rfl rfl ?_
        refine mx_iload_n (mx_d tX12_isPath_0 38 rfl) rfl rfl ?_
        refine mx_iaload (mx_d tX12_isPath_0 39 rfl) g1 (mx_inbE hi11) ?_
        obtain ⟨r14, h_r14, h⟩ := Option.bind_eq_some_iff.mp h
        refine mx_cVi (mx_d tX12_isPath_0 40 rfl) iX12_254 rfl vX12_arePaired ⟨_, rfl, rfl⟩ (ly12_o g0) (CX12_arePaired g0 h_r14) (by decide) rfl rfl (Nat.le_of_ble_eq_true rfl) ?_
        refine mx_iload_n (mx_d tX12_isPath_0 41 rfl) rfl rfl ?_
        refine mx_iconst (2) (mx_d tX12_isPath_0 42 rfl) (by decide) ?_
        refine mx_irem (mx_d tX12_isPath_0 43 rfl) (by decide) ?_
        refine mx_if_ne (tgt := 69) (mx_d tX12_isPath_0 44 rfl) (by decide) (fun hc15 => ?_) (fun hc15 => ?_)
        · rw [if_neg hc15] at h
          refine mx_iconst (0) (mx_d tX12_isPath_0 47 rfl) (by decide) ?_
          refine mx_icmp_eq (tgt := 75) (mx_d tX12_isPath_0 48 rfl) (by decide) (fun hc16 => ?_) (fun hc16 => ?_)
          · rw [if_pos hc16] at h
            obtain ⟨v17, e_v17, h⟩ := mx_letE h
            refine mx_iinc v17 (L2 := [.ref q0, .ref q1, .int y2, .int v17]) (mx_d tX12_isPath_0 51 rfl) rfl (by rw [e_v17]; rfl) (by decide) rfl ?_
            refine mx_goto (tgt := 27) (mx_d tX12_isPath_0 52 rfl) (by decide) ?_
            exact ih h hret hex
          · rw [if_neg hc16] at h
            refine mx_iconst (0) (mx_d tX12_isPath_0 49 rfl) (by decide) ?_
            obtain rfl := Option.some.inj h
            exact mx_zreturn (mx_d tX12_isPath_0 50 rfl) rfl rfl (hret 0 rfl)
        · rw [if_pos hc15] at h
          refine mx_iconst (1) (mx_d tX12_isPath_0 45 rfl) (by decide) ?_
          refine mx_goto (tgt := 70) (mx_d tX12_isPath_0 46 rfl) (by decide) ?_
          refine mx_icmp_eq (tgt := 75) (mx_d tX12_isPath_0 48 rfl) (by decide) (fun hc18 => ?_) (fun hc18 => ?_)
          · rw [if_pos hc18] at h
            obtain ⟨v19, e_v19, h⟩ := mx_letE h
            refine mx_iinc v19 (L2 := [.ref q0, .ref q1, .int y2, .int v19]) (mx_d tX12_isPath_0 51 rfl) rfl (by rw [e_v19]; rfl) (by decide) rfl ?_
            refine mx_goto (tgt := 27) (mx_d tX12_isPath_0 52 rfl) (by decide) ?_
            exact ih h hret hex
          · rw [if_neg hc18] at h
            refine mx_iconst (0) (mx_d tX12_isPath_0 49 rfl) (by decide) ?_
            obtain rfl := Option.some.inj h
            exact mx_zreturn (mx_d tX12_isPath_0 50 rfl) rfl rfl (hret 0 rfl)
def FX12_isPath (a : Nat) (p0 : Nat) (n0 : Nat) (x1 : Int32) (m : mB) : Option Int32 := Option.bind (FX12_isPath_L2 a p0 n0 x1 m mx_FU 0) (fun q6 => Sum.elim (fun rr => some rr) (fun u7 => Option.bind (FX12_isPath_L27 a p0 n0 x1 m mx_FU 1) (fun q20 => Sum.elim (fun rr => some rr) (fun u21 => (if x1 ≤ 0 then (some 0) else mx_chk (mx_inb 0 n0) (Option.bind (FX12_isLone a (m.1 p0 (Int32.toNatClampNeg 0)) m) (fun r25 => (if r25 = 0 then (some 0) else mx_chk (mx_inb (x1 - 1) n0) (Option.bind (FX12_isLone a (m.1 p0 (Int32.toNatClampNeg (x1 - 1))) m) (fun r28 => (if r28 = 0 then (some 0) else (some 1))))))))) q20)) q6)
set_option maxRecDepth 20000 in
theorem CX12_isPath {G : mG} {l : Launch} {e : mE} {a : Nat} {p0 : Nat} {n0 : Nat} {x1 : Int32} {m : mB} {r : Int32} (h0 : ly12 e a) (h1 : mx_is e p0 100 n0) (h : FX12_isPath a p0 n0 x1 m = some r) : mx_Call G l MX12_isPath 4 0 0 [.ref a, .ref p0, .int x1] (e, m) (fun v z => v = some (.int r) ∧ z = (e, m)) := by
  refine mx_entry (L := [.ref a, .ref p0, .int x1, .float 0]) (by decide +kernel) (Nat.le_of_ble_eq_true rfl) rfl ?_
  unfold FX12_isPath at h
  refine mx_iconst (0) (mx_d tX12_isPath_0 0 rfl) (by decide) ?_
  refine mx_istore_n (L2 := [.ref a, .ref p0, .int x1, .int 0]) (mx_d tX12_isPath_0 1 rfl) rfl (by decide) (by rfl) ?_
  obtain ⟨q6, h_q6, h⟩ := Option.bind_eq_some_iff.mp h
  refine CX12_isPath_L2 h0 h1 mx_FU h_q6 (fun rr8 e_rr8 => ?_) (fun u7 e_u7 => ?_)
  · subst e_rr8
    rw [Sum.elim_inl] at h
    obtain rfl := Option.some.inj h
    exact ⟨rfl, rfl⟩
  · subst e_u7
    rw [Sum.elim_inr] at h
    refine mx_iconst (1) (mx_d tX12_isPath_0 15 rfl) (by decide) ?_
    refine mx_istore_n (L2 := [.ref a, .ref p0, .int x1, .int 1]) (mx_d tX12_isPath_0 16 rfl) rfl (by decide) (by rfl) ?_
    obtain ⟨q20, h_q20, h⟩ := Option.bind_eq_some_iff.mp h
    refine CX12_isPath_L27 h0 h1 mx_FU h_q20 (fun rr22 e_rr22 => ?_) (fun u21 e_u21 => ?_)
    · subst e_rr22
      rw [Sum.elim_inl] at h
      obtain rfl := Option.some.inj h
      exact ⟨rfl, rfl⟩
    · subst e_u21
      rw [Sum.elim_inr] at h
      refine mx_iload_n (mx_d tX12_isPath_0 53 rfl) rfl rfl ?_
      refine mx_if_le (tgt := 111) (mx_d tX12_isPath_0 54 rfl) (by decide) (fun hc23 => ?_) (fun hc23 => ?_)
      · rw [if_pos hc23] at h
        refine mx_iconst (0) (mx_d tX12_isPath_1 11 rfl) (by decide) ?_
        obtain rfl := Option.some.inj h
        exact mx_zreturn (mx_d tX12_isPath_1 12 rfl) rfl rfl ⟨rfl, rfl⟩
      · rw [if_neg hc23] at h
        refine mx_aload_n (mx_d tX12_isPath_0 55 rfl) rfl rfl ?_
        refine mx_aload_n (mx_d tX12_isPath_0 56 rfl) rfl rfl ?_
        refine mx_iconst (0) (mx_d tX12_isPath_0 57 rfl) (by decide) ?_
        obtain ⟨hi24, h⟩ := mx_chkE h
        refine mx_iaload (mx_d tX12_isPath_0 58 rfl) h1 (mx_inbE hi24) ?_
        obtain ⟨r25, h_r25, h⟩ := Option.bind_eq_some_iff.mp h
        refine mx_cVi (mx_d tX12_isPath_0 59 rfl) iX12_294 rfl vX12_isLone ⟨_, rfl, rfl⟩ (ly12_o h0) (CX12_isLone h0 h_r25) (by decide) rfl rfl (Nat.le_of_ble_eq_true rfl) ?_
        refine mx_if_eq (tgt := 111) (mx_d tX12_isPath_1 0 rfl) (by decide) (fun hc26 => ?_) (fun hc26 => ?_)
        · rw [if_pos hc26] at h
          refine mx_iconst (0) (mx_d tX12_isPath_1 11 rfl) (by decide) ?_
          obtain rfl := Option.some.inj h
          exact mx_zreturn (mx_d tX12_isPath_1 12 rfl) rfl rfl ⟨rfl, rfl⟩
        · rw [if_neg hc26] at h
          refine mx_aload_n (mx_d tX12_isPath_1 1 rfl) rfl rfl ?_
          refine mx_aload_n (mx_d tX12_isPath_1 2 rfl) rfl rfl ?_
          refine mx_iload_n (mx_d tX12_isPath_1 3 rfl) rfl rfl ?_
          refine mx_iconst (1) (mx_d tX12_isPath_1 4 rfl) (by decide) ?_
          refine mx_isub (mx_d tX12_isPath_1 5 rfl) ?_
          obtain ⟨hi27, h⟩ := mx_chkE h
          refine mx_iaload (mx_d tX12_isPath_1 6 rfl) h1 (mx_inbE hi27) ?_
          obtain ⟨r28, h_r28, h⟩ := Option.bind_eq_some_iff.mp h
          refine mx_cVi (mx_d tX12_isPath_1 7 rfl) iX12_294 rfl vX12_isLone ⟨_, rfl, rfl⟩ (ly12_o h0) (CX12_isLone h0 h_r28) (by decide) rfl rfl (Nat.le_of_ble_eq_true rfl) ?_
          refine mx_if_eq (tgt := 111) (mx_d tX12_isPath_1 8 rfl) (by decide) (fun hc29 => ?_) (fun hc29 => ?_)
          · rw [if_pos hc29] at h
            refine mx_iconst (0) (mx_d tX12_isPath_1 11 rfl) (by decide) ?_
            obtain rfl := Option.some.inj h
            exact mx_zreturn (mx_d tX12_isPath_1 12 rfl) rfl rfl ⟨rfl, rfl⟩
          · rw [if_neg hc29] at h
            refine mx_iconst (1) (mx_d tX12_isPath_1 9 rfl) (by decide) ?_
            refine mx_goto (tgt := 112) (mx_d tX12_isPath_1 10 rfl) (by decide) ?_
            obtain rfl := Option.some.inj h
            exact mx_zreturn (mx_d tX12_isPath_1 12 rfl) rfl rfl ⟨rfl, rfl⟩
def FX12_turnPath_L2 (q0 : Nat) (q1 : Nat) (w1 : Nat) (y2 : Int32) : Nat → Int32 → mB → Option (mB)
  | 0, _, _ => none
  | f + 1, y3, m => (if y2 ≤ y3 then (some (m)) else mx_chk (mx_inb y3 w1) (mx_chk (mx_inb (y3 + 1) w1) (mx_chk (mx_inb (158 + (m.1 q1 (Int32.toNatClampNeg y3))) 432) (mx_let (mx_up m.1 (q0 + 2) (Int32.toNatClampNeg (158 + (m.1 q1 (Int32.toNatClampNeg y3)))) (m.1 q1 (Int32.toNatClampNeg (y3 + 1))), m.2) (fun m4 => mx_chk (mx_inb (158 + (m4.1 q1 (Int32.toNatClampNeg (y3 + 1)))) 432) (mx_let (mx_up m4.1 (q0 + 2) (Int32.toNatClampNeg (158 + (m4.1 q1 (Int32.toNatClampNeg (y3 + 1))))) (m4.1 q1 (Int32.toNatClampNeg y3)), m4.2) (fun m6 => mx_let (y3 + 2) (fun v8 => (FX12_turnPath_L2 q0 q1 w1 y2 f v8 m6)))))))))
set_option maxRecDepth 20000 in
theorem CX12_turnPath_L2 {G : mG} {l : Launch} {e : mE} {Post : Option Value → mS → Prop} {q0 : Nat} {q1 : Nat} {w1 : Nat} {y2 : Int32} (g0 : ly12 e q0) (g1 : mx_is e q1 100 w1) : ∀ (f : Nat) {y3 : Int32} {m : mB} {q : (mB)}, FX12_turnPath_L2 q0 q1 w1 y2 f y3 m = some q → (mx_Fr G l MX12_turnPath 1 0 0 Post 47 [.ref q0, .float 0, .float 0, .float 0] [] (e, q)) → mx_Fr G l MX12_turnPath 1 0 0 Post 2 [.ref q0, .ref q1, .int y2, .int y3] [] (e, m) := by
  intro f
  induction f with
  | zero => intro _ _ _ h; cases h
  | succ f ih =>
    intro y3 m q h hex
    rw [FX12_turnPath_L2] at h
    refine mx_iload_n (mx_d tX12_turnPath_0 2 rfl) rfl rfl ?_
    refine mx_iload_n (mx_d tX12_turnPath_0 3 rfl) rfl rfl ?_
    refine mx_icmp_ge (tgt := 47) (mx_d tX12_turnPath_0 4 rfl) (by decide) (fun hc1 => ?_) (fun hc1 => ?_)
    · rw [if_pos hc1] at h
      obtain rfl := Option.some.inj h
      refine mx_forget (L' := [.ref q0, .float 0, .float 0, .float 0]) ⟨rfl, trivial⟩ ?_
      exact hex
    · rw [if_neg hc1] at h
      refine mx_aload_n (mx_d tX12_turnPath_0 5 rfl) rfl rfl ?_
      refine mx_getR (mx_d tX12_turnPath_0 6 rfl) fX12_98 rfl rfl (ly12_o g0) (ly12_r14 g0) ?_
      refine mx_sipush (158) (mx_d tX12_turnPath_0 7 rfl) (by decide) ?_
      refine mx_aload_n (mx_d tX12_turnPath_0 8 rfl) rfl rfl ?_
      refine mx_iload_n (mx_d tX12_turnPath_0 9 rfl) rfl rfl ?_
      obtain ⟨hi2, h⟩ := mx_chkE h
      refine mx_iaload (mx_d tX12_turnPath_0 10 rfl) g1 (mx_inbE hi2) ?_
      refine mx_iadd (mx_d tX12_turnPath_0 11 rfl) ?_
      refine mx_aload_n (mx_d tX12_turnPath_0 12 rfl) rfl rfl ?_
      refine mx_iload_n (mx_d tX12_turnPath_0 13 rfl) rfl rfl ?_
      refine mx_iconst (1) (mx_d tX12_turnPath_0 14 rfl) (by decide) ?_
      refine mx_iadd (mx_d tX12_turnPath_0 15 rfl) ?_
      obtain ⟨hi3, h⟩ := mx_chkE h
      refine mx_iaload (mx_d tX12_turnPath_0 16 rfl) g1 (mx_inbE hi3) ?_
      obtain ⟨hi5, h⟩ := mx_chkE h
      obtain ⟨m4, e_m4, h⟩ := mx_letE h
      refine mx_iastore (mx_d tX12_turnPath_0 17 rfl) (ly12_s14 g0) (mx_inbE hi5) (mx_eqz (z' := (e, m4)) (by rw [e_m4]) ?_)
      refine mx_aload_n (mx_d tX12_turnPath_0 18 rfl) rfl rfl ?_
      refine mx_getR (mx_d tX12_turnPath_0 19 rfl) fX12_98 rfl rfl (ly12_o g0) (ly12_r14 g0) ?_
      refine mx_sipush (158) (mx_d tX12_turnPath_0 20 rfl) (by decide) ?_
      refine mx_aload_n (mx_d tX12_turnPath_0 21 rfl) rfl rfl ?_
      refine mx_iload_n (mx_d tX12_turnPath_0 22 rfl) rfl rfl ?_
      refine mx_iconst (1) (mx_d tX12_turnPath_0 23 rfl) (by decide) ?_
      refine mx_iadd (mx_d tX12_turnPath_0 24 rfl) ?_
      refine mx_iaload (mx_d tX12_turnPath_0 25 rfl) g1 (mx_inbE hi3) ?_
      refine mx_iadd (mx_d tX12_turnPath_0 26 rfl) ?_
      refine mx_aload_n (mx_d tX12_turnPath_0 27 rfl) rfl rfl ?_
      refine mx_iload_n (mx_d tX12_turnPath_0 28 rfl) rfl rfl ?_
      refine mx_iaload (mx_d tX12_turnPath_0 29 rfl) g1 (mx_inbE hi2) ?_
      obtain ⟨hi7, h⟩ := mx_chkE h
      obtain ⟨m6, e_m6, h⟩ := mx_letE h
      refine mx_iastore (mx_d tX12_turnPath_0 30 rfl) (ly12_s14 g0) (mx_inbE hi7) (mx_eqz (z' := (e, m6)) (by rw [e_m6]) ?_)
      obtain ⟨v8, e_v8, h⟩ := mx_letE h
      refine mx_iinc v8 (L2 := [.ref q0, .ref q1, .int y2, .int v8]) (mx_d tX12_turnPath_0 31 rfl) rfl (by rw [e_v8]; rfl) (by decide) rfl ?_
      refine mx_goto (tgt := 2) (mx_d tX12_turnPath_0 32 rfl) (by decide) ?_
      exact ih h hex
def FX12_turnPath (a : Nat) (p0 : Nat) (n0 : Nat) (x1 : Int32) (m : mB) : Option mB := Option.bind (FX12_turnPath_L2 a p0 n0 x1 mx_FU 0 m) (fun q9 => mx_let (mx_up q9.1 (a + 2) 126 ((q9.1 (a + 2) 126) + 1), q9.2) (fun m10 => (some m10)))
set_option maxRecDepth 20000 in
theorem CX12_turnPath {G : mG} {l : Launch} {e : mE} {a : Nat} {p0 : Nat} {n0 : Nat} {x1 : Int32} {m : mB} {r : mB} (h0 : ly12 e a) (h1 : mx_is e p0 100 n0) (h : FX12_turnPath a p0 n0 x1 m = some r) : mx_Call G l MX12_turnPath 1 0 0 [.ref a, .ref p0, .int x1] (e, m) (fun v z => v = none ∧ z = (e, r)) := by
  refine mx_entry (L := [.ref a, .ref p0, .int x1, .float 0]) (by decide +kernel) (Nat.le_of_ble_eq_true rfl) rfl ?_
  unfold FX12_turnPath at h
  refine mx_iconst (0) (mx_d tX12_turnPath_0 0 rfl) (by decide) ?_
  refine mx_istore_n (L2 := [.ref a, .ref p0, .int x1, .int 0]) (mx_d tX12_turnPath_0 1 rfl) rfl (by decide) (by rfl) ?_
  obtain ⟨q9, h_q9, h⟩ := Option.bind_eq_some_iff.mp h
  refine CX12_turnPath_L2 h0 h1 mx_FU h_q9 ?_
  refine mx_aload_n (mx_d tX12_turnPath_0 33 rfl) rfl rfl ?_
  refine mx_getR (mx_d tX12_turnPath_0 34 rfl) fX12_98 rfl rfl (ly12_o h0) (ly12_r14 h0) ?_
  refine mx_bipush (126) (mx_d tX12_turnPath_0 35 rfl) (by decide) ?_
  refine mx_dup2 (mx_d tX12_turnPath_0 36 rfl) rfl rfl ?_
  refine mx_ialoadC 126 (mx_d tX12_turnPath_0 37 rfl) (ly12_s14 h0) (by decide) (mx_inbE (by decide)) ?_
  refine mx_iconst (1) (mx_d tX12_turnPath_0 38 rfl) (by decide) ?_
  refine mx_iadd (mx_d tX12_turnPath_0 39 rfl) ?_
  obtain ⟨m10, e_m10, h⟩ := mx_letE h
  refine mx_iastoreC 126 (mx_d tX12_turnPath_0 40 rfl) (ly12_s14 h0) (by decide) (mx_inbE (by decide)) (mx_eqz (z' := (e, m10)) (by rw [e_m10]) ?_)
  obtain rfl := Option.some.inj h
  exact mx_return (mx_d tX12_turnPath_0 41 rfl) rfl ⟨rfl, rfl⟩
def FX12_flowers_L31 (rec : Nat → Int32 → Int32 → Int32 → mB → Option (Int32 × mB)) (q0 : Nat) (y1 : Int32) (y2 : Int32) (y3 : Int32) (y4 : Int32) : Nat → Int32 → mB → Option ((Int32 × mB) ⊕ (mB))
  | 0, _, _ => none
  | f + 1, y5, m => (if (m.1 (q0 + 2) 0) ≤ y5 then (some (.inr m)) else Option.bind (FX12_has y3 y5 m) (fun r5 => (if r5 = 0 then Option.bind (FX12_areLinked q0 y4 y5 m) (fun r8 => (if r8 = 0 then mx_let (y5 + 1) (fun v10 => (FX12_flowers_L31 rec q0 y1 y2 y3 y4 f v10 m)) else mx_let (mx_chk (mx_inb y1 10) (mx_let (mx_up m.1 (q0 + 13) (Int32.toNatClampNeg y1) y5, m.2) (fun m13 => Option.bind (rec q0 (y1 + 1) y2 (y3 ||| ((1 : Int32) <<< (y5 &&& 31))) m13) (fun r15 => (if r15.1 = 0 then mx_let (y5 + 1) (fun v17 => (FX12_flowers_L31 rec q0 y1 y2 y3 y4 f v17 r15.2)) else (some (.inl (1, r15.2)))))))) (fun k12 => (if (y1 - y1 / 2 * 2) = 0 then Option.bind (FX12_arePaired q0 y4 y5 m) (fun r18 => (if r18 = 0 then mx_let (y5 + 1) (fun v20 => (FX12_flowers_L31 rec q0 y1 y2 y3 y4 f v20 m)) else k12)) else k12)))) else mx_let (y5 + 1) (fun v7 => (FX12_flowers_L31 rec q0 y1 y2 y3 y4 f v7 m)))))
set_option maxRecDepth 20000 in
theorem CX12_flowers_L31 {G : mG} {l : Launch} {e : mE} {Post : Option Value → mS → Prop} {rec : Nat → Int32 → Int32 → Int32 → mB → Option (Int32 × mB)} {D : Nat} {q0 : Nat} {y1 : Int32} {y2 : Int32} {y3 : Int32} {y4 : Int32} (hrec : ∀ {a : Nat} {x0 : Int32} {x1 : Int32} {x2 : Int32} {m : mB} {r : (Int32 × mB)}, ly12 e a → rec a x0 x1 x2 m = some r → mx_Call G l MX12_flowers D 0 0 [.ref a, .int x0, .int x1, .int x2] (e, m) (fun v z => v = some (.int r.1) ∧ z = (e, r.2))) (g0 : ly12 e q0) : ∀ (f : Nat) {y5 : Int32} {m : mB} {q : ((Int32 × mB) ⊕ (mB))}, FX12_flowers_L31 rec q0 y1 y2 y3 y4 f y5 m = some q → (∀ rr, q = .inl rr → Post (some (.int rr.1)) (e, rr.2)) → (∀ u, q = .inr u → mx_Fr G l MX12_flowers (D + 4) 0 0 Post 115 [.float 0, .float 0, .float 0, .float 0, .float 0, .float 0] [] (e, u)) → mx_Fr G l MX12_flowers (D + 4) 0 0 Post 31 [.ref q0, .int y1, .int y2, .int y3, .int y4, .int y5] [] (e, m) := by
  intro f
  induction f with
  | zero => intro _ _ _ h; cases h
  | succ f ih =>
    intro y5 m q h hret hex
    rw [FX12_flowers_L31] at h
    refine mx_iload (mx_d tX12_flowers_0 20 rfl) rfl ?_
    refine mx_aload_n (mx_d tX12_flowers_0 21 rfl) rfl rfl ?_
    refine mx_getR (mx_d tX12_flowers_0 22 rfl) fX12_98 rfl rfl (ly12_o g0) (ly12_r14 g0) ?_
    refine mx_iconst (0) (mx_d tX12_flowers_0 23 rfl) (by decide) ?_
    refine mx_ialoadC 0 (mx_d tX12_flowers_0 24 rfl) (ly12_s14 g0) (by decide) (mx_inbE (by decide)) ?_
    refine mx_icmp_ge (tgt := 115) (mx_d tX12_flowers_0 25 rfl) (by decide) (fun hc4 => ?_) (fun hc4 => ?_)
    · rw [if_pos hc4] at h
      obtain rfl := Option.some.inj h
      refine mx_forget (L' := [.float 0, .float 0, .float 0, .float 0, .float 0, .float 0]) trivial ?_
      exact (hex _ rfl)
    · rw [if_neg hc4] at h
      refine mx_iload_n (mx_d tX12_flowers_0 26 rfl) rfl rfl ?_
      refine mx_iload (mx_d tX12_flowers_0 27 rfl) rfl ?_
      obtain ⟨r5, h_r5, h⟩ := Option.bind_eq_some_iff.mp h
      refine mx_cSi (mx_d tX12_flowers_0 28 rfl) iX12_210 rfl sX12_has (CX12_has  h_r5) (by omega) rfl rfl (Nat.le_of_ble_eq_true rfl) ?_
      refine mx_if_ne (tgt := 109) (mx_d tX12_flowers_0 29 rfl) (by decide) (fun hc6 => ?_) (fun hc6 => ?_)
      · rw [if_neg hc6] at h
        obtain ⟨v7, e_v7, h⟩ := mx_letE h
        refine mx_iinc v7 (L2 := [.ref q0, .int y1, .int y2, .int y3, .int y4, .int v7]) (mx_d tX12_flowers_1 4 rfl) rfl (by rw [e_v7]; rfl) (by decide) rfl ?_
        refine mx_goto (tgt := 31) (mx_d tX12_flowers_1 5 rfl) (by decide) ?_
        exact ih h hret hex
      · rw [if_pos hc6] at h
        refine mx_aload_n (mx_d tX12_flowers_0 30 rfl) rfl rfl ?_
        refine mx_iload (mx_d tX12_flowers_0 31 rfl) rfl ?_
        refine mx_iload (mx_d tX12_flowers_0 32 rfl) rfl ?_
        obtain ⟨r8, h_r8, h⟩ := Option.bind_eq_some_iff.mp h
        refine mx_cVi (mx_d tX12_flowers_0 33 rfl) iX12_300 rfl vX12_areLinked ⟨_, rfl, rfl⟩ (ly12_o g0) (CX12_areLinked g0 h_r8) (by omega) rfl rfl (Nat.le_of_ble_eq_true rfl) ?_
        refine mx_if_eq (tgt := 109) (mx_d tX12_flowers_0 34 rfl) (by decide) (fun hc9 => ?_) (fun hc9 => ?_)
        · rw [if_pos hc9] at h
          obtain ⟨v10, e_v10, h⟩ := mx_letE h
          refine mx_iinc v10 (L2 := [.ref q0, .int y1, .int y2, .int y3, .int y4, .int v10]) (mx_d tX12_flowers_1 4 rfl) rfl (by rw [e_v10]; rfl) (by decide) rfl ?_
          refine mx_goto (tgt := 31) (mx_d tX12_flowers_1 5 rfl) (by decide) ?_
          exact ih h hret hex
        · rw [if_neg hc9] at h
          refine mx_iload_n (mx_d tX12_flowers_0 35 rfl) rfl rfl ?_
          refine mx_iconst (2) (mx_d tX12_flowers_0 36 rfl) (by decide) ?_
          refine mx_irem (mx_d tX12_flowers_0 37 rfl) (by decide) ?_
          refine mx_letK (J := fun k12 => k12 = some q → mx_Fr G l MX12_flowers (D + 4) 0 0 Post 82 [.ref q0, .int y1, .int y2, .int y3, .int y4, .int y5] [] (e, m)) h ?_ (fun k12 j_k12 h => ?_)
          · intro h
            refine mx_aload_n (mx_d tX12_flowers_0 45 rfl) rfl rfl ?_
            refine mx_getR (mx_d tX12_flowers_0 46 rfl) fX12_133 rfl rfl (ly12_o g0) (ly12_r26 g0) ?_
            refine mx_iload_n (mx_d tX12_flowers_0 47 rfl) rfl rfl ?_
            refine mx_iload (mx_d tX12_flowers_0 48 rfl) rfl ?_
            obtain ⟨hi14, h⟩ := mx_chkE h
            obtain ⟨m13, e_m13, h⟩ := mx_letE h
            refine mx_iastore (mx_d tX12_flowers_0 49 rfl) (ly12_s26 g0) (mx_inbE hi14) (mx_eqz (z' := (e, m13)) (by rw [e_m13]) ?_)
            refine mx_aload_n (mx_d tX12_flowers_0 50 rfl) rfl rfl ?_
            refine mx_iload_n (mx_d tX12_flowers_0 51 rfl) rfl rfl ?_
            refine mx_iconst (1) (mx_d tX12_flowers_0 52 rfl) (by decide) ?_
            refine mx_iadd (mx_d tX12_flowers_0 53 rfl) ?_
            refine mx_iload_n (mx_d tX12_flowers_0 54 rfl) rfl rfl ?_
            refine mx_iload_n (mx_d tX12_flowers_0 55 rfl) rfl rfl ?_
            refine mx_iconst (1) (mx_d tX12_flowers_0 56 rfl) (by decide) ?_
            refine mx_iload (mx_d tX12_flowers_0 57 rfl) rfl ?_
            refine mx_ishl (mx_d tX12_flowers_0 58 rfl) ?_
            refine mx_ior (mx_d tX12_flowers_0 59 rfl) ?_
            obtain ⟨r15, h_r15, h⟩ := Option.bind_eq_some_iff.mp h
            refine mx_cVi (mx_d tX12_flowers_1 0 rfl) iX12_306 rfl vX12_flowers ⟨_, rfl, rfl⟩ (ly12_o g0) (hrec g0 h_r15) (by omega) rfl rfl (Nat.le_of_ble_eq_true rfl) ?_
            refine mx_if_eq (tgt := 109) (mx_d tX12_flowers_1 1 rfl) (by decide) (fun hc16 => ?_) (fun hc16 => ?_)
            · rw [if_pos hc16] at h
              obtain ⟨v17, e_v17, h⟩ := mx_letE h
              refine mx_iinc v17 (L2 := [.ref q0, .int y1, .int y2, .int y3, .int y4, .int v17]) (mx_d tX12_flowers_1 4 rfl) rfl (by rw [e_v17]; rfl) (by decide) rfl ?_
              refine mx_goto (tgt := 31) (mx_d tX12_flowers_1 5 rfl) (by decide) ?_
              exact ih h hret hex
            · rw [if_neg hc16] at h
              refine mx_iconst (1) (mx_d tX12_flowers_1 2 rfl) (by decide) ?_
              obtain rfl := Option.some.inj h
              exact mx_zreturn (mx_d tX12_flowers_1 3 rfl) rfl rfl (hret (1, r15.2) rfl)
          refine mx_if_ne (tgt := 82) (mx_d tX12_flowers_0 38 rfl) (by decide) (fun hc11 => ?_) (fun hc11 => ?_)
          · rw [if_neg hc11] at h
            exact j_k12 h
          · rw [if_pos hc11] at h
            refine mx_aload_n (mx_d tX12_flowers_0 39 rfl) rfl rfl ?_
            refine mx_iload (mx_d tX12_flowers_0 40 rfl) rfl ?_
            refine mx_iload (mx_d tX12_flowers_0 41 rfl) rfl ?_
            obtain ⟨r18, h_r18, h⟩ := Option.bind_eq_some_iff.mp h
            refine mx_cVi (mx_d tX12_flowers_0 42 rfl) iX12_254 rfl vX12_arePaired ⟨_, rfl, rfl⟩ (ly12_o g0) (CX12_arePaired g0 h_r18) (by omega) rfl rfl (Nat.le_of_ble_eq_true rfl) ?_
            refine mx_if_ne (tgt := 82) (mx_d tX12_flowers_0 43 rfl) (by decide) (fun hc19 => ?_) (fun hc19 => ?_)
            · rw [if_neg hc19] at h
              exact j_k12 h
            · rw [if_pos hc19] at h
              refine mx_goto (tgt := 109) (mx_d tX12_flowers_0 44 rfl) (by decide) ?_
              obtain ⟨v20, e_v20, h⟩ := mx_letE h
              refine mx_iinc v20 (L2 := [.ref q0, .int y1, .int y2, .int y3, .int y4, .int v20]) (mx_d tX12_flowers_1 4 rfl) rfl (by rw [e_v20]; rfl) (by decide) rfl ?_
              refine mx_goto (tgt := 31) (mx_d tX12_flowers_1 5 rfl) (by decide) ?_
              exact ih h hret hex
def FX12_flowers_B (rec : Nat → Int32 → Int32 → Int32 → mB → Option (Int32 × mB)) (a : Nat) (x0 : Int32) (x1 : Int32) (x2 : Int32) (m : mB) : Option (Int32 × mB) := mx_chk (mx_inb (x0 - 1) 10) (mx_let (m.1 (a + 13) (Int32.toNatClampNeg (x0 - 1))) (fun v2 => (if x0 = x1 then Option.bind (FX12_areLinked a v2 (m.1 (a + 13) 0) m) (fun r24 => mx_chk (mx_b01 r24) ((some (r24, m)))) else Option.bind (FX12_flowers_L31 rec a x0 x1 x2 v2 mx_FU 0 m) (fun q21 => Sum.elim (fun rr => some rr) (fun u22 => (some (0, u22))) q21))))
def FX12_flowers : Nat → Nat → Int32 → Int32 → Int32 → mB → Option (Int32 × mB)
  | 0, _, _, _, _, _ => none
  | D + 1, a, x0, x1, x2, m => FX12_flowers_B (FX12_flowers D) a x0 x1 x2 m
set_option maxRecDepth 20000 in
theorem CX12_flowers_B {G : mG} {l : Launch} {e : mE} {rec : Nat → Int32 → Int32 → Int32 → mB → Option (Int32 × mB)} {D : Nat} {a : Nat} {x0 : Int32} {x1 : Int32} {x2 : Int32} {m : mB} {r : (Int32 × mB)} (hrec : ∀ {a : Nat} {x0 : Int32} {x1 : Int32} {x2 : Int32} {m : mB} {r : (Int32 × mB)}, ly12 e a → rec a x0 x1 x2 m = some r → mx_Call G l MX12_flowers D 0 0 [.ref a, .int x0, .int x1, .int x2] (e, m) (fun v z => v = some (.int r.1) ∧ z = (e, r.2))) (h0 : ly12 e a) (h : FX12_flowers_B rec a x0 x1 x2 m = some r) : mx_Call G l MX12_flowers (D + 4) 0 0 [.ref a, .int x0, .int x1, .int x2] (e, m) (fun v z => v = some (.int r.1) ∧ z = (e, r.2)) := by
  refine mx_entry (L := [.ref a, .int x0, .int x1, .int x2, .float 0, .float 0]) (by decide +kernel) (Nat.le_of_ble_eq_true rfl) rfl ?_
  unfold FX12_flowers_B at h
  refine mx_aload_n (mx_d tX12_flowers_0 0 rfl) rfl rfl ?_
  refine mx_getR (mx_d tX12_flowers_0 1 rfl) fX12_133 rfl rfl (ly12_o h0) (ly12_r26 h0) ?_
  refine mx_iload_n (mx_d tX12_flowers_0 2 rfl) rfl rfl ?_
  refine mx_iconst (1) (mx_d tX12_flowers_0 3 rfl) (by decide) ?_
  refine mx_isub (mx_d tX12_flowers_0 4 rfl) ?_
  obtain ⟨hi1, h⟩ := mx_chkE h
  refine mx_iaload (mx_d tX12_flowers_0 5 rfl) (ly12_s26 h0) (mx_inbE hi1) ?_
  obtain ⟨v2, e_v2, h⟩ := mx_letE h
  refine mx_istore (L2 := [.ref a, .int x0, .int x1, .int x2, .int v2, .float 0]) (mx_d tX12_flowers_0 6 rfl) (by decide) (by rw [e_v2]; rfl) ?_
  refine mx_iload_n (mx_d tX12_flowers_0 7 rfl) rfl rfl ?_
  refine mx_iload_n (mx_d tX12_flowers_0 8 rfl) rfl rfl ?_
  refine mx_icmp_ne (tgt := 28) (mx_d tX12_flowers_0 9 rfl) (by decide) (fun hc3 => ?_) (fun hc3 => ?_)
  · rw [if_neg hc3] at h
    refine mx_iconst (0) (mx_d tX12_flowers_0 18 rfl) (by decide) ?_
    refine mx_istore (L2 := [.ref a, .int x0, .int x1, .int x2, .int v2, .int 0]) (mx_d tX12_flowers_0 19 rfl) (by decide) (by rfl) ?_
    obtain ⟨q21, h_q21, h⟩ := Option.bind_eq_some_iff.mp h
    refine CX12_flowers_L31 hrec h0 mx_FU h_q21 (fun rr23 e_rr23 => ?_) (fun u22 e_u22 => ?_)
    · subst e_rr23
      rw [Sum.elim_inl] at h
      obtain rfl := Option.some.inj h
      exact ⟨rfl, rfl⟩
    · subst e_u22
      rw [Sum.elim_inr] at h
      refine mx_iconst (0) (mx_d tX12_flowers_1 6 rfl) (by decide) ?_
      obtain rfl := Option.some.inj h
      exact mx_zreturn (mx_d tX12_flowers_1 7 rfl) rfl rfl ⟨rfl, rfl⟩
  · rw [if_pos hc3] at h
    refine mx_aload_n (mx_d tX12_flowers_0 10 rfl) rfl rfl ?_
    refine mx_iload (mx_d tX12_flowers_0 11 rfl) rfl ?_
    refine mx_aload_n (mx_d tX12_flowers_0 12 rfl) rfl rfl ?_
    refine mx_getR (mx_d tX12_flowers_0 13 rfl) fX12_133 rfl rfl (ly12_o h0) (ly12_r26 h0) ?_
    refine mx_iconst (0) (mx_d tX12_flowers_0 14 rfl) (by decide) ?_
    refine mx_ialoadC 0 (mx_d tX12_flowers_0 15 rfl) (ly12_s26 h0) (by decide) (mx_inbE (by decide)) ?_
    obtain ⟨r24, h_r24, h⟩ := Option.bind_eq_some_iff.mp h
    refine mx_cVi (mx_d tX12_flowers_0 16 rfl) iX12_300 rfl vX12_areLinked ⟨_, rfl, rfl⟩ (ly12_o h0) (CX12_areLinked h0 h_r24) (by omega) rfl rfl (Nat.le_of_ble_eq_true rfl) ?_
    obtain ⟨hb25, h⟩ := mx_chkE h
    obtain rfl := Option.some.inj h
    exact mx_zreturn (mx_d tX12_flowers_0 17 rfl) rfl (mx_nb (mx_b01E hb25)) ⟨rfl, rfl⟩
theorem CX12_flowers {G : mG} {l : Launch} {e : mE} : ∀ (D : Nat) {a : Nat} {x0 : Int32} {x1 : Int32} {x2 : Int32} {m : mB} {r : (Int32 × mB)}, ly12 e a → FX12_flowers D a x0 x1 x2 m = some r → mx_Call G l MX12_flowers (4 * D) 0 0 [.ref a, .int x0, .int x1, .int x2] (e, m) (fun v z => v = some (.int r.1) ∧ z = (e, r.2)) := by
  intro D
  induction D with
  | zero => intro _ _ _ _ _ _ _ h; cases h
  | succ D ih =>
    intro a x0 x1 x2 m r h0 h
    rw [FX12_flowers] at h
    have hh := CX12_flowers_B (rec := FX12_flowers D) (D := 4 * D) (fun {_ _ _ _} {_} {_} zh0 hz => ih zh0 hz) h0 h
    rw [show 4 * (D + 1) = 4 * D + 4 by omega]
    exact hh
def FX12_isFlower_L2 (q0 : Nat) (m : mB) : Nat → Int32 → Option (Int32 ⊕ (Unit))
  | 0, _ => none
  | f + 1, y1 => (if (m.1 q0 30) ≤ y1 then (some (.inr ())) else mx_chk (mx_inb y1 10) (Option.bind (FX12_isPoint q0 (m.1 (q0 + 15) (Int32.toNatClampNeg y1)) m) (fun r3 => (if r3 = 0 then (some (.inl 0)) else mx_let (y1 + 1) (fun v5 => (FX12_isFlower_L2 q0 m f v5))))))
set_option maxRecDepth 20000 in
theorem CX12_isFlower_L2 {G : mG} {l : Launch} {e : mE} {Post : Option Value → mS → Prop} {q0 : Nat} {m : mB} (g0 : ly12 e q0) : ∀ (f : Nat) {y1 : Int32} {q : (Int32 ⊕ (Unit))}, FX12_isFlower_L2 q0 m f y1 = some q → (∀ rr, q = .inl rr → Post (some (.int rr)) (e, m)) → (∀ u, q = .inr u → mx_Fr G l MX12_isFlower 4 0 0 Post 31 [.ref q0, .float 0] [] (e, m)) → mx_Fr G l MX12_isFlower 4 0 0 Post 2 [.ref q0, .int y1] [] (e, m) := by
  intro f
  induction f with
  | zero => intro _ _ h; cases h
  | succ f ih =>
    intro y1 q h hret hex
    rw [FX12_isFlower_L2] at h
    refine mx_iload_n (mx_d tX12_isFlower_0 2 rfl) rfl rfl ?_
    refine mx_aload_n (mx_d tX12_isFlower_0 3 rfl) rfl rfl ?_
    refine mx_getI (mx_d tX12_isFlower_0 4 rfl) fX12_309 rfl (Or.inl rfl) (ly12_o g0) ?_
    refine mx_icmp_ge (tgt := 31) (mx_d tX12_isFlower_0 5 rfl) (by decide) (fun hc1 => ?_) (fun hc1 => ?_)
    · rw [if_pos hc1] at h
      obtain rfl := Option.some.inj h
      refine mx_forget (L' := [.ref q0, .float 0]) ⟨rfl, trivial⟩ ?_
      exact (hex _ rfl)
    · rw [if_neg hc1] at h
      refine mx_aload_n (mx_d tX12_isFlower_0 6 rfl) rfl rfl ?_
      refine mx_aload_n (mx_d tX12_isFlower_0 7 rfl) rfl rfl ?_
      refine mx_getR (mx_d tX12_isFlower_0 8 rfl) fX12_139 rfl rfl (ly12_o g0) (ly12_r28 g0) ?_
      refine mx_iload_n (mx_d tX12_isFlower_0 9 rfl) rfl rfl ?_
      obtain ⟨hi2, h⟩ := mx_chkE h
      refine mx_iaload (mx_d tX12_isFlower_0 10 rfl) (ly12_s28 g0) (mx_inbE hi2) ?_
      obtain ⟨r3, h_r3, h⟩ := Option.bind_eq_some_iff.mp h
      refine mx_cVi (mx_d tX12_isFlower_0 11 rfl) iX12_247 rfl vX12_isPoint ⟨_, rfl, rfl⟩ (ly12_o g0) (CX12_isPoint g0 h_r3) (by decide) rfl rfl (Nat.le_of_ble_eq_true rfl) ?_
      refine mx_if_ne (tgt := 25) (mx_d tX12_isFlower_0 12 rfl) (by decide) (fun hc4 => ?_) (fun hc4 => ?_)
      · rw [if_neg hc4] at h
        obtain ⟨v5, e_v5, h⟩ := mx_letE h
        refine mx_iinc v5 (L2 := [.ref q0, .int v5]) (mx_d tX12_isFlower_0 15 rfl) rfl (by rw [e_v5]; rfl) (by decide) rfl ?_
        refine mx_goto (tgt := 2) (mx_d tX12_isFlower_0 16 rfl) (by decide) ?_
        exact ih h hret hex
      · rw [if_pos hc4] at h
        refine mx_iconst (0) (mx_d tX12_isFlower_0 13 rfl) (by decide) ?_
        obtain rfl := Option.some.inj h
        exact mx_zreturn (mx_d tX12_isFlower_0 14 rfl) rfl rfl (hret 0 rfl)
def FX12_isFlower_L33 (q0 : Nat) (m : mB) : Nat → Int32 → Option (Int32 ⊕ (Unit))
  | 0, _ => none
  | f + 1, y1 => (if (m.1 q0 30) ≤ y1 then (some (.inr ())) else mx_chk (mx_inb (y1 - 1) 10) (mx_chk (mx_inb y1 10) (Option.bind (FX12_areLinked q0 (m.1 (q0 + 15) (Int32.toNatClampNeg (y1 - 1))) (m.1 (q0 + 15) (Int32.toNatClampNeg y1)) m) (fun r12 => (if r12 = 0 then (some (.inl 0)) else (if (y1 - y1 / 2 * 2) = 0 then Option.bind (FX12_arePaired q0 (m.1 (q0 + 15) (Int32.toNatClampNeg (y1 - 1))) (m.1 (q0 + 15) (Int32.toNatClampNeg y1)) m) (fun r16 => (if r16 = 0 then (some (.inl 0)) else mx_let (y1 + 1) (fun v18 => (FX12_isFlower_L33 q0 m f v18)))) else mx_let (y1 + 1) (fun v15 => (FX12_isFlower_L33 q0 m f v15))))))))
set_option maxRecDepth 20000 in
theorem CX12_isFlower_L33 {G : mG} {l : Launch} {e : mE} {Post : Option Value → mS → Prop} {q0 : Nat} {m : mB} (g0 : ly12 e q0) : ∀ (f : Nat) {y1 : Int32} {q : (Int32 ⊕ (Unit))}, FX12_isFlower_L33 q0 m f y1 = some q → (∀ rr, q = .inl rr → Post (some (.int rr)) (e, m)) → (∀ u, q = .inr u → mx_Fr G l MX12_isFlower 4 0 0 Post 97 [.ref q0, .float 0] [] (e, m)) → mx_Fr G l MX12_isFlower 4 0 0 Post 33 [.ref q0, .int y1] [] (e, m) := by
  intro f
  induction f with
  | zero => intro _ _ h; cases h
  | succ f ih =>
    intro y1 q h hret hex
    rw [FX12_isFlower_L33] at h
    refine mx_iload_n (mx_d tX12_isFlower_0 19 rfl) rfl rfl ?_
    refine mx_aload_n (mx_d tX12_isFlower_0 20 rfl) rfl rfl ?_
    refine mx_getI (mx_d tX12_isFlower_0 21 rfl) fX12_309 rfl (Or.inl rfl) (ly12_o g0) ?_
    refine mx_icmp_ge (tgt := 97) (mx_d tX12_isFlower_0 22 rfl) (by decide) (fun hc9 => ?_) (fun hc9 => ?_)
    · rw [if_pos hc9] at h
      obtain rfl := Option.some.inj h
      refine mx_forget (L' := [.ref q0, .float 0]) ⟨rfl, trivial⟩ ?_
      exact (hex _ rfl)
    · rw [if_neg hc9] at h
      refine mx_aload_n (mx_d tX12_isFlower_0 23 rfl) rfl rfl ?_
      refine mx_aload_n (mx_d tX12_isFlower_0 24 rfl) rfl rfl ?_
      refine mx_getR (mx_d tX12_isFlower_0 25 rfl) fX12_139 rfl rfl (ly12_o g0) (ly12_r28 g0) ?_
      refine mx_iload_n (mx_d tX12_isFlower_0 26 rfl) rfl rfl ?_
      refine mx_iconst (1) (mx_d tX12_isFlower_0 27 rfl) (by decide) ?_
      refine mx_isub (mx_d tX12_isFlower_0 28 rfl) ?_
      obtain ⟨hi10, h⟩ := mx_chkE h
      refine mx_iaload (mx_d tX12_isFlower_0 29 rfl) (ly12_s28 g0) (mx_inbE hi10) ?_
      refine mx_aload_n (mx_d tX12_isFlower_0 30 rfl) rfl rfl ?_
      refine mx_getR (mx_d tX12_isFlower_0 31 rfl) fX12_139 rfl rfl (ly12_o g0) (ly12_r28 g0) ?_
      refine mx_iload_n (mx_d tX12_isFlower_0 32 rfl) rfl rfl ?_
      obtain ⟨hi11, h⟩ := mx_chkE h
      refine mx_iaload (mx_d tX12_isFlower_0 33 rfl) (ly12_s28 g0) (mx_inbE hi11) ?_
      obtain ⟨r12, h_r12, h⟩ := Option.bind_eq_some_iff.mp h
      refine mx_cVi (mx_d tX12_isFlower_0 34 rfl) iX12_300 rfl vX12_areLinked ⟨_, rfl, rfl⟩ (ly12_o g0) (CX12_areLinked g0 h_r12) (by decide) rfl rfl (Nat.le_of_ble_eq_true rfl) ?_
      refine mx_if_eq (tgt := 89) (mx_d tX12_isFlower_0 35 rfl) (by decide) (fun hc13 => ?_) (fun hc13 => ?_)
      · rw [if_pos hc13] at h
        refine mx_iconst (0) (mx_d tX12_isFlower_0 53 rfl) (by decide) ?_
        obtain rfl := Option.some.inj h
        exact mx_zreturn (mx_d tX12_isFlower_0 54 rfl) rfl rfl (hret 0 rfl)
      · rw [if_neg hc13] at h
        refine mx_iload_n (mx_d tX12_isFlower_0 36 rfl) rfl rfl ?_
        refine mx_iconst (2) (mx_d tX12_isFlower_0 37 rfl) (by decide) ?_
        refine mx_irem (mx_d tX12_isFlower_0 38 rfl) (by decide) ?_
        refine mx_if_ne (tgt := 91) (mx_d tX12_isFlower_0 39 rfl) (by decide) (fun hc14 => ?_) (fun hc14 => ?_)
        · rw [if_neg hc14] at h
          obtain ⟨v15, e_v15, h⟩ := mx_letE h
          refine mx_iinc v15 (L2 := [.ref q0, .int v15]) (mx_d tX12_isFlower_0 55 rfl) rfl (by rw [e_v15]; rfl) (by decide) rfl ?_
          refine mx_goto (tgt := 33) (mx_d tX12_isFlower_0 56 rfl) (by decide) ?_
          exact ih h hret hex
        · rw [if_pos hc14] at h
          refine mx_aload_n (mx_d tX12_isFlower_0 40 rfl) rfl rfl ?_
          refine mx_aload_n (mx_d tX12_isFlower_0 41 rfl) rfl rfl ?_
          refine mx_getR (mx_d tX12_isFlower_0 42 rfl) fX12_139 rfl rfl (ly12_o g0) (ly12_r28 g0) ?_
          refine mx_iload_n (mx_d tX12_isFlower_0 43 rfl) rfl rfl ?_
          refine mx_iconst (1) (mx_d tX12_isFlower_0 44 rfl) (by decide) ?_
          refine mx_isub (mx_d tX12_isFlower_0 45 rfl) ?_
          refine mx_iaload (mx_d tX12_isFlower_0 46 rfl) (ly12_s28 g0) (mx_inbE hi10) ?_
          refine mx_aload_n (mx_d tX12_isFlower_0 47 rfl) rfl rfl ?_
          refine mx_getR (mx_d tX12_isFlower_0 48 rfl) fX12_139 rfl rfl (ly12_o g0) (ly12_r28 g0) ?_
          refine mx_iload_n (mx_d tX12_isFlower_0 49 rfl) rfl rfl ?_
          refine mx_iaload (mx_d tX12_isFlower_0 50 rfl) (ly12_s28 g0) (mx_inbE hi11) ?_
          obtain ⟨r16, h_r16, h⟩ := Option.bind_eq_some_iff.mp h
          refine mx_cVi (mx_d tX12_isFlower_0 51 rfl) iX12_254 rfl vX12_arePaired ⟨_, rfl, rfl⟩ (ly12_o g0) (CX12_arePaired g0 h_r16) (by decide) rfl rfl (Nat.le_of_ble_eq_true rfl) ?_
          refine mx_if_ne (tgt := 91) (mx_d tX12_isFlower_0 52 rfl) (by decide) (fun hc17 => ?_) (fun hc17 => ?_)
          · rw [if_neg hc17] at h
            obtain ⟨v18, e_v18, h⟩ := mx_letE h
            refine mx_iinc v18 (L2 := [.ref q0, .int v18]) (mx_d tX12_isFlower_0 55 rfl) rfl (by rw [e_v18]; rfl) (by decide) rfl ?_
            refine mx_goto (tgt := 33) (mx_d tX12_isFlower_0 56 rfl) (by decide) ?_
            exact ih h hret hex
          · rw [if_pos hc17] at h
            refine mx_iconst (0) (mx_d tX12_isFlower_0 53 rfl) (by decide) ?_
            obtain rfl := Option.some.inj h
            exact mx_zreturn (mx_d tX12_isFlower_0 54 rfl) rfl rfl (hret 0 rfl)
def FX12_isFlower (a : Nat) (m : mB) : Option Int32 := Option.bind (FX12_isFlower_L2 a m mx_FU 0) (fun q6 => Sum.elim (fun rr => some rr) (fun u7 => Option.bind (FX12_isFlower_L33 a m mx_FU 1) (fun q19 => Sum.elim (fun rr => some rr) (fun u20 => (if (m.1 a 30) ≤ 0 then (some 0) else mx_chk (mx_inb ((m.1 a 30) - 1) 10) (Option.bind (FX12_areLinked a (m.1 (a + 15) (Int32.toNatClampNeg ((m.1 a 30) - 1))) (m.1 (a + 15) 0) m) (fun r24 => (if r24 = 0 then (some 0) else (some 1)))))) q19)) q6)
set_option maxRecDepth 20000 in
theorem CX12_isFlower {G : mG} {l : Launch} {e : mE} {a : Nat} {m : mB} {r : Int32} (h0 : ly12 e a) (h : FX12_isFlower a m = some r) : mx_Call G l MX12_isFlower 4 0 0 [.ref a] (e, m) (fun v z => v = some (.int r) ∧ z = (e, m)) := by
  refine mx_entry (L := [.ref a, .float 0]) (by decide +kernel) (Nat.le_of_ble_eq_true rfl) rfl ?_
  unfold FX12_isFlower at h
  refine mx_iconst (0) (mx_d tX12_isFlower_0 0 rfl) (by decide) ?_
  refine mx_istore_n (L2 := [.ref a, .int 0]) (mx_d tX12_isFlower_0 1 rfl) rfl (by decide) (by rfl) ?_
  obtain ⟨q6, h_q6, h⟩ := Option.bind_eq_some_iff.mp h
  refine CX12_isFlower_L2 h0 mx_FU h_q6 (fun rr8 e_rr8 => ?_) (fun u7 e_u7 => ?_)
  · subst e_rr8
    rw [Sum.elim_inl] at h
    obtain rfl := Option.some.inj h
    exact ⟨rfl, rfl⟩
  · subst e_u7
    rw [Sum.elim_inr] at h
    refine mx_iconst (1) (mx_d tX12_isFlower_0 17 rfl) (by decide) ?_
    refine mx_istore_n (L2 := [.ref a, .int 1]) (mx_d tX12_isFlower_0 18 rfl) rfl (by decide) (by rfl) ?_
    obtain ⟨q19, h_q19, h⟩ := Option.bind_eq_some_iff.mp h
    refine CX12_isFlower_L33 h0 mx_FU h_q19 (fun rr21 e_rr21 => ?_) (fun u20 e_u20 => ?_)
    · subst e_rr21
      rw [Sum.elim_inl] at h
      obtain rfl := Option.some.inj h
      exact ⟨rfl, rfl⟩
    · subst e_u20
      rw [Sum.elim_inr] at h
      refine mx_aload_n (mx_d tX12_isFlower_0 57 rfl) rfl rfl ?_
      refine mx_getI (mx_d tX12_isFlower_0 58 rfl) fX12_309 rfl (Or.inl rfl) (ly12_o h0) ?_
      refine mx_if_le (tgt := 132) (mx_d tX12_isFlower_0 59 rfl) (by decide) (fun hc22 => ?_) (fun hc22 => ?_)
      · rw [if_pos hc22] at h
        refine mx_iconst (0) (mx_d tX12_isFlower_1 16 rfl) (by decide) ?_
        obtain rfl := Option.some.inj h
        exact mx_zreturn (mx_d tX12_isFlower_1 17 rfl) rfl rfl ⟨rfl, rfl⟩
      · rw [if_neg hc22] at h
        refine mx_aload_n (mx_d tX12_isFlower_1 0 rfl) rfl rfl ?_
        refine mx_aload_n (mx_d tX12_isFlower_1 1 rfl) rfl rfl ?_
        refine mx_getR (mx_d tX12_isFlower_1 2 rfl) fX12_139 rfl rfl (ly12_o h0) (ly12_r28 h0) ?_
        refine mx_aload_n (mx_d tX12_isFlower_1 3 rfl) rfl rfl ?_
        refine mx_getI (mx_d tX12_isFlower_1 4 rfl) fX12_309 rfl (Or.inl rfl) (ly12_o h0) ?_
        refine mx_iconst (1) (mx_d tX12_isFlower_1 5 rfl) (by decide) ?_
        refine mx_isub (mx_d tX12_isFlower_1 6 rfl) ?_
        obtain ⟨hi23, h⟩ := mx_chkE h
        refine mx_iaload (mx_d tX12_isFlower_1 7 rfl) (ly12_s28 h0) (mx_inbE hi23) ?_
        refine mx_aload_n (mx_d tX12_isFlower_1 8 rfl) rfl rfl ?_
        refine mx_getR (mx_d tX12_isFlower_1 9 rfl) fX12_139 rfl rfl (ly12_o h0) (ly12_r28 h0) ?_
        refine mx_iconst (0) (mx_d tX12_isFlower_1 10 rfl) (by decide) ?_
        refine mx_ialoadC 0 (mx_d tX12_isFlower_1 11 rfl) (ly12_s28 h0) (by decide) (mx_inbE (by decide)) ?_
        obtain ⟨r24, h_r24, h⟩ := Option.bind_eq_some_iff.mp h
        refine mx_cVi (mx_d tX12_isFlower_1 12 rfl) iX12_300 rfl vX12_areLinked ⟨_, rfl, rfl⟩ (ly12_o h0) (CX12_areLinked h0 h_r24) (by decide) rfl rfl (Nat.le_of_ble_eq_true rfl) ?_
        refine mx_if_eq (tgt := 132) (mx_d tX12_isFlower_1 13 rfl) (by decide) (fun hc25 => ?_) (fun hc25 => ?_)
        · rw [if_pos hc25] at h
          refine mx_iconst (0) (mx_d tX12_isFlower_1 16 rfl) (by decide) ?_
          obtain rfl := Option.some.inj h
          exact mx_zreturn (mx_d tX12_isFlower_1 17 rfl) rfl rfl ⟨rfl, rfl⟩
        · rw [if_neg hc25] at h
          refine mx_iconst (1) (mx_d tX12_isFlower_1 14 rfl) (by decide) ?_
          refine mx_goto (tgt := 133) (mx_d tX12_isFlower_1 15 rfl) (by decide) ?_
          obtain rfl := Option.some.inj h
          exact mx_zreturn (mx_d tX12_isFlower_1 17 rfl) rfl rfl ⟨rfl, rfl⟩
def FX12_grow_L42 (q0 : Nat) (y2 : Int32) : Nat → Int32 → mB → Option (mB)
  | 0, _, _ => none
  | f + 1, y3, m => (if y2 ≤ y3 then (some (m)) else mx_chk (mx_inb y3 10) (mx_let (mx_up m.1 (q0 + 14) (Int32.toNatClampNeg y3) (m.1 (q0 + 13) (Int32.toNatClampNeg y3)), m.2) (fun m11 => mx_let (y3 + 1) (fun v12 => (FX12_grow_L42 q0 y2 f v12 m11)))))
set_option maxRecDepth 20000 in
theorem CX12_grow_L42 {G : mG} {l : Launch} {e : mE} {Post : Option Value → mS → Prop} {q0 : Nat} {y2 : Int32} (g0 : ly12 e q0) : ∀ (f : Nat) {y3 : Int32} {m : mB} {q : (mB)}, FX12_grow_L42 q0 y2 f y3 m = some q → (mx_Fr G l MX12_grow 258 0 0 Post 65 [.float 0, .float 0, .int y2, .float 0] [] (e, q)) → mx_Fr G l MX12_grow 258 0 0 Post 42 [.ref q0, .float 0, .int y2, .int y3] [] (e, m) := by
  intro f
  induction f with
  | zero => intro _ _ _ h; cases h
  | succ f ih =>
    intro y3 m q h hex
    rw [FX12_grow_L42] at h
    refine mx_iload_n (mx_d tX12_grow_0 26 rfl) rfl rfl ?_
    refine mx_iload_n (mx_d tX12_grow_0 27 rfl) rfl rfl ?_
    refine mx_icmp_ge (tgt := 65) (mx_d tX12_grow_0 28 rfl) (by decide) (fun hc9 => ?_) (fun hc9 => ?_)
    · rw [if_pos hc9] at h
      obtain rfl := Option.some.inj h
      refine mx_forget (L' := [.float 0, .float 0, .int y2, .float 0]) ⟨rfl, trivial⟩ ?_
      exact hex
    · rw [if_neg hc9] at h
      refine mx_aload_n (mx_d tX12_grow_0 29 rfl) rfl rfl ?_
      refine mx_getR (mx_d tX12_grow_0 30 rfl) fX12_136 rfl rfl (ly12_o g0) (ly12_r27 g0) ?_
      refine mx_iload_n (mx_d tX12_grow_0 31 rfl) rfl rfl ?_
      refine mx_aload_n (mx_d tX12_grow_0 32 rfl) rfl rfl ?_
      refine mx_getR (mx_d tX12_grow_0 33 rfl) fX12_133 rfl rfl (ly12_o g0) (ly12_r26 g0) ?_
      refine mx_iload_n (mx_d tX12_grow_0 34 rfl) rfl rfl ?_
      obtain ⟨hi10, h⟩ := mx_chkE h
      refine mx_iaload (mx_d tX12_grow_0 35 rfl) (ly12_s26 g0) (mx_inbE hi10) ?_
      obtain ⟨m11, e_m11, h⟩ := mx_letE h
      refine mx_iastore (mx_d tX12_grow_0 36 rfl) (ly12_s27 g0) (mx_inbE hi10) (mx_eqz (z' := (e, m11)) (by rw [e_m11]) ?_)
      obtain ⟨v12, e_v12, h⟩ := mx_letE h
      refine mx_iinc v12 (L2 := [.ref q0, .float 0, .int y2, .int v12]) (mx_d tX12_grow_0 37 rfl) rfl (by rw [e_v12]; rfl) (by decide) rfl ?_
      refine mx_goto (tgt := 42) (mx_d tX12_grow_0 38 rfl) (by decide) ?_
      exact ih h hex
def FX12_grow (a : Nat) (x0 : Int32) (m : mB) : Option (Int32 × mB) := mx_let (mx_up m.1 a 0 0, m.2) (fun m1 => Option.bind (FX12_isPoint a x0 m1) (fun r2 => (if r2 = 0 then (some ((-1), m1)) else Option.bind (FX12_isLone a x0 m1) (fun r4 => (if r4 = 0 then (some ((-1), m1)) else Option.bind (FX12_layPath a x0 m1) (fun r6 => (if r6.1 = 0 then (some ((-1), r6.2)) else mx_let (mx_up r6.2.1 a 29 r6.1, r6.2.2) (fun m8 => Option.bind (FX12_grow_L42 a r6.1 mx_FU 0 m8) (fun q13 => (some ((r6.1 - 1), q13)))))))))))
set_option maxRecDepth 20000 in
theorem CX12_grow {G : mG} {l : Launch} {e : mE} {a : Nat} {x0 : Int32} {m : mB} {r : (Int32 × mB)} (h0 : ly12 e a) (h : FX12_grow a x0 m = some r) : mx_Call G l MX12_grow 258 0 0 [.ref a, .int x0] (e, m) (fun v z => v = some (.int r.1) ∧ z = (e, r.2)) := by
  refine mx_entry (L := [.ref a, .int x0, .float 0, .float 0]) (by decide +kernel) (Nat.le_of_ble_eq_true rfl) rfl ?_
  unfold FX12_grow at h
  refine mx_aload_n (mx_d tX12_grow_0 0 rfl) rfl rfl ?_
  refine mx_iconst (0) (mx_d tX12_grow_0 1 rfl) (by decide) ?_
  obtain ⟨m1, e_m1, h⟩ := mx_letE h
  refine mx_putI (mx_d tX12_grow_0 2 rfl) fX12_1 rfl ⟨_, rfl, rfl⟩ rfl (ly12_o h0) (mx_eqz (z' := (e, m1)) (by rw [e_m1]) ?_)
  refine mx_aload_n (mx_d tX12_grow_0 3 rfl) rfl rfl ?_
  refine mx_iload_n (mx_d tX12_grow_0 4 rfl) rfl rfl ?_
  obtain ⟨r2, h_r2, h⟩ := Option.bind_eq_some_iff.mp h
  refine mx_cVi (mx_d tX12_grow_0 5 rfl) iX12_247 rfl vX12_isPoint ⟨_, rfl, rfl⟩ (ly12_o h0) (CX12_isPoint h0 h_r2) (by decide) rfl rfl (Nat.le_of_ble_eq_true rfl) ?_
  refine mx_if_eq (tgt := 21) (mx_d tX12_grow_0 6 rfl) (by decide) (fun hc3 => ?_) (fun hc3 => ?_)
  · rw [if_pos hc3] at h
    refine mx_iconst ((-1)) (mx_d tX12_grow_0 11 rfl) (by decide) ?_
    obtain rfl := Option.some.inj h
    exact mx_ireturn (mx_d tX12_grow_0 12 rfl) rfl ⟨rfl, rfl⟩
  · rw [if_neg hc3] at h
    refine mx_aload_n (mx_d tX12_grow_0 7 rfl) rfl rfl ?_
    refine mx_iload_n (mx_d tX12_grow_0 8 rfl) rfl rfl ?_
    obtain ⟨r4, h_r4, h⟩ := Option.bind_eq_some_iff.mp h
    refine mx_cVi (mx_d tX12_grow_0 9 rfl) iX12_294 rfl vX12_isLone ⟨_, rfl, rfl⟩ (ly12_o h0) (CX12_isLone h0 h_r4) (by decide) rfl rfl (Nat.le_of_ble_eq_true rfl) ?_
    refine mx_if_ne (tgt := 23) (mx_d tX12_grow_0 10 rfl) (by decide) (fun hc5 => ?_) (fun hc5 => ?_)
    · rw [if_neg hc5] at h
      refine mx_aload_n (mx_d tX12_grow_0 13 rfl) rfl rfl ?_
      refine mx_iload_n (mx_d tX12_grow_0 14 rfl) rfl rfl ?_
      obtain ⟨r6, h_r6, h⟩ := Option.bind_eq_some_iff.mp h
      refine mx_cVi (mx_d tX12_grow_0 15 rfl) iX12_312 rfl vX12_layPath ⟨_, rfl, rfl⟩ (ly12_o h0) (CX12_layPath h0 h_r6) (by decide) rfl rfl (Nat.le_of_ble_eq_true rfl) ?_
      refine mx_istore_n (L2 := [.ref a, .int x0, .int r6.1, .float 0]) (mx_d tX12_grow_0 16 rfl) rfl (by decide) (by rfl) ?_
      refine mx_iload_n (mx_d tX12_grow_0 17 rfl) rfl rfl ?_
      refine mx_if_ne (tgt := 35) (mx_d tX12_grow_0 18 rfl) (by decide) (fun hc7 => ?_) (fun hc7 => ?_)
      · rw [if_neg hc7] at h
        refine mx_aload_n (mx_d tX12_grow_0 21 rfl) rfl rfl ?_
        refine mx_iload_n (mx_d tX12_grow_0 22 rfl) rfl rfl ?_
        obtain ⟨m8, e_m8, h⟩ := mx_letE h
        refine mx_putI (mx_d tX12_grow_0 23 rfl) fX12_315 rfl ⟨_, rfl, rfl⟩ rfl (ly12_o h0) (mx_eqz (z' := (e, m8)) (by rw [e_m8]) ?_)
        refine mx_iconst (0) (mx_d tX12_grow_0 24 rfl) (by decide) ?_
        refine mx_istore_n (L2 := [.ref a, .int x0, .int r6.1, .int 0]) (mx_d tX12_grow_0 25 rfl) rfl (by decide) (by rfl) ?_
        obtain ⟨q13, h_q13, h⟩ := Option.bind_eq_some_iff.mp h
        refine mx_forget (L' := [.ref a, .float 0, .int r6.1, .int 0]) ⟨rfl, rfl, rfl, trivial⟩ ?_
        refine CX12_grow_L42 h0 mx_FU h_q13 ?_
        refine mx_iload_n (mx_d tX12_grow_0 39 rfl) rfl rfl ?_
        refine mx_iconst (1) (mx_d tX12_grow_0 40 rfl) (by decide) ?_
        refine mx_isub (mx_d tX12_grow_0 41 rfl) ?_
        obtain rfl := Option.some.inj h
        exact mx_ireturn (mx_d tX12_grow_0 42 rfl) rfl ⟨rfl, rfl⟩
      · rw [if_pos hc7] at h
        refine mx_iconst ((-1)) (mx_d tX12_grow_0 19 rfl) (by decide) ?_
        obtain rfl := Option.some.inj h
        exact mx_ireturn (mx_d tX12_grow_0 20 rfl) rfl ⟨rfl, rfl⟩
    · rw [if_pos hc5] at h
      refine mx_iconst ((-1)) (mx_d tX12_grow_0 11 rfl) (by decide) ?_
      obtain rfl := Option.some.inj h
      exact mx_ireturn (mx_d tX12_grow_0 12 rfl) rfl ⟨rfl, rfl⟩
def FX12_growAt (a : Nat) (x0 : Int32) (m : mB) : Option (Int32 × mB) := mx_let (mx_up m.1 a 0 0, m.2) (fun m1 => Option.bind (FX12_isIn x0 0 ((m1.1 a 29) - 1) m1) (fun r2 => (if r2 = 0 then (some ((-1), m1)) else mx_chk (mx_inb x0 10) ((some ((m1.1 (a + 14) (Int32.toNatClampNeg x0)), m1))))))
set_option maxRecDepth 20000 in
theorem CX12_growAt {G : mG} {l : Launch} {e : mE} {a : Nat} {x0 : Int32} {m : mB} {r : (Int32 × mB)} (h0 : ly12 e a) (h : FX12_growAt a x0 m = some r) : mx_Call G l MX12_growAt 2 0 0 [.ref a, .int x0] (e, m) (fun v z => v = some (.int r.1) ∧ z = (e, r.2)) := by
  refine mx_entry (L := [.ref a, .int x0]) (by decide +kernel) (Nat.le_of_ble_eq_true rfl) rfl ?_
  unfold FX12_growAt at h
  refine mx_aload_n (mx_d tX12_growAt_0 0 rfl) rfl rfl ?_
  refine mx_iconst (0) (mx_d tX12_growAt_0 1 rfl) (by decide) ?_
  obtain ⟨m1, e_m1, h⟩ := mx_letE h
  refine mx_putI (mx_d tX12_growAt_0 2 rfl) fX12_1 rfl ⟨_, rfl, rfl⟩ rfl (ly12_o h0) (mx_eqz (z' := (e, m1)) (by rw [e_m1]) ?_)
  refine mx_iload_n (mx_d tX12_growAt_0 3 rfl) rfl rfl ?_
  refine mx_iconst (0) (mx_d tX12_growAt_0 4 rfl) (by decide) ?_
  refine mx_aload_n (mx_d tX12_growAt_0 5 rfl) rfl rfl ?_
  refine mx_getI (mx_d tX12_growAt_0 6 rfl) fX12_315 rfl (Or.inl rfl) (ly12_o h0) ?_
  refine mx_iconst (1) (mx_d tX12_growAt_0 7 rfl) (by decide) ?_
  refine mx_isub (mx_d tX12_growAt_0 8 rfl) ?_
  obtain ⟨r2, h_r2, h⟩ := Option.bind_eq_some_iff.mp h
  refine mx_cSi (mx_d tX12_growAt_0 9 rfl) iX12_75 rfl sX12_isIn (CX12_isIn  h_r2) (by decide) rfl rfl (Nat.le_of_ble_eq_true rfl) ?_
  refine mx_if_eq (tgt := 28) (mx_d tX12_growAt_0 10 rfl) (by decide) (fun hc3 => ?_) (fun hc3 => ?_)
  · rw [if_pos hc3] at h
    refine mx_iconst ((-1)) (mx_d tX12_growAt_0 16 rfl) (by decide) ?_
    obtain rfl := Option.some.inj h
    exact mx_ireturn (mx_d tX12_growAt_0 17 rfl) rfl ⟨rfl, rfl⟩
  · rw [if_neg hc3] at h
    refine mx_aload_n (mx_d tX12_growAt_0 11 rfl) rfl rfl ?_
    refine mx_getR (mx_d tX12_growAt_0 12 rfl) fX12_136 rfl rfl (ly12_o h0) (ly12_r27 h0) ?_
    refine mx_iload_n (mx_d tX12_growAt_0 13 rfl) rfl rfl ?_
    obtain ⟨hi4, h⟩ := mx_chkE h
    refine mx_iaload (mx_d tX12_growAt_0 14 rfl) (ly12_s27 h0) (mx_inbE hi4) ?_
    refine mx_goto (tgt := 29) (mx_d tX12_growAt_0 15 rfl) (by decide) ?_
    obtain rfl := Option.some.inj h
    exact mx_ireturn (mx_d tX12_growAt_0 17 rfl) rfl ⟨rfl, rfl⟩
def FX12_flower_L56 (q0 : Nat) (y2 : Int32) : Nat → Int32 → mB → Option (mB)
  | 0, _, _ => none
  | f + 1, y3, m => (if y2 ≤ y3 then (some (m)) else mx_chk (mx_inb y3 10) (mx_let (mx_up m.1 (q0 + 15) (Int32.toNatClampNeg y3) (m.1 (q0 + 13) (Int32.toNatClampNeg y3)), m.2) (fun m11 => mx_let (y3 + 1) (fun v12 => (FX12_flower_L56 q0 y2 f v12 m11)))))
set_option maxRecDepth 20000 in
theorem CX12_flower_L56 {G : mG} {l : Launch} {e : mE} {Post : Option Value → mS → Prop} {q0 : Nat} {y2 : Int32} (g0 : ly12 e q0) : ∀ (f : Nat) {y3 : Int32} {m : mB} {q : (mB)}, FX12_flower_L56 q0 y2 f y3 m = some q → (mx_Fr G l MX12_flower 257 0 0 Post 79 [.float 0, .float 0, .int y2, .float 0] [] (e, q)) → mx_Fr G l MX12_flower 257 0 0 Post 56 [.ref q0, .float 0, .int y2, .int y3] [] (e, m) := by
  intro f
  induction f with
  | zero => intro _ _ _ h; cases h
  | succ f ih =>
    intro y3 m q h hex
    rw [FX12_flower_L56] at h
    refine mx_iload_n (mx_d tX12_flower_0 36 rfl) rfl rfl ?_
    refine mx_iload_n (mx_d tX12_flower_0 37 rfl) rfl rfl ?_
    refine mx_icmp_ge (tgt := 79) (mx_d tX12_flower_0 38 rfl) (by decide) (fun hc9 => ?_) (fun hc9 => ?_)
    · rw [if_pos hc9] at h
      obtain rfl := Option.some.inj h
      refine mx_forget (L' := [.float 0, .float 0, .int y2, .float 0]) ⟨rfl, trivial⟩ ?_
      exact hex
    · rw [if_neg hc9] at h
      refine mx_aload_n (mx_d tX12_flower_0 39 rfl) rfl rfl ?_
      refine mx_getR (mx_d tX12_flower_0 40 rfl) fX12_139 rfl rfl (ly12_o g0) (ly12_r28 g0) ?_
      refine mx_iload_n (mx_d tX12_flower_0 41 rfl) rfl rfl ?_
      refine mx_aload_n (mx_d tX12_flower_0 42 rfl) rfl rfl ?_
      refine mx_getR (mx_d tX12_flower_0 43 rfl) fX12_133 rfl rfl (ly12_o g0) (ly12_r26 g0) ?_
      refine mx_iload_n (mx_d tX12_flower_0 44 rfl) rfl rfl ?_
      obtain ⟨hi10, h⟩ := mx_chkE h
      refine mx_iaload (mx_d tX12_flower_0 45 rfl) (ly12_s26 g0) (mx_inbE hi10) ?_
      obtain ⟨m11, e_m11, h⟩ := mx_letE h
      refine mx_iastore (mx_d tX12_flower_0 46 rfl) (ly12_s28 g0) (mx_inbE hi10) (mx_eqz (z' := (e, m11)) (by rw [e_m11]) ?_)
      obtain ⟨v12, e_v12, h⟩ := mx_letE h
      refine mx_iinc v12 (L2 := [.ref q0, .float 0, .int y2, .int v12]) (mx_d tX12_flower_0 47 rfl) rfl (by rw [e_v12]; rfl) (by decide) rfl ?_
      refine mx_goto (tgt := 56) (mx_d tX12_flower_0 48 rfl) (by decide) ?_
      exact ih h hex
def FX12_flower_L24 (q0 : Nat) (y1 : Int32) : Nat → Int32 → mB → Option ((Int32 × mB) ⊕ (mB))
  | 0, _, _ => none
  | f + 1, y2, m => (if (m.1 (q0 + 2) 0) < y2 then (some (.inr m)) else Option.bind (FX12_flowers 64 q0 1 y2 ((1 : Int32) <<< (y1 &&& 31)) m) (fun r6 => (if r6.1 = 0 then mx_let (y2 + 2) (fun v14 => (FX12_flower_L24 q0 y1 f v14 r6.2)) else mx_let (mx_up r6.2.1 q0 30 y2, r6.2.2) (fun m8 => Option.bind (FX12_flower_L56 q0 y2 mx_FU 0 m8) (fun q13 => (some (.inl (y2, q13))))))))
set_option maxRecDepth 20000 in
theorem CX12_flower_L24 {G : mG} {l : Launch} {e : mE} {Post : Option Value → mS → Prop} {q0 : Nat} {y1 : Int32} (g0 : ly12 e q0) : ∀ (f : Nat) {y2 : Int32} {m : mB} {q : ((Int32 × mB) ⊕ (mB))}, FX12_flower_L24 q0 y1 f y2 m = some q → (∀ rr, q = .inl rr → Post (some (.int rr.1)) (e, rr.2)) → (∀ u, q = .inr u → mx_Fr G l MX12_flower 257 0 0 Post 87 [.float 0, .float 0, .float 0, .float 0] [] (e, u)) → mx_Fr G l MX12_flower 257 0 0 Post 24 [.ref q0, .int y1, .int y2, .float 0] [] (e, m) := by
  intro f
  induction f with
  | zero => intro _ _ _ h; cases h
  | succ f ih =>
    intro y2 m q h hret hex
    rw [FX12_flower_L24] at h
    refine mx_iload_n (mx_d tX12_flower_0 16 rfl) rfl rfl ?_
    refine mx_aload_n (mx_d tX12_flower_0 17 rfl) rfl rfl ?_
    refine mx_getR (mx_d tX12_flower_0 18 rfl) fX12_98 rfl rfl (ly12_o g0) (ly12_r14 g0) ?_
    refine mx_iconst (0) (mx_d tX12_flower_0 19 rfl) (by decide) ?_
    refine mx_ialoadC 0 (mx_d tX12_flower_0 20 rfl) (ly12_s14 g0) (by decide) (mx_inbE (by decide)) ?_
    refine mx_icmp_gt (tgt := 87) (mx_d tX12_flower_0 21 rfl) (by decide) (fun hc5 => ?_) (fun hc5 => ?_)
    · rw [if_pos hc5] at h
      obtain rfl := Option.some.inj h
      refine mx_forget (L' := [.float 0, .float 0, .float 0, .float 0]) trivial ?_
      exact (hex _ rfl)
    · rw [if_neg hc5] at h
      refine mx_aload_n (mx_d tX12_flower_0 22 rfl) rfl rfl ?_
      refine mx_iconst (1) (mx_d tX12_flower_0 23 rfl) (by decide) ?_
      refine mx_iload_n (mx_d tX12_flower_0 24 rfl) rfl rfl ?_
      refine mx_iconst (1) (mx_d tX12_flower_0 25 rfl) (by decide) ?_
      refine mx_iload_n (mx_d tX12_flower_0 26 rfl) rfl rfl ?_
      refine mx_ishl (mx_d tX12_flower_0 27 rfl) ?_
      obtain ⟨r6, h_r6, h⟩ := Option.bind_eq_some_iff.mp h
      refine mx_cVi (mx_d tX12_flower_0 28 rfl) iX12_306 rfl vX12_flowers ⟨_, rfl, rfl⟩ (ly12_o g0) (CX12_flowers 64 g0 h_r6) (by decide) rfl rfl (Nat.le_of_ble_eq_true rfl) ?_
      refine mx_if_ne (tgt := 49) (mx_d tX12_flower_0 29 rfl) (by decide) (fun hc7 => ?_) (fun hc7 => ?_)
      · rw [if_neg hc7] at h
        refine mx_aload_n (mx_d tX12_flower_0 31 rfl) rfl rfl ?_
        refine mx_iload_n (mx_d tX12_flower_0 32 rfl) rfl rfl ?_
        obtain ⟨m8, e_m8, h⟩ := mx_letE h
        refine mx_putI (mx_d tX12_flower_0 33 rfl) fX12_309 rfl ⟨_, rfl, rfl⟩ rfl (ly12_o g0) (mx_eqz (z' := (e, m8)) (by rw [e_m8]) ?_)
        refine mx_iconst (0) (mx_d tX12_flower_0 34 rfl) (by decide) ?_
        refine mx_istore_n (L2 := [.ref q0, .int y1, .int y2, .int 0]) (mx_d tX12_flower_0 35 rfl) rfl (by decide) (by rfl) ?_
        obtain ⟨q13, h_q13, h⟩ := Option.bind_eq_some_iff.mp h
        refine mx_forget (L' := [.ref q0, .float 0, .int y2, .int 0]) ⟨rfl, rfl, rfl, trivial⟩ ?_
        refine CX12_flower_L56 g0 mx_FU h_q13 ?_
        refine mx_iload_n (mx_d tX12_flower_0 49 rfl) rfl rfl ?_
        obtain rfl := Option.some.inj h
        exact mx_ireturn (mx_d tX12_flower_0 50 rfl) rfl (hret (y2, q13) rfl)
      · rw [if_pos hc7] at h
        refine mx_goto (tgt := 81) (mx_d tX12_flower_0 30 rfl) (by decide) ?_
        obtain ⟨v14, e_v14, h⟩ := mx_letE h
        refine mx_iinc v14 (L2 := [.ref q0, .int y1, .int v14, .float 0]) (mx_d tX12_flower_0 51 rfl) rfl (by rw [e_v14]; rfl) (by decide) rfl ?_
        refine mx_goto (tgt := 24) (mx_d tX12_flower_0 52 rfl) (by decide) ?_
        exact ih h hret hex
def FX12_flower (a : Nat) (x0 : Int32) (m : mB) : Option (Int32 × mB) := mx_let (mx_up m.1 a 0 0, m.2) (fun m1 => Option.bind (FX12_isPoint a x0 m1) (fun r2 => (if r2 = 0 then (some ((-1), m1)) else mx_let (mx_up m1.1 (a + 13) 0 x0, m1.2) (fun m4 => Option.bind (FX12_flower_L24 a x0 mx_FU 3 m4) (fun q15 => Sum.elim (fun rr => some rr) (fun u16 => (some ((-1), u16))) q15)))))
set_option maxRecDepth 20000 in
theorem CX12_flower {G : mG} {l : Launch} {e : mE} {a : Nat} {x0 : Int32} {m : mB} {r : (Int32 × mB)} (h0 : ly12 e a) (h : FX12_flower a x0 m = some r) : mx_Call G l MX12_flower 257 0 0 [.ref a, .int x0] (e, m) (fun v z => v = some (.int r.1) ∧ z = (e, r.2)) := by
  refine mx_entry (L := [.ref a, .int x0, .float 0, .float 0]) (by decide +kernel) (Nat.le_of_ble_eq_true rfl) rfl ?_
  unfold FX12_flower at h
  refine mx_aload_n (mx_d tX12_flower_0 0 rfl) rfl rfl ?_
  refine mx_iconst (0) (mx_d tX12_flower_0 1 rfl) (by decide) ?_
  obtain ⟨m1, e_m1, h⟩ := mx_letE h
  refine mx_putI (mx_d tX12_flower_0 2 rfl) fX12_1 rfl ⟨_, rfl, rfl⟩ rfl (ly12_o h0) (mx_eqz (z' := (e, m1)) (by rw [e_m1]) ?_)
  refine mx_aload_n (mx_d tX12_flower_0 3 rfl) rfl rfl ?_
  refine mx_iload_n (mx_d tX12_flower_0 4 rfl) rfl rfl ?_
  obtain ⟨r2, h_r2, h⟩ := Option.bind_eq_some_iff.mp h
  refine mx_cVi (mx_d tX12_flower_0 5 rfl) iX12_247 rfl vX12_isPoint ⟨_, rfl, rfl⟩ (ly12_o h0) (CX12_isPoint h0 h_r2) (by decide) rfl rfl (Nat.le_of_ble_eq_true rfl) ?_
  refine mx_if_ne (tgt := 15) (mx_d tX12_flower_0 6 rfl) (by decide) (fun hc3 => ?_) (fun hc3 => ?_)
  · rw [if_neg hc3] at h
    refine mx_aload_n (mx_d tX12_flower_0 9 rfl) rfl rfl ?_
    refine mx_getR (mx_d tX12_flower_0 10 rfl) fX12_133 rfl rfl (ly12_o h0) (ly12_r26 h0) ?_
    refine mx_iconst (0) (mx_d tX12_flower_0 11 rfl) (by decide) ?_
    refine mx_iload_n (mx_d tX12_flower_0 12 rfl) rfl rfl ?_
    obtain ⟨m4, e_m4, h⟩ := mx_letE h
    refine mx_iastoreC 0 (mx_d tX12_flower_0 13 rfl) (ly12_s26 h0) (by decide) (mx_inbE (by decide)) (mx_eqz (z' := (e, m4)) (by rw [e_m4]) ?_)
    refine mx_iconst (3) (mx_d tX12_flower_0 14 rfl) (by decide) ?_
    refine mx_istore_n (L2 := [.ref a, .int x0, .int 3, .float 0]) (mx_d tX12_flower_0 15 rfl) rfl (by decide) (by rfl) ?_
    obtain ⟨q15, h_q15, h⟩ := Option.bind_eq_some_iff.mp h
    refine CX12_flower_L24 h0 mx_FU h_q15 (fun rr17 e_rr17 => ?_) (fun u16 e_u16 => ?_)
    · subst e_rr17
      rw [Sum.elim_inl] at h
      obtain rfl := Option.some.inj h
      exact ⟨rfl, rfl⟩
    · subst e_u16
      rw [Sum.elim_inr] at h
      refine mx_iconst ((-1)) (mx_d tX12_flower_0 53 rfl) (by decide) ?_
      obtain rfl := Option.some.inj h
      exact mx_ireturn (mx_d tX12_flower_0 54 rfl) rfl ⟨rfl, rfl⟩
  · rw [if_pos hc3] at h
    refine mx_iconst ((-1)) (mx_d tX12_flower_0 7 rfl) (by decide) ?_
    obtain rfl := Option.some.inj h
    exact mx_ireturn (mx_d tX12_flower_0 8 rfl) rfl ⟨rfl, rfl⟩
def FX12_flowerAt (a : Nat) (x0 : Int32) (m : mB) : Option (Int32 × mB) := mx_let (mx_up m.1 a 0 0, m.2) (fun m1 => Option.bind (FX12_isIn x0 0 ((m1.1 a 30) - 1) m1) (fun r2 => (if r2 = 0 then (some ((-1), m1)) else mx_chk (mx_inb x0 10) ((some ((m1.1 (a + 15) (Int32.toNatClampNeg x0)), m1))))))
set_option maxRecDepth 20000 in
theorem CX12_flowerAt {G : mG} {l : Launch} {e : mE} {a : Nat} {x0 : Int32} {m : mB} {r : (Int32 × mB)} (h0 : ly12 e a) (h : FX12_flowerAt a x0 m = some r) : mx_Call G l MX12_flowerAt 2 0 0 [.ref a, .int x0] (e, m) (fun v z => v = some (.int r.1) ∧ z = (e, r.2)) := by
  refine mx_entry (L := [.ref a, .int x0]) (by decide +kernel) (Nat.le_of_ble_eq_true rfl) rfl ?_
  unfold FX12_flowerAt at h
  refine mx_aload_n (mx_d tX12_flowerAt_0 0 rfl) rfl rfl ?_
  refine mx_iconst (0) (mx_d tX12_flowerAt_0 1 rfl) (by decide) ?_
  obtain ⟨m1, e_m1, h⟩ := mx_letE h
  refine mx_putI (mx_d tX12_flowerAt_0 2 rfl) fX12_1 rfl ⟨_, rfl, rfl⟩ rfl (ly12_o h0) (mx_eqz (z' := (e, m1)) (by rw [e_m1]) ?_)
  refine mx_iload_n (mx_d tX12_flowerAt_0 3 rfl) rfl rfl ?_
  refine mx_iconst (0) (mx_d tX12_flowerAt_0 4 rfl) (by decide) ?_
  refine mx_aload_n (mx_d tX12_flowerAt_0 5 rfl) rfl rfl ?_
  refine mx_getI (mx_d tX12_flowerAt_0 6 rfl) fX12_309 rfl (Or.inl rfl) (ly12_o h0) ?_
  refine mx_iconst (1) (mx_d tX12_flowerAt_0 7 rfl) (by decide) ?_
  refine mx_isub (mx_d tX12_flowerAt_0 8 rfl) ?_
  obtain ⟨r2, h_r2, h⟩ := Option.bind_eq_some_iff.mp h
  refine mx_cSi (mx_d tX12_flowerAt_0 9 rfl) iX12_75 rfl sX12_isIn (CX12_isIn  h_r2) (by decide) rfl rfl (Nat.le_of_ble_eq_true rfl) ?_
  refine mx_if_eq (tgt := 28) (mx_d tX12_flowerAt_0 10 rfl) (by decide) (fun hc3 => ?_) (fun hc3 => ?_)
  · rw [if_pos hc3] at h
    refine mx_iconst ((-1)) (mx_d tX12_flowerAt_0 16 rfl) (by decide) ?_
    obtain rfl := Option.some.inj h
    exact mx_ireturn (mx_d tX12_flowerAt_0 17 rfl) rfl ⟨rfl, rfl⟩
  · rw [if_neg hc3] at h
    refine mx_aload_n (mx_d tX12_flowerAt_0 11 rfl) rfl rfl ?_
    refine mx_getR (mx_d tX12_flowerAt_0 12 rfl) fX12_139 rfl rfl (ly12_o h0) (ly12_r28 h0) ?_
    refine mx_iload_n (mx_d tX12_flowerAt_0 13 rfl) rfl rfl ?_
    obtain ⟨hi4, h⟩ := mx_chkE h
    refine mx_iaload (mx_d tX12_flowerAt_0 14 rfl) (ly12_s28 h0) (mx_inbE hi4) ?_
    refine mx_goto (tgt := 29) (mx_d tX12_flowerAt_0 15 rfl) (by decide) ?_
    obtain rfl := Option.some.inj h
    exact mx_ireturn (mx_d tX12_flowerAt_0 17 rfl) rfl ⟨rfl, rfl⟩
def FX12_save_L2 (q0 : Nat) (q1 : Nat) (w1 : Nat) (y2 : Int32) : Nat → Int32 → mB → Option (mB)
  | 0, _, _ => none
  | f + 1, y3, m => (if 65 ≤ y3 then (some (m)) else mx_chk (mx_inb (125 + y3) 432) (mx_chk (mx_inb (y2 + y3) w1) (mx_let (mx_up m.1 q1 (Int32.toNatClampNeg (y2 + y3)) (m.1 (q0 + 2) (Int32.toNatClampNeg (125 + y3))), m.2) (fun m3 => mx_let (y3 + 1) (fun v5 => (FX12_save_L2 q0 q1 w1 y2 f v5 m3))))))
set_option maxRecDepth 20000 in
theorem CX12_save_L2 {G : mG} {l : Launch} {e : mE} {Post : Option Value → mS → Prop} {q0 : Nat} {q1 : Nat} {w1 : Nat} {y2 : Int32} (g0 : ly12 e q0) (g1 : mx_is e q1 100 w1) : ∀ (f : Nat) {y3 : Int32} {m : mB} {q : (mB)}, FX12_save_L2 q0 q1 w1 y2 f y3 m = some q → (mx_Fr G l MX12_save 1 0 0 Post 28 [.float 0, .float 0, .float 0, .float 0] [] (e, q)) → mx_Fr G l MX12_save 1 0 0 Post 2 [.ref q0, .ref q1, .int y2, .int y3] [] (e, m) := by
  intro f
  induction f with
  | zero => intro _ _ _ h; cases h
  | succ f ih =>
    intro y3 m q h hex
    rw [FX12_save_L2] at h
    refine mx_iload_n (mx_d tX12_save_0 2 rfl) rfl rfl ?_
    refine mx_bipush (65) (mx_d tX12_save_0 3 rfl) (by decide) ?_
    refine mx_icmp_ge (tgt := 28) (mx_d tX12_save_0 4 rfl) (by decide) (fun hc1 => ?_) (fun hc1 => ?_)
    · rw [if_pos hc1] at h
      obtain rfl := Option.some.inj h
      refine mx_forget (L' := [.float 0, .float 0, .float 0, .float 0]) trivial ?_
      exact hex
    · rw [if_neg hc1] at h
      refine mx_aload_n (mx_d tX12_save_0 5 rfl) rfl rfl ?_
      refine mx_iload_n (mx_d tX12_save_0 6 rfl) rfl rfl ?_
      refine mx_iload_n (mx_d tX12_save_0 7 rfl) rfl rfl ?_
      refine mx_iadd (mx_d tX12_save_0 8 rfl) ?_
      refine mx_aload_n (mx_d tX12_save_0 9 rfl) rfl rfl ?_
      refine mx_getR (mx_d tX12_save_0 10 rfl) fX12_98 rfl rfl (ly12_o g0) (ly12_r14 g0) ?_
      refine mx_bipush (125) (mx_d tX12_save_0 11 rfl) (by decide) ?_
      refine mx_iload_n (mx_d tX12_save_0 12 rfl) rfl rfl ?_
      refine mx_iadd (mx_d tX12_save_0 13 rfl) ?_
      obtain ⟨hi2, h⟩ := mx_chkE h
      refine mx_iaload (mx_d tX12_save_0 14 rfl) (ly12_s14 g0) (mx_inbE hi2) ?_
      obtain ⟨hi4, h⟩ := mx_chkE h
      obtain ⟨m3, e_m3, h⟩ := mx_letE h
      refine mx_iastore (mx_d tX12_save_0 15 rfl) g1 (mx_inbE hi4) (mx_eqz (z' := (e, m3)) (by rw [e_m3]) ?_)
      obtain ⟨v5, e_v5, h⟩ := mx_letE h
      refine mx_iinc v5 (L2 := [.ref q0, .ref q1, .int y2, .int v5]) (mx_d tX12_save_0 16 rfl) rfl (by rw [e_v5]; rfl) (by decide) rfl ?_
      refine mx_goto (tgt := 2) (mx_d tX12_save_0 17 rfl) (by decide) ?_
      exact ih h hex
def FX12_save (a : Nat) (p0 : Nat) (n0 : Nat) (x1 : Int32) (m : mB) : Option mB := Option.bind (FX12_save_L2 a p0 n0 x1 mx_FU 0 m) (fun q6 => (some q6))
set_option maxRecDepth 20000 in
theorem CX12_save {G : mG} {l : Launch} {e : mE} {a : Nat} {p0 : Nat} {n0 : Nat} {x1 : Int32} {m : mB} {r : mB} (h0 : ly12 e a) (h1 : mx_is e p0 100 n0) (h : FX12_save a p0 n0 x1 m = some r) : mx_Call G l MX12_save 1 0 0 [.ref a, .ref p0, .int x1] (e, m) (fun v z => v = none ∧ z = (e, r)) := by
  refine mx_entry (L := [.ref a, .ref p0, .int x1, .float 0]) (by decide +kernel) (Nat.le_of_ble_eq_true rfl) rfl ?_
  unfold FX12_save at h
  refine mx_iconst (0) (mx_d tX12_save_0 0 rfl) (by decide) ?_
  refine mx_istore_n (L2 := [.ref a, .ref p0, .int x1, .int 0]) (mx_d tX12_save_0 1 rfl) rfl (by decide) (by rfl) ?_
  obtain ⟨q6, h_q6, h⟩ := Option.bind_eq_some_iff.mp h
  refine CX12_save_L2 h0 h1 mx_FU h_q6 ?_
  obtain rfl := Option.some.inj h
  exact mx_return (mx_d tX12_save_0 18 rfl) rfl ⟨rfl, rfl⟩
def FX12_comeBack_L2 (q0 : Nat) (q1 : Nat) (w1 : Nat) (y2 : Int32) : Nat → Int32 → mB → Option (mB)
  | 0, _, _ => none
  | f + 1, y3, m => (if 65 ≤ y3 then (some (m)) else mx_chk (mx_inb (y2 + y3) w1) (mx_chk (mx_inb (125 + y3) 432) (mx_let (mx_up m.1 (q0 + 2) (Int32.toNatClampNeg (125 + y3)) (m.1 q1 (Int32.toNatClampNeg (y2 + y3))), m.2) (fun m3 => mx_let (y3 + 1) (fun v5 => (FX12_comeBack_L2 q0 q1 w1 y2 f v5 m3))))))
set_option maxRecDepth 20000 in
theorem CX12_comeBack_L2 {G : mG} {l : Launch} {e : mE} {Post : Option Value → mS → Prop} {q0 : Nat} {q1 : Nat} {w1 : Nat} {y2 : Int32} (g0 : ly12 e q0) (g1 : mx_is e q1 100 w1) : ∀ (f : Nat) {y3 : Int32} {m : mB} {q : (mB)}, FX12_comeBack_L2 q0 q1 w1 y2 f y3 m = some q → (mx_Fr G l MX12_comeBack 1 0 0 Post 28 [.float 0, .float 0, .float 0, .float 0] [] (e, q)) → mx_Fr G l MX12_comeBack 1 0 0 Post 2 [.ref q0, .ref q1, .int y2, .int y3] [] (e, m) := by
  intro f
  induction f with
  | zero => intro _ _ _ h; cases h
  | succ f ih =>
    intro y3 m q h hex
    rw [FX12_comeBack_L2] at h
    refine mx_iload_n (mx_d tX12_comeBack_0 2 rfl) rfl rfl ?_
    refine mx_bipush (65) (mx_d tX12_comeBack_0 3 rfl) (by decide) ?_
    refine mx_icmp_ge (tgt := 28) (mx_d tX12_comeBack_0 4 rfl) (by decide) (fun hc1 => ?_) (fun hc1 => ?_)
    · rw [if_pos hc1] at h
      obtain rfl := Option.some.inj h
      refine mx_forget (L' := [.float 0, .float 0, .float 0, .float 0]) trivial ?_
      exact hex
    · rw [if_neg hc1] at h
      refine mx_aload_n (mx_d tX12_comeBack_0 5 rfl) rfl rfl ?_
      refine mx_getR (mx_d tX12_comeBack_0 6 rfl) fX12_98 rfl rfl (ly12_o g0) (ly12_r14 g0) ?_
      refine mx_bipush (125) (mx_d tX12_comeBack_0 7 rfl) (by decide) ?_
      refine mx_iload_n (mx_d tX12_comeBack_0 8 rfl) rfl rfl ?_
      refine mx_iadd (mx_d tX12_comeBack_0 9 rfl) ?_
      refine mx_aload_n (mx_d tX12_comeBack_0 10 rfl) rfl rfl ?_
      refine mx_iload_n (mx_d tX12_comeBack_0 11 rfl) rfl rfl ?_
      refine mx_iload_n (mx_d tX12_comeBack_0 12 rfl) rfl rfl ?_
      refine mx_iadd (mx_d tX12_comeBack_0 13 rfl) ?_
      obtain ⟨hi2, h⟩ := mx_chkE h
      refine mx_iaload (mx_d tX12_comeBack_0 14 rfl) g1 (mx_inbE hi2) ?_
      obtain ⟨hi4, h⟩ := mx_chkE h
      obtain ⟨m3, e_m3, h⟩ := mx_letE h
      refine mx_iastore (mx_d tX12_comeBack_0 15 rfl) (ly12_s14 g0) (mx_inbE hi4) (mx_eqz (z' := (e, m3)) (by rw [e_m3]) ?_)
      obtain ⟨v5, e_v5, h⟩ := mx_letE h
      refine mx_iinc v5 (L2 := [.ref q0, .ref q1, .int y2, .int v5]) (mx_d tX12_comeBack_0 16 rfl) rfl (by rw [e_v5]; rfl) (by decide) rfl ?_
      refine mx_goto (tgt := 2) (mx_d tX12_comeBack_0 17 rfl) (by decide) ?_
      exact ih h hex
def FX12_comeBack (a : Nat) (p0 : Nat) (n0 : Nat) (x1 : Int32) (m : mB) : Option mB := Option.bind (FX12_comeBack_L2 a p0 n0 x1 mx_FU 0 m) (fun q6 => (some q6))
set_option maxRecDepth 20000 in
theorem CX12_comeBack {G : mG} {l : Launch} {e : mE} {a : Nat} {p0 : Nat} {n0 : Nat} {x1 : Int32} {m : mB} {r : mB} (h0 : ly12 e a) (h1 : mx_is e p0 100 n0) (h : FX12_comeBack a p0 n0 x1 m = some r) : mx_Call G l MX12_comeBack 1 0 0 [.ref a, .ref p0, .int x1] (e, m) (fun v z => v = none ∧ z = (e, r)) := by
  refine mx_entry (L := [.ref a, .ref p0, .int x1, .float 0]) (by decide +kernel) (Nat.le_of_ble_eq_true rfl) rfl ?_
  unfold FX12_comeBack at h
  refine mx_iconst (0) (mx_d tX12_comeBack_0 0 rfl) (by decide) ?_
  refine mx_istore_n (L2 := [.ref a, .ref p0, .int x1, .int 0]) (mx_d tX12_comeBack_0 1 rfl) rfl (by decide) (by rfl) ?_
  obtain ⟨q6, h_q6, h⟩ := Option.bind_eq_some_iff.mp h
  refine CX12_comeBack_L2 h0 h1 mx_FU h_q6 ?_
  obtain rfl := Option.some.inj h
  exact mx_return (mx_d tX12_comeBack_0 18 rfl) rfl ⟨rfl, rfl⟩
def FX12_snap_L11 (q0 : Nat) : Nat → Int32 → mB → Option (mB)
  | 0, _, _ => none
  | f + 1, y1, m => (if 455 ≤ y1 then (some (m)) else mx_chk (mx_inb (y1 + 65) 520) (mx_chk (mx_inb y1 520) (mx_let (mx_up m.1 (q0 + 5) (Int32.toNatClampNeg y1) (m.1 (q0 + 5) (Int32.toNatClampNeg (y1 + 65))), m.2) (fun m8 => mx_let (y1 + 1) (fun v10 => (FX12_snap_L11 q0 f v10 m8))))))
set_option maxRecDepth 20000 in
theorem CX12_snap_L11 {G : mG} {l : Launch} {e : mE} {Post : Option Value → mS → Prop} {q0 : Nat} (g0 : ly12 e q0) : ∀ (f : Nat) {y1 : Int32} {m : mB} {q : (mB)}, FX12_snap_L11 q0 f y1 m = some q → (mx_Fr G l MX12_snap 2 0 0 Post 39 [.ref q0, .float 0] [] (e, q)) → mx_Fr G l MX12_snap 2 0 0 Post 11 [.ref q0, .int y1] [] (e, m) := by
  intro f
  induction f with
  | zero => intro _ _ _ h; cases h
  | succ f ih =>
    intro y1 m q h hex
    rw [FX12_snap_L11] at h
    refine mx_iload_n (mx_d tX12_snap_0 6 rfl) rfl rfl ?_
    refine mx_sipush (455) (mx_d tX12_snap_0 7 rfl) (by decide) ?_
    refine mx_icmp_ge (tgt := 39) (mx_d tX12_snap_0 8 rfl) (by decide) (fun hc6 => ?_) (fun hc6 => ?_)
    · rw [if_pos hc6] at h
      obtain rfl := Option.some.inj h
      refine mx_forget (L' := [.ref q0, .float 0]) ⟨rfl, trivial⟩ ?_
      exact hex
    · rw [if_neg hc6] at h
      refine mx_aload_n (mx_d tX12_snap_0 9 rfl) rfl rfl ?_
      refine mx_getR (mx_d tX12_snap_0 10 rfl) fX12_107 rfl rfl (ly12_o g0) (ly12_r17 g0) ?_
      refine mx_iload_n (mx_d tX12_snap_0 11 rfl) rfl rfl ?_
      refine mx_aload_n (mx_d tX12_snap_0 12 rfl) rfl rfl ?_
      refine mx_getR (mx_d tX12_snap_0 13 rfl) fX12_107 rfl rfl (ly12_o g0) (ly12_r17 g0) ?_
      refine mx_iload_n (mx_d tX12_snap_0 14 rfl) rfl rfl ?_
      refine mx_bipush (65) (mx_d tX12_snap_0 15 rfl) (by decide) ?_
      refine mx_iadd (mx_d tX12_snap_0 16 rfl) ?_
      obtain ⟨hi7, h⟩ := mx_chkE h
      refine mx_iaload (mx_d tX12_snap_0 17 rfl) (ly12_s17 g0) (mx_inbE hi7) ?_
      obtain ⟨hi9, h⟩ := mx_chkE h
      obtain ⟨m8, e_m8, h⟩ := mx_letE h
      refine mx_iastore (mx_d tX12_snap_0 18 rfl) (ly12_s17 g0) (mx_inbE hi9) (mx_eqz (z' := (e, m8)) (by rw [e_m8]) ?_)
      obtain ⟨v10, e_v10, h⟩ := mx_letE h
      refine mx_iinc v10 (L2 := [.ref q0, .int v10]) (mx_d tX12_snap_0 19 rfl) rfl (by rw [e_v10]; rfl) (by decide) rfl ?_
      refine mx_goto (tgt := 11) (mx_d tX12_snap_0 20 rfl) (by decide) ?_
      exact ih h hex
def FX12_snap (a : Nat) (m : mB) : Option mB := mx_let (fun (m2 : mB) => Option.bind (FX12_save a (a + 5) 520 (65 * (m2.1 a 25)) m2) (fun r4 => mx_let (mx_up r4.1 a 25 ((r4.1 a 25) + 1), r4.2) (fun m5 => (some m5)))) (fun k3 => (if (m.1 a 25) = 8 then Option.bind (FX12_snap_L11 a mx_FU 0 m) (fun q11 => mx_let (mx_up q11.1 a 25 ((q11.1 a 25) - 1), q11.2) (fun m12 => (k3 m12))) else (k3 m)))
set_option maxRecDepth 20000 in
theorem CX12_snap {G : mG} {l : Launch} {e : mE} {a : Nat} {m : mB} {r : mB} (h0 : ly12 e a) (h : FX12_snap a m = some r) : mx_Call G l MX12_snap 2 0 0 [.ref a] (e, m) (fun v z => v = none ∧ z = (e, r)) := by
  refine mx_entry (L := [.ref a, .float 0]) (by decide +kernel) (Nat.le_of_ble_eq_true rfl) rfl ?_
  unfold FX12_snap at h
  refine mx_aload_n (mx_d tX12_snap_0 0 rfl) rfl rfl ?_
  refine mx_getI (mx_d tX12_snap_0 1 rfl) fX12_244 rfl (Or.inl rfl) (ly12_o h0) ?_
  refine mx_bipush (8) (mx_d tX12_snap_0 2 rfl) (by decide) ?_
  refine mx_letK (J := fun k3 => ∀ {m2 : mB}, k3 m2 = some r → mx_Fr G l MX12_snap 2 0 0 (fun v z => v = none ∧ z = (e, r)) 49 [.ref a, .float 0] [] (e, m2)) h ?_ (fun k3 j_k3 h => ?_)
  · intro m2 h
    dsimp only at h
    refine mx_aload_n (mx_d tX12_snap_0 27 rfl) rfl rfl ?_
    refine mx_aload_n (mx_d tX12_snap_0 28 rfl) rfl rfl ?_
    refine mx_getR (mx_d tX12_snap_0 29 rfl) fX12_107 rfl rfl (ly12_o h0) (ly12_r17 h0) ?_
    refine mx_bipush (65) (mx_d tX12_snap_0 30 rfl) (by decide) ?_
    refine mx_aload_n (mx_d tX12_snap_0 31 rfl) rfl rfl ?_
    refine mx_getI (mx_d tX12_snap_0 32 rfl) fX12_244 rfl (Or.inl rfl) (ly12_o h0) ?_
    refine mx_imul (mx_d tX12_snap_0 33 rfl) ?_
    obtain ⟨r4, h_r4, h⟩ := Option.bind_eq_some_iff.mp h
    refine mx_cVv (mx_d tX12_snap_0 34 rfl) iX12_318 rfl vX12_save ⟨_, rfl, rfl⟩ (ly12_o h0) (CX12_save h0 (ly12_s17 h0) h_r4) (by decide) rfl rfl (Nat.le_of_ble_eq_true rfl) ?_
    refine mx_aload_n (mx_d tX12_snap_0 35 rfl) rfl rfl ?_
    refine mx_dup (mx_d tX12_snap_0 36 rfl) rfl ?_
    refine mx_getI (mx_d tX12_snap_0 37 rfl) fX12_244 rfl (Or.inl rfl) (ly12_o h0) ?_
    refine mx_iconst (1) (mx_d tX12_snap_0 38 rfl) (by decide) ?_
    refine mx_iadd (mx_d tX12_snap_0 39 rfl) ?_
    obtain ⟨m5, e_m5, h⟩ := mx_letE h
    refine mx_putI (mx_d tX12_snap_0 40 rfl) fX12_244 rfl ⟨_, rfl, rfl⟩ rfl (ly12_o h0) (mx_eqz (z' := (e, m5)) (by rw [e_m5]) ?_)
    obtain rfl := Option.some.inj h
    exact mx_return (mx_d tX12_snap_0 41 rfl) rfl ⟨rfl, rfl⟩
  refine mx_icmp_ne (tgt := 49) (mx_d tX12_snap_0 3 rfl) (by decide) (fun hc1 => ?_) (fun hc1 => ?_)
  · rw [if_neg hc1] at h
    exact j_k3 h
  · rw [if_pos hc1] at h
    refine mx_iconst (0) (mx_d tX12_snap_0 4 rfl) (by decide) ?_
    refine mx_istore_n (L2 := [.ref a, .int 0]) (mx_d tX12_snap_0 5 rfl) rfl (by decide) (by rfl) ?_
    obtain ⟨q11, h_q11, h⟩ := Option.bind_eq_some_iff.mp h
    refine CX12_snap_L11 h0 mx_FU h_q11 ?_
    refine mx_aload_n (mx_d tX12_snap_0 21 rfl) rfl rfl ?_
    refine mx_dup (mx_d tX12_snap_0 22 rfl) rfl ?_
    refine mx_getI (mx_d tX12_snap_0 23 rfl) fX12_244 rfl (Or.inl rfl) (ly12_o h0) ?_
    refine mx_iconst (1) (mx_d tX12_snap_0 24 rfl) (by decide) ?_
    refine mx_isub (mx_d tX12_snap_0 25 rfl) ?_
    obtain ⟨m12, e_m12, h⟩ := mx_letE h
    refine mx_putI (mx_d tX12_snap_0 26 rfl) fX12_244 rfl ⟨_, rfl, rfl⟩ rfl (ly12_o h0) (mx_eqz (z' := (e, m12)) (by rw [e_m12]) ?_)
    exact j_k3 h
def FX12_refusal (a : Nat) (x0 : Int32) (x1 : Int32) (x2 : Int32) (x3 : Int32) (m : mB) : Option (Int32 × mB) := (if x0 = 0 then Option.bind (FX12_areLinked a x1 x2 m) (fun r2 => (if r2 = 0 then (some (1, m)) else Option.bind (FX12_isLone a x1 m) (fun r4 => (if r4 = 0 then (some (2, m)) else Option.bind (FX12_isLone a x2 m) (fun r6 => (if r6 = 0 then (some (2, m)) else (some (0, m)))))))) else if x0 = 1 then Option.bind (FX12_isLone a x1 m) (fun r9 => (if r9 = 0 then (some (0, m)) else (some (1, m)))) else if x0 = 2 then Option.bind (FX12_areLinked a x1 x2 m) (fun r12 => (if r12 = 0 then (some (1, m)) else Option.bind (FX12_between a x1 x2 m) (fun r14 => mx_chk (mx_inb (128 + r14) 432) ((if (m.1 (a + 2) (Int32.toNatClampNeg (128 + r14))) = x3 then (some (2, m)) else (some (0, m))))))) else if x0 = 3 then mx_chk (mx_inb (168 + x1) 432) ((if (m.1 (a + 2) (Int32.toNatClampNeg (168 + x1))) = x3 then (some (1, m)) else (some (0, m)))) else if x0 = 4 then mx_chk (mx_inb (184 + x1) 432) ((if (m.1 (a + 2) (Int32.toNatClampNeg (184 + x1))) = x3 then (some (1, m)) else (some (0, m)))) else if x0 = 5 then mx_chk (mx_inb (184 + x1) 432) ((if (m.1 (a + 2) (Int32.toNatClampNeg (184 + x1))) ≤ 0 then (some (0, m)) else (some (1, m)))) else Option.bind (FX12_isLone a x1 m) (fun r26 => (if r26 = 0 then (some (1, m)) else Option.bind (FX12_layPath a x1 m) (fun r28 => (if r28.1 = 0 then (some (2, r28.2)) else (some (0, r28.2)))))))
set_option maxRecDepth 20000 in
theorem CX12_refusal {G : mG} {l : Launch} {e : mE} {a : Nat} {x0 : Int32} {x1 : Int32} {x2 : Int32} {x3 : Int32} {m : mB} {r : (Int32 × mB)} (h0 : ly12 e a) (h : FX12_refusal a x0 x1 x2 x3 m = some r) : mx_Call G l MX12_refusal 258 0 0 [.ref a, .int x0, .int x1, .int x2, .int x3] (e, m) (fun v z => v = some (.int r.1) ∧ z = (e, r.2)) := by
  refine mx_entry (L := [.ref a, .int x0, .int x1, .int x2, .int x3]) (by decide +kernel) (Nat.le_of_ble_eq_true rfl) rfl ?_
  unfold FX12_refusal at h
  refine mx_iload_n (mx_d tX12_refusal_0 0 rfl) rfl rfl ?_
  by_cases hc1 : x0 = 0
  · rw [if_pos hc1] at h
    refine mx_tableIn (tgt := 40) (mx_d tX12_refusal_0 1 rfl) (by rw [hc1]; decide) (by rw [hc1]; decide) (by rw [hc1]; rfl) (by decide) ?_
    refine mx_aload_n (mx_d tX12_refusal_0 2 rfl) rfl rfl ?_
    refine mx_iload_n (mx_d tX12_refusal_0 3 rfl) rfl rfl ?_
    refine mx_iload_n (mx_d tX12_refusal_0 4 rfl) rfl rfl ?_
    obtain ⟨r2, h_r2, h⟩ := Option.bind_eq_some_iff.mp h
    refine mx_cVi (mx_d tX12_refusal_0 5 rfl) iX12_300 rfl vX12_areLinked ⟨_, rfl, rfl⟩ (ly12_o h0) (CX12_areLinked h0 h_r2) (by decide) rfl rfl (Nat.le_of_ble_eq_true rfl) ?_
    refine mx_if_ne (tgt := 53) (mx_d tX12_refusal_0 6 rfl) (by decide) (fun hc3 => ?_) (fun hc3 => ?_)
    · rw [if_neg hc3] at h
      refine mx_aload_n (mx_d tX12_refusal_0 9 rfl) rfl rfl ?_
      refine mx_iload_n (mx_d tX12_refusal_0 10 rfl) rfl rfl ?_
      obtain ⟨r4, h_r4, h⟩ := Option.bind_eq_some_iff.mp h
      refine mx_cVi (mx_d tX12_refusal_0 11 rfl) iX12_294 rfl vX12_isLone ⟨_, rfl, rfl⟩ (ly12_o h0) (CX12_isLone h0 h_r4) (by decide) rfl rfl (Nat.le_of_ble_eq_true rfl) ?_
      refine mx_if_eq (tgt := 73) (mx_d tX12_refusal_0 12 rfl) (by decide) (fun hc5 => ?_) (fun hc5 => ?_)
      · rw [if_pos hc5] at h
        refine mx_iconst (2) (mx_d tX12_refusal_0 19 rfl) (by decide) ?_
        obtain rfl := Option.some.inj h
        exact mx_ireturn (mx_d tX12_refusal_0 20 rfl) rfl ⟨rfl, rfl⟩
      · rw [if_neg hc5] at h
        refine mx_aload_n (mx_d tX12_refusal_0 13 rfl) rfl rfl ?_
        refine mx_iload_n (mx_d tX12_refusal_0 14 rfl) rfl rfl ?_
        obtain ⟨r6, h_r6, h⟩ := Option.bind_eq_some_iff.mp h
        refine mx_cVi (mx_d tX12_refusal_0 15 rfl) iX12_294 rfl vX12_isLone ⟨_, rfl, rfl⟩ (ly12_o h0) (CX12_isLone h0 h_r6) (by decide) rfl rfl (Nat.le_of_ble_eq_true rfl) ?_
        refine mx_if_eq (tgt := 73) (mx_d tX12_refusal_0 16 rfl) (by decide) (fun hc7 => ?_) (fun hc7 => ?_)
        · rw [if_pos hc7] at h
          refine mx_iconst (2) (mx_d tX12_refusal_0 19 rfl) (by decide) ?_
          obtain rfl := Option.some.inj h
          exact mx_ireturn (mx_d tX12_refusal_0 20 rfl) rfl ⟨rfl, rfl⟩
        · rw [if_neg hc7] at h
          refine mx_iconst (0) (mx_d tX12_refusal_0 17 rfl) (by decide) ?_
          refine mx_goto (tgt := 74) (mx_d tX12_refusal_0 18 rfl) (by decide) ?_
          obtain rfl := Option.some.inj h
          exact mx_ireturn (mx_d tX12_refusal_0 20 rfl) rfl ⟨rfl, rfl⟩
    · rw [if_pos hc3] at h
      refine mx_iconst (1) (mx_d tX12_refusal_0 7 rfl) (by decide) ?_
      refine mx_goto (tgt := 74) (mx_d tX12_refusal_0 8 rfl) (by decide) ?_
      obtain rfl := Option.some.inj h
      exact mx_ireturn (mx_d tX12_refusal_0 20 rfl) rfl ⟨rfl, rfl⟩
  · rw [if_neg hc1] at h
    by_cases hc8 : x0 = 1
    · rw [if_pos hc8] at h
      refine mx_tableIn (tgt := 75) (mx_d tX12_refusal_0 1 rfl) (by rw [hc8]; decide) (by rw [hc8]; decide) (by rw [hc8]; rfl) (by decide) ?_
      refine mx_aload_n (mx_d tX12_refusal_0 21 rfl) rfl rfl ?_
      refine mx_iload_n (mx_d tX12_refusal_0 22 rfl) rfl rfl ?_
      obtain ⟨r9, h_r9, h⟩ := Option.bind_eq_some_iff.mp h
      refine mx_cVi (mx_d tX12_refusal_0 23 rfl) iX12_294 rfl vX12_isLone ⟨_, rfl, rfl⟩ (ly12_o h0) (CX12_isLone h0 h_r9) (by decide) rfl rfl (Nat.le_of_ble_eq_true rfl) ?_
      refine mx_if_eq (tgt := 87) (mx_d tX12_refusal_0 24 rfl) (by decide) (fun hc10 => ?_) (fun hc10 => ?_)
      · rw [if_pos hc10] at h
        refine mx_iconst (0) (mx_d tX12_refusal_0 27 rfl) (by decide) ?_
        obtain rfl := Option.some.inj h
        exact mx_ireturn (mx_d tX12_refusal_0 28 rfl) rfl ⟨rfl, rfl⟩
      · rw [if_neg hc10] at h
        refine mx_iconst (1) (mx_d tX12_refusal_0 25 rfl) (by decide) ?_
        refine mx_goto (tgt := 88) (mx_d tX12_refusal_0 26 rfl) (by decide) ?_
        obtain rfl := Option.some.inj h
        exact mx_ireturn (mx_d tX12_refusal_0 28 rfl) rfl ⟨rfl, rfl⟩
    · rw [if_neg hc8] at h
      by_cases hc11 : x0 = 2
      · rw [if_pos hc11] at h
        refine mx_tableIn (tgt := 89) (mx_d tX12_refusal_0 1 rfl) (by rw [hc11]; decide) (by rw [hc11]; decide) (by rw [hc11]; rfl) (by decide) ?_
        refine mx_aload_n (mx_d tX12_refusal_0 29 rfl) rfl rfl ?_
        refine mx_iload_n (mx_d tX12_refusal_0 30 rfl) rfl rfl ?_
        refine mx_iload_n (mx_d tX12_refusal_0 31 rfl) rfl rfl ?_
        obtain ⟨r12, h_r12, h⟩ := Option.bind_eq_some_iff.mp h
        refine mx_cVi (mx_d tX12_refusal_0 32 rfl) iX12_300 rfl vX12_areLinked ⟨_, rfl, rfl⟩ (ly12_o h0) (CX12_areLinked h0 h_r12) (by decide) rfl rfl (Nat.le_of_ble_eq_true rfl) ?_
        refine mx_if_ne (tgt := 102) (mx_d tX12_refusal_0 33 rfl) (by decide) (fun hc13 => ?_) (fun hc13 => ?_)
        · rw [if_neg hc13] at h
          refine mx_aload_n (mx_d tX12_refusal_0 36 rfl) rfl rfl ?_
          refine mx_getR (mx_d tX12_refusal_0 37 rfl) fX12_98 rfl rfl (ly12_o h0) (ly12_r14 h0) ?_
          refine mx_sipush (128) (mx_d tX12_refusal_0 38 rfl) (by decide) ?_
          refine mx_aload_n (mx_d tX12_refusal_0 39 rfl) rfl rfl ?_
          refine mx_iload_n (mx_d tX12_refusal_0 40 rfl) rfl rfl ?_
          refine mx_iload_n (mx_d tX12_refusal_0 41 rfl) rfl rfl ?_
          obtain ⟨r14, h_r14, h⟩ := Option.bind_eq_some_iff.mp h
          refine mx_cVi (mx_d tX12_refusal_0 42 rfl) iX12_250 rfl vX12_between ⟨_, rfl, rfl⟩ (ly12_o h0) (CX12_between h0 h_r14) (by decide) rfl rfl (Nat.le_of_ble_eq_true rfl) ?_
          refine mx_iadd (mx_d tX12_refusal_0 43 rfl) ?_
          obtain ⟨hi15, h⟩ := mx_chkE h
          refine mx_iaload (mx_d tX12_refusal_0 44 rfl) (ly12_s14 h0) (mx_inbE hi15) ?_
          refine mx_iload (mx_d tX12_refusal_0 45 rfl) rfl ?_
          refine mx_icmp_ne (tgt := 126) (mx_d tX12_refusal_0 46 rfl) (by decide) (fun hc16 => ?_) (fun hc16 => ?_)
          · rw [if_neg hc16] at h
            refine mx_iconst (0) (mx_d tX12_refusal_0 49 rfl) (by decide) ?_
            obtain rfl := Option.some.inj h
            exact mx_ireturn (mx_d tX12_refusal_0 50 rfl) rfl ⟨rfl, rfl⟩
          · rw [if_pos hc16] at h
            refine mx_iconst (2) (mx_d tX12_refusal_0 47 rfl) (by decide) ?_
            refine mx_goto (tgt := 127) (mx_d tX12_refusal_0 48 rfl) (by decide) ?_
            obtain rfl := Option.some.inj h
            exact mx_ireturn (mx_d tX12_refusal_0 50 rfl) rfl ⟨rfl, rfl⟩
        · rw [if_pos hc13] at h
          refine mx_iconst (1) (mx_d tX12_refusal_0 34 rfl) (by decide) ?_
          refine mx_goto (tgt := 127) (mx_d tX12_refusal_0 35 rfl) (by decide) ?_
          obtain rfl := Option.some.inj h
          exact mx_ireturn (mx_d tX12_refusal_0 50 rfl) rfl ⟨rfl, rfl⟩
      · rw [if_neg hc11] at h
        by_cases hc17 : x0 = 3
        · rw [if_pos hc17] at h
          refine mx_tableIn (tgt := 128) (mx_d tX12_refusal_0 1 rfl) (by rw [hc17]; decide) (by rw [hc17]; decide) (by rw [hc17]; rfl) (by decide) ?_
          refine mx_aload_n (mx_d tX12_refusal_0 51 rfl) rfl rfl ?_
          refine mx_getR (mx_d tX12_refusal_0 52 rfl) fX12_98 rfl rfl (ly12_o h0) (ly12_r14 h0) ?_
          refine mx_sipush (168) (mx_d tX12_refusal_0 53 rfl) (by decide) ?_
          refine mx_iload_n (mx_d tX12_refusal_0 54 rfl) rfl rfl ?_
          refine mx_iadd (mx_d tX12_refusal_0 55 rfl) ?_
          obtain ⟨hi18, h⟩ := mx_chkE h
          refine mx_iaload (mx_d tX12_refusal_0 56 rfl) (ly12_s14 h0) (mx_inbE hi18) ?_
          refine mx_iload (mx_d tX12_refusal_0 57 rfl) rfl ?_
          refine mx_icmp_ne (tgt := 147) (mx_d tX12_refusal_0 58 rfl) (by decide) (fun hc19 => ?_) (fun hc19 => ?_)
          · rw [if_neg hc19] at h
            refine mx_iconst (0) (mx_d tX12_refusal_1 1 rfl) (by decide) ?_
            obtain rfl := Option.some.inj h
            exact mx_ireturn (mx_d tX12_refusal_1 2 rfl) rfl ⟨rfl, rfl⟩
          · rw [if_pos hc19] at h
            refine mx_iconst (1) (mx_d tX12_refusal_0 59 rfl) (by decide) ?_
            refine mx_goto (tgt := 148) (mx_d tX12_refusal_1 0 rfl) (by decide) ?_
            obtain rfl := Option.some.inj h
            exact mx_ireturn (mx_d tX12_refusal_1 2 rfl) rfl ⟨rfl, rfl⟩
        · rw [if_neg hc17] at h
          by_cases hc20 : x0 = 4
          · rw [if_pos hc20] at h
            refine mx_tableIn (tgt := 149) (mx_d tX12_refusal_0 1 rfl) (by rw [hc20]; decide) (by rw [hc20]; decide) (by rw [hc20]; rfl) (by decide) ?_
            refine mx_aload_n (mx_d tX12_refusal_1 3 rfl) rfl rfl ?_
            refine mx_getR (mx_d tX12_refusal_1 4 rfl) fX12_98 rfl rfl (ly12_o h0) (ly12_r14 h0) ?_
            refine mx_sipush (184) (mx_d tX12_refusal_1 5 rfl) (by decide) ?_
            refine mx_iload_n (mx_d tX12_refusal_1 6 rfl) rfl rfl ?_
            refine mx_iadd (mx_d tX12_refusal_1 7 rfl) ?_
            obtain ⟨hi21, h⟩ := mx_chkE h
            refine mx_iaload (mx_d tX12_refusal_1 8 rfl) (ly12_s14 h0) (mx_inbE hi21) ?_
            refine mx_iload (mx_d tX12_refusal_1 9 rfl) rfl ?_
            refine mx_icmp_ne (tgt := 168) (mx_d tX12_refusal_1 10 rfl) (by decide) (fun hc22 => ?_) (fun hc22 => ?_)
            · rw [if_neg hc22] at h
              refine mx_iconst (0) (mx_d tX12_refusal_1 13 rfl) (by decide) ?_
              obtain rfl := Option.some.inj h
              exact mx_ireturn (mx_d tX12_refusal_1 14 rfl) rfl ⟨rfl, rfl⟩
            · rw [if_pos hc22] at h
              refine mx_iconst (1) (mx_d tX12_refusal_1 11 rfl) (by decide) ?_
              refine mx_goto (tgt := 169) (mx_d tX12_refusal_1 12 rfl) (by decide) ?_
              obtain rfl := Option.some.inj h
              exact mx_ireturn (mx_d tX12_refusal_1 14 rfl) rfl ⟨rfl, rfl⟩
          · rw [if_neg hc20] at h
            by_cases hc23 : x0 = 5
            · rw [if_pos hc23] at h
              refine mx_tableIn (tgt := 170) (mx_d tX12_refusal_0 1 rfl) (by rw [hc23]; decide) (by rw [hc23]; decide) (by rw [hc23]; rfl) (by decide) ?_
              refine mx_aload_n (mx_d tX12_refusal_1 15 rfl) rfl rfl ?_
              refine mx_getR (mx_d tX12_refusal_1 16 rfl) fX12_98 rfl rfl (ly12_o h0) (ly12_r14 h0) ?_
              refine mx_sipush (184) (mx_d tX12_refusal_1 17 rfl) (by decide) ?_
              refine mx_iload_n (mx_d tX12_refusal_1 18 rfl) rfl rfl ?_
              refine mx_iadd (mx_d tX12_refusal_1 19 rfl) ?_
              obtain ⟨hi24, h⟩ := mx_chkE h
              refine mx_iaload (mx_d tX12_refusal_1 20 rfl) (ly12_s14 h0) (mx_inbE hi24) ?_
              refine mx_if_le (tgt := 187) (mx_d tX12_refusal_1 21 rfl) (by decide) (fun hc25 => ?_) (fun hc25 => ?_)
              · rw [if_pos hc25] at h
                refine mx_iconst (0) (mx_d tX12_refusal_1 24 rfl) (by decide) ?_
                obtain rfl := Option.some.inj h
                exact mx_ireturn (mx_d tX12_refusal_1 25 rfl) rfl ⟨rfl, rfl⟩
              · rw [if_neg hc25] at h
                refine mx_iconst (1) (mx_d tX12_refusal_1 22 rfl) (by decide) ?_
                refine mx_goto (tgt := 188) (mx_d tX12_refusal_1 23 rfl) (by decide) ?_
                obtain rfl := Option.some.inj h
                exact mx_ireturn (mx_d tX12_refusal_1 25 rfl) rfl ⟨rfl, rfl⟩
            · rw [if_neg hc23] at h
              have z_hc1 := lv_neT hc1 (a := 0) (by decide)
              have z_hc8 := lv_neT hc8 (a := 1) (by decide)
              have z_hc11 := lv_neT hc11 (a := 2) (by decide)
              have z_hc17 := lv_neT hc17 (a := 3) (by decide)
              have z_hc20 := lv_neT hc20 (a := 4) (by decide)
              have z_hc23 := lv_neT hc23 (a := 5) (by decide)
              refine mx_tableOut (tgt := 189) (mx_d tX12_refusal_0 1 rfl) (by omega) (by decide) ?_
              refine mx_aload_n (mx_d tX12_refusal_1 26 rfl) rfl rfl ?_
              refine mx_iload_n (mx_d tX12_refusal_1 27 rfl) rfl rfl ?_
              obtain ⟨r26, h_r26, h⟩ := Option.bind_eq_some_iff.mp h
              refine mx_cVi (mx_d tX12_refusal_1 28 rfl) iX12_294 rfl vX12_isLone ⟨_, rfl, rfl⟩ (ly12_o h0) (CX12_isLone h0 h_r26) (by decide) rfl rfl (Nat.le_of_ble_eq_true rfl) ?_
              refine mx_if_ne (tgt := 201) (mx_d tX12_refusal_1 29 rfl) (by decide) (fun hc27 => ?_) (fun hc27 => ?_)
              · rw [if_neg hc27] at h
                refine mx_aload_n (mx_d tX12_refusal_1 32 rfl) rfl rfl ?_
                refine mx_iload_n (mx_d tX12_refusal_1 33 rfl) rfl rfl ?_
                obtain ⟨r28, h_r28, h⟩ := Option.bind_eq_some_iff.mp h
                refine mx_cVi (mx_d tX12_refusal_1 34 rfl) iX12_312 rfl vX12_layPath ⟨_, rfl, rfl⟩ (ly12_o h0) (CX12_layPath h0 h_r28) (by decide) rfl rfl (Nat.le_of_ble_eq_true rfl) ?_
                refine mx_if_ne (tgt := 213) (mx_d tX12_refusal_1 35 rfl) (by decide) (fun hc29 => ?_) (fun hc29 => ?_)
                · rw [if_neg hc29] at h
                  refine mx_iconst (0) (mx_d tX12_refusal_1 38 rfl) (by decide) ?_
                  obtain rfl := Option.some.inj h
                  exact mx_ireturn (mx_d tX12_refusal_1 39 rfl) rfl ⟨rfl, rfl⟩
                · rw [if_pos hc29] at h
                  refine mx_iconst (2) (mx_d tX12_refusal_1 36 rfl) (by decide) ?_
                  refine mx_goto (tgt := 214) (mx_d tX12_refusal_1 37 rfl) (by decide) ?_
                  obtain rfl := Option.some.inj h
                  exact mx_ireturn (mx_d tX12_refusal_1 39 rfl) rfl ⟨rfl, rfl⟩
              · rw [if_pos hc27] at h
                refine mx_iconst (1) (mx_d tX12_refusal_1 30 rfl) (by decide) ?_
                refine mx_goto (tgt := 214) (mx_d tX12_refusal_1 31 rfl) (by decide) ?_
                obtain rfl := Option.some.inj h
                exact mx_ireturn (mx_d tX12_refusal_1 39 rfl) rfl ⟨rfl, rfl⟩
def FX12_openOdd_L13 (q0 : Nat) : Nat → Int32 → mB → Option (mB)
  | 0, _, _ => none
  | f + 1, y2, m => (if 5 ≤ y2 then (some (m)) else mx_chk (mx_inb ((178 + y2) + 1) 432) (mx_chk (mx_inb (178 + y2) 432) (mx_let (mx_up m.1 (q0 + 2) (Int32.toNatClampNeg (178 + y2)) (m.1 (q0 + 2) (Int32.toNatClampNeg ((178 + y2) + 1))), m.2) (fun m4 => mx_chk (mx_inb ((184 + y2) + 1) 432) (mx_chk (mx_inb (184 + y2) 432) (mx_let (mx_up m4.1 (q0 + 2) (Int32.toNatClampNeg (184 + y2)) (m4.1 (q0 + 2) (Int32.toNatClampNeg ((184 + y2) + 1))), m4.2) (fun m7 => mx_let (y2 + 1) (fun v9 => (FX12_openOdd_L13 q0 f v9 m7)))))))))
set_option maxRecDepth 20000 in
theorem CX12_openOdd_L13 {G : mG} {l : Launch} {e : mE} {Post : Option Value → mS → Prop} {q0 : Nat} (g0 : ly12 e q0) : ∀ (f : Nat) {y2 : Int32} {m : mB} {q : (mB)}, FX12_openOdd_L13 q0 f y2 m = some q → (mx_Fr G l MX12_openOdd 1 0 0 Post 68 [.ref q0, .float 0, .float 0] [] (e, q)) → mx_Fr G l MX12_openOdd 1 0 0 Post 13 [.ref q0, .float 0, .int y2] [] (e, m) := by
  intro f
  induction f with
  | zero => intro _ _ _ h; cases h
  | succ f ih =>
    intro y2 m q h hex
    rw [FX12_openOdd_L13] at h
    refine mx_iload_n (mx_d tX12_openOdd_0 10 rfl) rfl rfl ?_
    refine mx_iconst (5) (mx_d tX12_openOdd_0 11 rfl) (by decide) ?_
    refine mx_icmp_ge (tgt := 68) (mx_d tX12_openOdd_0 12 rfl) (by decide) (fun hc2 => ?_) (fun hc2 => ?_)
    · rw [if_pos hc2] at h
      obtain rfl := Option.some.inj h
      refine mx_forget (L' := [.ref q0, .float 0, .float 0]) ⟨rfl, trivial⟩ ?_
      exact hex
    · rw [if_neg hc2] at h
      refine mx_aload_n (mx_d tX12_openOdd_0 13 rfl) rfl rfl ?_
      refine mx_getR (mx_d tX12_openOdd_0 14 rfl) fX12_98 rfl rfl (ly12_o g0) (ly12_r14 g0) ?_
      refine mx_sipush (178) (mx_d tX12_openOdd_0 15 rfl) (by decide) ?_
      refine mx_iload_n (mx_d tX12_openOdd_0 16 rfl) rfl rfl ?_
      refine mx_iadd (mx_d tX12_openOdd_0 17 rfl) ?_
      refine mx_aload_n (mx_d tX12_openOdd_0 18 rfl) rfl rfl ?_
      refine mx_getR (mx_d tX12_openOdd_0 19 rfl) fX12_98 rfl rfl (ly12_o g0) (ly12_r14 g0) ?_
      refine mx_sipush (178) (mx_d tX12_openOdd_0 20 rfl) (by decide) ?_
      refine mx_iload_n (mx_d tX12_openOdd_0 21 rfl) rfl rfl ?_
      refine mx_iadd (mx_d tX12_openOdd_0 22 rfl) ?_
      refine mx_iconst (1) (mx_d tX12_openOdd_0 23 rfl) (by decide) ?_
      refine mx_iadd (mx_d tX12_openOdd_0 24 rfl) ?_
      obtain ⟨hi3, h⟩ := mx_chkE h
      refine mx_iaload (mx_d tX12_openOdd_0 25 rfl) (ly12_s14 g0) (mx_inbE hi3) ?_
      obtain ⟨hi5, h⟩ := mx_chkE h
      obtain ⟨m4, e_m4, h⟩ := mx_letE h
      refine mx_iastore (mx_d tX12_openOdd_0 26 rfl) (ly12_s14 g0) (mx_inbE hi5) (mx_eqz (z' := (e, m4)) (by rw [e_m4]) ?_)
      refine mx_aload_n (mx_d tX12_openOdd_0 27 rfl) rfl rfl ?_
      refine mx_getR (mx_d tX12_openOdd_0 28 rfl) fX12_98 rfl rfl (ly12_o g0) (ly12_r14 g0) ?_
      refine mx_sipush (184) (mx_d tX12_openOdd_0 29 rfl) (by decide) ?_
      refine mx_iload_n (mx_d tX12_openOdd_0 30 rfl) rfl rfl ?_
      refine mx_iadd (mx_d tX12_openOdd_0 31 rfl) ?_
      refine mx_aload_n (mx_d tX12_openOdd_0 32 rfl) rfl rfl ?_
      refine mx_getR (mx_d tX12_openOdd_0 33 rfl) fX12_98 rfl rfl (ly12_o g0) (ly12_r14 g0) ?_
      refine mx_sipush (184) (mx_d tX12_openOdd_0 34 rfl) (by decide) ?_
      refine mx_iload_n (mx_d tX12_openOdd_0 35 rfl) rfl rfl ?_
      refine mx_iadd (mx_d tX12_openOdd_0 36 rfl) ?_
      refine mx_iconst (1) (mx_d tX12_openOdd_0 37 rfl) (by decide) ?_
      refine mx_iadd (mx_d tX12_openOdd_0 38 rfl) ?_
      obtain ⟨hi6, h⟩ := mx_chkE h
      refine mx_iaload (mx_d tX12_openOdd_0 39 rfl) (ly12_s14 g0) (mx_inbE hi6) ?_
      obtain ⟨hi8, h⟩ := mx_chkE h
      obtain ⟨m7, e_m7, h⟩ := mx_letE h
      refine mx_iastore (mx_d tX12_openOdd_0 40 rfl) (ly12_s14 g0) (mx_inbE hi8) (mx_eqz (z' := (e, m7)) (by rw [e_m7]) ?_)
      obtain ⟨v9, e_v9, h⟩ := mx_letE h
      refine mx_iinc v9 (L2 := [.ref q0, .float 0, .int v9]) (mx_d tX12_openOdd_0 41 rfl) rfl (by rw [e_v9]; rfl) (by decide) rfl ?_
      refine mx_goto (tgt := 13) (mx_d tX12_openOdd_0 42 rfl) (by decide) ?_
      exact ih h hex
def FX12_openOdd (a : Nat) (x0 : Int32) (m : mB) : Option mB := mx_let (mx_up m.1 (a + 2) 125 ((m.1 (a + 2) 125) - 1), m.2) (fun m1 => Option.bind (FX12_openOdd_L13 a mx_FU x0 m1) (fun q10 => mx_chk (mx_inb (178 + (q10.1 (a + 2) 125)) 432) (mx_let (mx_up q10.1 (a + 2) (Int32.toNatClampNeg (178 + (q10.1 (a + 2) 125))) 0, q10.2) (fun m11 => mx_chk (mx_inb (184 + (m11.1 (a + 2) 125)) 432) (mx_let (mx_up m11.1 (a + 2) (Int32.toNatClampNeg (184 + (m11.1 (a + 2) 125))) 0, m11.2) (fun m13 => (some m13)))))))
set_option maxRecDepth 20000 in
theorem CX12_openOdd {G : mG} {l : Launch} {e : mE} {a : Nat} {x0 : Int32} {m : mB} {r : mB} (h0 : ly12 e a) (h : FX12_openOdd a x0 m = some r) : mx_Call G l MX12_openOdd 1 0 0 [.ref a, .int x0] (e, m) (fun v z => v = none ∧ z = (e, r)) := by
  refine mx_entry (L := [.ref a, .int x0, .float 0]) (by decide +kernel) (Nat.le_of_ble_eq_true rfl) rfl ?_
  unfold FX12_openOdd at h
  refine mx_aload_n (mx_d tX12_openOdd_0 0 rfl) rfl rfl ?_
  refine mx_getR (mx_d tX12_openOdd_0 1 rfl) fX12_98 rfl rfl (ly12_o h0) (ly12_r14 h0) ?_
  refine mx_bipush (125) (mx_d tX12_openOdd_0 2 rfl) (by decide) ?_
  refine mx_dup2 (mx_d tX12_openOdd_0 3 rfl) rfl rfl ?_
  refine mx_ialoadC 125 (mx_d tX12_openOdd_0 4 rfl) (ly12_s14 h0) (by decide) (mx_inbE (by decide)) ?_
  refine mx_iconst (1) (mx_d tX12_openOdd_0 5 rfl) (by decide) ?_
  refine mx_isub (mx_d tX12_openOdd_0 6 rfl) ?_
  obtain ⟨m1, e_m1, h⟩ := mx_letE h
  refine mx_iastoreC 125 (mx_d tX12_openOdd_0 7 rfl) (ly12_s14 h0) (by decide) (mx_inbE (by decide)) (mx_eqz (z' := (e, m1)) (by rw [e_m1]) ?_)
  refine mx_iload_n (mx_d tX12_openOdd_0 8 rfl) rfl rfl ?_
  refine mx_istore_n (L2 := [.ref a, .int x0, .int x0]) (mx_d tX12_openOdd_0 9 rfl) rfl (by decide) (by rfl) ?_
  obtain ⟨q10, h_q10, h⟩ := Option.bind_eq_some_iff.mp h
  refine mx_forget (L' := [.ref a, .float 0, .int x0]) ⟨rfl, rfl, trivial⟩ ?_
  refine CX12_openOdd_L13 h0 mx_FU h_q10 ?_
  refine mx_aload_n (mx_d tX12_openOdd_0 43 rfl) rfl rfl ?_
  refine mx_getR (mx_d tX12_openOdd_0 44 rfl) fX12_98 rfl rfl (ly12_o h0) (ly12_r14 h0) ?_
  refine mx_sipush (178) (mx_d tX12_openOdd_0 45 rfl) (by decide) ?_
  refine mx_aload_n (mx_d tX12_openOdd_0 46 rfl) rfl rfl ?_
  refine mx_getR (mx_d tX12_openOdd_0 47 rfl) fX12_98 rfl rfl (ly12_o h0) (ly12_r14 h0) ?_
  refine mx_bipush (125) (mx_d tX12_openOdd_0 48 rfl) (by decide) ?_
  refine mx_ialoadC 125 (mx_d tX12_openOdd_0 49 rfl) (ly12_s14 h0) (by decide) (mx_inbE (by decide)) ?_
  refine mx_iadd (mx_d tX12_openOdd_0 50 rfl) ?_
  refine mx_iconst (0) (mx_d tX12_openOdd_0 51 rfl) (by decide) ?_
  obtain ⟨hi12, h⟩ := mx_chkE h
  obtain ⟨m11, e_m11, h⟩ := mx_letE h
  refine mx_iastore (mx_d tX12_openOdd_0 52 rfl) (ly12_s14 h0) (mx_inbE hi12) (mx_eqz (z' := (e, m11)) (by rw [e_m11]) ?_)
  refine mx_aload_n (mx_d tX12_openOdd_0 53 rfl) rfl rfl ?_
  refine mx_getR (mx_d tX12_openOdd_0 54 rfl) fX12_98 rfl rfl (ly12_o h0) (ly12_r14 h0) ?_
  refine mx_sipush (184) (mx_d tX12_openOdd_0 55 rfl) (by decide) ?_
  refine mx_aload_n (mx_d tX12_openOdd_0 56 rfl) rfl rfl ?_
  refine mx_getR (mx_d tX12_openOdd_0 57 rfl) fX12_98 rfl rfl (ly12_o h0) (ly12_r14 h0) ?_
  refine mx_bipush (125) (mx_d tX12_openOdd_0 58 rfl) (by decide) ?_
  refine mx_ialoadC 125 (mx_d tX12_openOdd_0 59 rfl) (ly12_s14 h0) (by decide) (mx_inbE (by decide)) ?_
  refine mx_iadd (mx_d tX12_openOdd_1 0 rfl) ?_
  refine mx_iconst (0) (mx_d tX12_openOdd_1 1 rfl) (by decide) ?_
  obtain ⟨hi14, h⟩ := mx_chkE h
  obtain ⟨m13, e_m13, h⟩ := mx_letE h
  refine mx_iastore (mx_d tX12_openOdd_1 2 rfl) (ly12_s14 h0) (mx_inbE hi14) (mx_eqz (z' := (e, m13)) (by rw [e_m13]) ?_)
  obtain rfl := Option.some.inj h
  exact mx_return (mx_d tX12_openOdd_1 3 rfl) rfl ⟨rfl, rfl⟩
def FX12_live (a : Nat) (x0 : Int32) (x1 : Int32) (x2 : Int32) (x3 : Int32) (m : mB) : Option mB := (if x0 = 0 then mx_chk (mx_inb (158 + x1) 432) (mx_let (mx_up m.1 (a + 2) (Int32.toNatClampNeg (158 + x1)) x2, m.2) (fun m2 => mx_chk (mx_inb (158 + x2) 432) (mx_let (mx_up m2.1 (a + 2) (Int32.toNatClampNeg (158 + x2)) x1, m2.2) (fun m4 => (some m4))))) else if x0 = 1 then mx_chk (mx_inb (158 + x1) 432) (mx_chk (mx_inb (158 + (m.1 (a + 2) (Int32.toNatClampNeg (158 + x1)))) 432) (mx_let (mx_up m.1 (a + 2) (Int32.toNatClampNeg (158 + (m.1 (a + 2) (Int32.toNatClampNeg (158 + x1))))) (-1), m.2) (fun m8 => mx_let (mx_up m8.1 (a + 2) (Int32.toNatClampNeg (158 + x1)) (-1), m8.2) (fun m10 => (some m10))))) else if x0 = 2 then Option.bind (FX12_between a x1 x2 m) (fun r12 => mx_chk (mx_inb (128 + r12) 432) (mx_let (mx_up m.1 (a + 2) (Int32.toNatClampNeg (128 + r12)) x3, m.2) (fun m13 => (some m13)))) else if x0 = 3 then mx_chk (mx_inb (168 + x1) 432) (mx_let (mx_up m.1 (a + 2) (Int32.toNatClampNeg (168 + x1)) x3, m.2) (fun m16 => (some m16))) else if x0 = 4 then mx_chk (mx_inb (184 + x1) 432) (mx_let (mx_up m.1 (a + 2) (Int32.toNatClampNeg (184 + x1)) x3, m.2) (fun m19 => (some m19))) else if x0 = 5 then Option.bind (FX12_openOdd a x1 m) (fun r22 => (some r22)) else Option.bind (FX12_layPath a x1 m) (fun r23 => Option.bind (FX12_turnPath a (a + 13) 10 r23.1 r23.2) (fun r24 => (some r24))))
set_option maxRecDepth 20000 in
theorem CX12_live {G : mG} {l : Launch} {e : mE} {a : Nat} {x0 : Int32} {x1 : Int32} {x2 : Int32} {x3 : Int32} {m : mB} {r : mB} (h0 : ly12 e a) (h : FX12_live a x0 x1 x2 x3 m = some r) : mx_Call G l MX12_live 258 0 0 [.ref a, .int x0, .int x1, .int x2, .int x3] (e, m) (fun v z => v = none ∧ z = (e, r)) := by
  refine mx_entry (L := [.ref a, .int x0, .int x1, .int x2, .int x3]) (by decide +kernel) (Nat.le_of_ble_eq_true rfl) rfl ?_
  unfold FX12_live at h
  refine mx_iload_n (mx_d tX12_live_0 0 rfl) rfl rfl ?_
  by_cases hc1 : x0 = 0
  · rw [if_pos hc1] at h
    refine mx_tableIn (tgt := 40) (mx_d tX12_live_0 1 rfl) (by rw [hc1]; decide) (by rw [hc1]; decide) (by rw [hc1]; rfl) (by decide) ?_
    refine mx_aload_n (mx_d tX12_live_0 2 rfl) rfl rfl ?_
    refine mx_getR (mx_d tX12_live_0 3 rfl) fX12_98 rfl rfl (ly12_o h0) (ly12_r14 h0) ?_
    refine mx_sipush (158) (mx_d tX12_live_0 4 rfl) (by decide) ?_
    refine mx_iload_n (mx_d tX12_live_0 5 rfl) rfl rfl ?_
    refine mx_iadd (mx_d tX12_live_0 6 rfl) ?_
    refine mx_iload_n (mx_d tX12_live_0 7 rfl) rfl rfl ?_
    obtain ⟨hi3, h⟩ := mx_chkE h
    obtain ⟨m2, e_m2, h⟩ := mx_letE h
    refine mx_iastore (mx_d tX12_live_0 8 rfl) (ly12_s14 h0) (mx_inbE hi3) (mx_eqz (z' := (e, m2)) (by rw [e_m2]) ?_)
    refine mx_aload_n (mx_d tX12_live_0 9 rfl) rfl rfl ?_
    refine mx_getR (mx_d tX12_live_0 10 rfl) fX12_98 rfl rfl (ly12_o h0) (ly12_r14 h0) ?_
    refine mx_sipush (158) (mx_d tX12_live_0 11 rfl) (by decide) ?_
    refine mx_iload_n (mx_d tX12_live_0 12 rfl) rfl rfl ?_
    refine mx_iadd (mx_d tX12_live_0 13 rfl) ?_
    refine mx_iload_n (mx_d tX12_live_0 14 rfl) rfl rfl ?_
    obtain ⟨hi5, h⟩ := mx_chkE h
    obtain ⟨m4, e_m4, h⟩ := mx_letE h
    refine mx_iastore (mx_d tX12_live_0 15 rfl) (ly12_s14 h0) (mx_inbE hi5) (mx_eqz (z' := (e, m4)) (by rw [e_m4]) ?_)
    obtain rfl := Option.some.inj h
    exact mx_return (mx_d tX12_live_0 16 rfl) rfl ⟨rfl, rfl⟩
  · rw [if_neg hc1] at h
    by_cases hc6 : x0 = 1
    · rw [if_pos hc6] at h
      refine mx_tableIn (tgt := 63) (mx_d tX12_live_0 1 rfl) (by rw [hc6]; decide) (by rw [hc6]; decide) (by rw [hc6]; rfl) (by decide) ?_
      refine mx_aload_n (mx_d tX12_live_0 17 rfl) rfl rfl ?_
      refine mx_getR (mx_d tX12_live_0 18 rfl) fX12_98 rfl rfl (ly12_o h0) (ly12_r14 h0) ?_
      refine mx_sipush (158) (mx_d tX12_live_0 19 rfl) (by decide) ?_
      refine mx_aload_n (mx_d tX12_live_0 20 rfl) rfl rfl ?_
      refine mx_getR (mx_d tX12_live_0 21 rfl) fX12_98 rfl rfl (ly12_o h0) (ly12_r14 h0) ?_
      refine mx_sipush (158) (mx_d tX12_live_0 22 rfl) (by decide) ?_
      refine mx_iload_n (mx_d tX12_live_0 23 rfl) rfl rfl ?_
      refine mx_iadd (mx_d tX12_live_0 24 rfl) ?_
      obtain ⟨hi7, h⟩ := mx_chkE h
      refine mx_iaload (mx_d tX12_live_0 25 rfl) (ly12_s14 h0) (mx_inbE hi7) ?_
      refine mx_iadd (mx_d tX12_live_0 26 rfl) ?_
      refine mx_iconst ((-1)) (mx_d tX12_live_0 27 rfl) (by decide) ?_
      obtain ⟨hi9, h⟩ := mx_chkE h
      obtain ⟨m8, e_m8, h⟩ := mx_letE h
      refine mx_iastore (mx_d tX12_live_0 28 rfl) (ly12_s14 h0) (mx_inbE hi9) (mx_eqz (z' := (e, m8)) (by rw [e_m8]) ?_)
      refine mx_aload_n (mx_d tX12_live_0 29 rfl) rfl rfl ?_
      refine mx_getR (mx_d tX12_live_0 30 rfl) fX12_98 rfl rfl (ly12_o h0) (ly12_r14 h0) ?_
      refine mx_sipush (158) (mx_d tX12_live_0 31 rfl) (by decide) ?_
      refine mx_iload_n (mx_d tX12_live_0 32 rfl) rfl rfl ?_
      refine mx_iadd (mx_d tX12_live_0 33 rfl) ?_
      refine mx_iconst ((-1)) (mx_d tX12_live_0 34 rfl) (by decide) ?_
      obtain ⟨m10, e_m10, h⟩ := mx_letE h
      refine mx_iastore (mx_d tX12_live_0 35 rfl) (ly12_s14 h0) (mx_inbE hi7) (mx_eqz (z' := (e, m10)) (by rw [e_m10]) ?_)
      obtain rfl := Option.some.inj h
      exact mx_return (mx_d tX12_live_0 36 rfl) rfl ⟨rfl, rfl⟩
    · rw [if_neg hc6] at h
      by_cases hc11 : x0 = 2
      · rw [if_pos hc11] at h
        refine mx_tableIn (tgt := 95) (mx_d tX12_live_0 1 rfl) (by rw [hc11]; decide) (by rw [hc11]; decide) (by rw [hc11]; rfl) (by decide) ?_
        refine mx_aload_n (mx_d tX12_live_0 37 rfl) rfl rfl ?_
        refine mx_getR (mx_d tX12_live_0 38 rfl) fX12_98 rfl rfl (ly12_o h0) (ly12_r14 h0) ?_
        refine mx_sipush (128) (mx_d tX12_live_0 39 rfl) (by decide) ?_
        refine mx_aload_n (mx_d tX12_live_0 40 rfl) rfl rfl ?_
        refine mx_iload_n (mx_d tX12_live_0 41 rfl) rfl rfl ?_
        refine mx_iload_n (mx_d tX12_live_0 42 rfl) rfl rfl ?_
        obtain ⟨r12, h_r12, h⟩ := Option.bind_eq_some_iff.mp h
        refine mx_cVi (mx_d tX12_live_0 43 rfl) iX12_250 rfl vX12_between ⟨_, rfl, rfl⟩ (ly12_o h0) (CX12_between h0 h_r12) (by decide) rfl rfl (Nat.le_of_ble_eq_true rfl) ?_
        refine mx_iadd (mx_d tX12_live_0 44 rfl) ?_
        refine mx_iload (mx_d tX12_live_0 45 rfl) rfl ?_
        obtain ⟨hi14, h⟩ := mx_chkE h
        obtain ⟨m13, e_m13, h⟩ := mx_letE h
        refine mx_iastore (mx_d tX12_live_0 46 rfl) (ly12_s14 h0) (mx_inbE hi14) (mx_eqz (z' := (e, m13)) (by rw [e_m13]) ?_)
        obtain rfl := Option.some.inj h
        exact mx_return (mx_d tX12_live_0 47 rfl) rfl ⟨rfl, rfl⟩
      · rw [if_neg hc11] at h
        by_cases hc15 : x0 = 3
        · rw [if_pos hc15] at h
          refine mx_tableIn (tgt := 113) (mx_d tX12_live_0 1 rfl) (by rw [hc15]; decide) (by rw [hc15]; decide) (by rw [hc15]; rfl) (by decide) ?_
          refine mx_aload_n (mx_d tX12_live_0 48 rfl) rfl rfl ?_
          refine mx_getR (mx_d tX12_live_0 49 rfl) fX12_98 rfl rfl (ly12_o h0) (ly12_r14 h0) ?_
          refine mx_sipush (168) (mx_d tX12_live_0 50 rfl) (by decide) ?_
          refine mx_iload_n (mx_d tX12_live_0 51 rfl) rfl rfl ?_
          refine mx_iadd (mx_d tX12_live_0 52 rfl) ?_
          refine mx_iload (mx_d tX12_live_0 53 rfl) rfl ?_
          obtain ⟨hi17, h⟩ := mx_chkE h
          obtain ⟨m16, e_m16, h⟩ := mx_letE h
          refine mx_iastore (mx_d tX12_live_0 54 rfl) (ly12_s14 h0) (mx_inbE hi17) (mx_eqz (z' := (e, m16)) (by rw [e_m16]) ?_)
          obtain rfl := Option.some.inj h
          exact mx_return (mx_d tX12_live_0 55 rfl) rfl ⟨rfl, rfl⟩
        · rw [if_neg hc15] at h
          by_cases hc18 : x0 = 4
          · rw [if_pos hc18] at h
            refine mx_tableIn (tgt := 126) (mx_d tX12_live_0 1 rfl) (by rw [hc18]; decide) (by rw [hc18]; decide) (by rw [hc18]; rfl) (by decide) ?_
            refine mx_aload_n (mx_d tX12_live_0 56 rfl) rfl rfl ?_
            refine mx_getR (mx_d tX12_live_0 57 rfl) fX12_98 rfl rfl (ly12_o h0) (ly12_r14 h0) ?_
            refine mx_sipush (184) (mx_d tX12_live_0 58 rfl) (by decide) ?_
            refine mx_iload_n (mx_d tX12_live_0 59 rfl) rfl rfl ?_
            refine mx_iadd (mx_d tX12_live_1 0 rfl) ?_
            refine mx_iload (mx_d tX12_live_1 1 rfl) rfl ?_
            obtain ⟨hi20, h⟩ := mx_chkE h
            obtain ⟨m19, e_m19, h⟩ := mx_letE h
            refine mx_iastore (mx_d tX12_live_1 2 rfl) (ly12_s14 h0) (mx_inbE hi20) (mx_eqz (z' := (e, m19)) (by rw [e_m19]) ?_)
            obtain rfl := Option.some.inj h
            exact mx_return (mx_d tX12_live_1 3 rfl) rfl ⟨rfl, rfl⟩
          · rw [if_neg hc18] at h
            by_cases hc21 : x0 = 5
            · rw [if_pos hc21] at h
              refine mx_tableIn (tgt := 139) (mx_d tX12_live_0 1 rfl) (by rw [hc21]; decide) (by rw [hc21]; decide) (by rw [hc21]; rfl) (by decide) ?_
              refine mx_aload_n (mx_d tX12_live_1 4 rfl) rfl rfl ?_
              refine mx_iload_n (mx_d tX12_live_1 5 rfl) rfl rfl ?_
              obtain ⟨r22, h_r22, h⟩ := Option.bind_eq_some_iff.mp h
              refine mx_cVv (mx_d tX12_live_1 6 rfl) iX12_322 rfl vX12_openOdd ⟨_, rfl, rfl⟩ (ly12_o h0) (CX12_openOdd h0 h_r22) (by decide) rfl rfl (Nat.le_of_ble_eq_true rfl) ?_
              obtain rfl := Option.some.inj h
              exact mx_return (mx_d tX12_live_1 7 rfl) rfl ⟨rfl, rfl⟩
            · rw [if_neg hc21] at h
              have z_hc1 := lv_neT hc1 (a := 0) (by decide)
              have z_hc6 := lv_neT hc6 (a := 1) (by decide)
              have z_hc11 := lv_neT hc11 (a := 2) (by decide)
              have z_hc15 := lv_neT hc15 (a := 3) (by decide)
              have z_hc18 := lv_neT hc18 (a := 4) (by decide)
              have z_hc21 := lv_neT hc21 (a := 5) (by decide)
              refine mx_tableOut (tgt := 145) (mx_d tX12_live_0 1 rfl) (by omega) (by decide) ?_
              refine mx_aload_n (mx_d tX12_live_1 8 rfl) rfl rfl ?_
              refine mx_aload_n (mx_d tX12_live_1 9 rfl) rfl rfl ?_
              refine mx_getR (mx_d tX12_live_1 10 rfl) fX12_133 rfl rfl (ly12_o h0) (ly12_r26 h0) ?_
              refine mx_aload_n (mx_d tX12_live_1 11 rfl) rfl rfl ?_
              refine mx_iload_n (mx_d tX12_live_1 12 rfl) rfl rfl ?_
              obtain ⟨r23, h_r23, h⟩ := Option.bind_eq_some_iff.mp h
              refine mx_cVi (mx_d tX12_live_1 13 rfl) iX12_312 rfl vX12_layPath ⟨_, rfl, rfl⟩ (ly12_o h0) (CX12_layPath h0 h_r23) (by decide) rfl rfl (Nat.le_of_ble_eq_true rfl) ?_
              obtain ⟨r24, h_r24, h⟩ := Option.bind_eq_some_iff.mp h
              refine mx_cVv (mx_d tX12_live_1 14 rfl) iX12_325 rfl vX12_turnPath ⟨_, rfl, rfl⟩ (ly12_o h0) (CX12_turnPath h0 (ly12_s26 h0) h_r24) (by decide) rfl rfl (Nat.le_of_ble_eq_true rfl) ?_
              obtain rfl := Option.some.inj h
              exact mx_return (mx_d tX12_live_1 15 rfl) rfl ⟨rfl, rfl⟩
def FX12_act (a : Nat) (x0 : Int32) (x1 : Int32) (x2 : Int32) (x3 : Int32) (x4 : Int32) (m : mB) : Option (Int32 × mB) := (if x4 = 0 then (some ((-1), m)) else Option.bind (FX12_refusal a x0 x1 x2 x3 m) (fun r2 => (if r2.1 = 0 then Option.bind (FX12_snap a r2.2) (fun r4 => Option.bind (FX12_live a x0 x1 x2 x3 r4) (fun r5 => (some (0, r5)))) else (some (r2.1, r2.2)))))
set_option maxRecDepth 20000 in
theorem CX12_act {G : mG} {l : Launch} {e : mE} {a : Nat} {x0 : Int32} {x1 : Int32} {x2 : Int32} {x3 : Int32} {x4 : Int32} {m : mB} {r : (Int32 × mB)} (h0 : ly12 e a) (h : FX12_act a x0 x1 x2 x3 x4 m = some r) : mx_Call G l MX12_act 259 0 0 [.ref a, .int x0, .int x1, .int x2, .int x3, .int x4] (e, m) (fun v z => v = some (.int r.1) ∧ z = (e, r.2)) := by
  refine mx_entry (L := [.ref a, .int x0, .int x1, .int x2, .int x3, .int x4, .float 0]) (by decide +kernel) (Nat.le_of_ble_eq_true rfl) rfl ?_
  unfold FX12_act at h
  refine mx_iload (mx_d tX12_act_0 0 rfl) rfl ?_
  refine mx_if_ne (tgt := 7) (mx_d tX12_act_0 1 rfl) (by decide) (fun hc1 => ?_) (fun hc1 => ?_)
  · rw [if_neg hc1] at h
    refine mx_aload_n (mx_d tX12_act_0 4 rfl) rfl rfl ?_
    refine mx_iload_n (mx_d tX12_act_0 5 rfl) rfl rfl ?_
    refine mx_iload_n (mx_d tX12_act_0 6 rfl) rfl rfl ?_
    refine mx_iload_n (mx_d tX12_act_0 7 rfl) rfl rfl ?_
    refine mx_iload (mx_d tX12_act_0 8 rfl) rfl ?_
    obtain ⟨r2, h_r2, h⟩ := Option.bind_eq_some_iff.mp h
    refine mx_cVi (mx_d tX12_act_0 9 rfl) iX12_328 rfl vX12_refusal ⟨_, rfl, rfl⟩ (ly12_o h0) (CX12_refusal h0 h_r2) (by decide) rfl rfl (Nat.le_of_ble_eq_true rfl) ?_
    refine mx_istore (L2 := [.ref a, .int x0, .int x1, .int x2, .int x3, .int x4, .int r2.1]) (mx_d tX12_act_0 10 rfl) (by decide) (by rfl) ?_
    refine mx_iload (mx_d tX12_act_0 11 rfl) rfl ?_
    refine mx_if_eq (tgt := 26) (mx_d tX12_act_0 12 rfl) (by decide) (fun hc3 => ?_) (fun hc3 => ?_)
    · rw [if_pos hc3] at h
      refine mx_aload_n (mx_d tX12_act_0 15 rfl) rfl rfl ?_
      obtain ⟨r4, h_r4, h⟩ := Option.bind_eq_some_iff.mp h
      refine mx_cVv (mx_d tX12_act_0 16 rfl) iX12_332 rfl vX12_snap ⟨_, rfl, rfl⟩ (ly12_o h0) (CX12_snap h0 h_r4) (by decide) rfl rfl (Nat.le_of_ble_eq_true rfl) ?_
      refine mx_aload_n (mx_d tX12_act_0 17 rfl) rfl rfl ?_
      refine mx_iload_n (mx_d tX12_act_0 18 rfl) rfl rfl ?_
      refine mx_iload_n (mx_d tX12_act_0 19 rfl) rfl rfl ?_
      refine mx_iload_n (mx_d tX12_act_0 20 rfl) rfl rfl ?_
      refine mx_iload (mx_d tX12_act_0 21 rfl) rfl ?_
      obtain ⟨r5, h_r5, h⟩ := Option.bind_eq_some_iff.mp h
      refine mx_cVv (mx_d tX12_act_0 22 rfl) iX12_335 rfl vX12_live ⟨_, rfl, rfl⟩ (ly12_o h0) (CX12_live h0 h_r5) (by decide) rfl rfl (Nat.le_of_ble_eq_true rfl) ?_
      refine mx_iconst (0) (mx_d tX12_act_0 23 rfl) (by decide) ?_
      obtain rfl := Option.some.inj h
      exact mx_ireturn (mx_d tX12_act_0 24 rfl) rfl ⟨rfl, rfl⟩
    · rw [if_neg hc3] at h
      refine mx_iload (mx_d tX12_act_0 13 rfl) rfl ?_
      obtain rfl := Option.some.inj h
      exact mx_ireturn (mx_d tX12_act_0 14 rfl) rfl ⟨rfl, rfl⟩
  · rw [if_pos hc1] at h
    refine mx_iconst ((-1)) (mx_d tX12_act_0 2 rfl) (by decide) ?_
    obtain rfl := Option.some.inj h
    exact mx_ireturn (mx_d tX12_act_0 3 rfl) rfl ⟨rfl, rfl⟩
def FX12_pair (a : Nat) (x0 : Int32) (x1 : Int32) (m : mB) : Option (Int32 × mB) := mx_let (mx_up m.1 a 0 0, m.2) (fun m1 => Option.bind (FX12_areTwo a x0 x1 m1) (fun r2 => Option.bind (FX12_act a 0 x0 x1 0 r2 m1) (fun r3 => (some (r3.1, r3.2)))))
set_option maxRecDepth 20000 in
theorem CX12_pair {G : mG} {l : Launch} {e : mE} {a : Nat} {x0 : Int32} {x1 : Int32} {m : mB} {r : (Int32 × mB)} (h0 : ly12 e a) (h : FX12_pair a x0 x1 m = some r) : mx_Call G l MX12_pair 260 0 0 [.ref a, .int x0, .int x1] (e, m) (fun v z => v = some (.int r.1) ∧ z = (e, r.2)) := by
  refine mx_entry (L := [.ref a, .int x0, .int x1]) (by decide +kernel) (Nat.le_of_ble_eq_true rfl) rfl ?_
  unfold FX12_pair at h
  refine mx_aload_n (mx_d tX12_pair_0 0 rfl) rfl rfl ?_
  refine mx_iconst (0) (mx_d tX12_pair_0 1 rfl) (by decide) ?_
  obtain ⟨m1, e_m1, h⟩ := mx_letE h
  refine mx_putI (mx_d tX12_pair_0 2 rfl) fX12_1 rfl ⟨_, rfl, rfl⟩ rfl (ly12_o h0) (mx_eqz (z' := (e, m1)) (by rw [e_m1]) ?_)
  refine mx_aload_n (mx_d tX12_pair_0 3 rfl) rfl rfl ?_
  refine mx_iconst (0) (mx_d tX12_pair_0 4 rfl) (by decide) ?_
  refine mx_iload_n (mx_d tX12_pair_0 5 rfl) rfl rfl ?_
  refine mx_iload_n (mx_d tX12_pair_0 6 rfl) rfl rfl ?_
  refine mx_iconst (0) (mx_d tX12_pair_0 7 rfl) (by decide) ?_
  refine mx_aload_n (mx_d tX12_pair_0 8 rfl) rfl rfl ?_
  refine mx_iload_n (mx_d tX12_pair_0 9 rfl) rfl rfl ?_
  refine mx_iload_n (mx_d tX12_pair_0 10 rfl) rfl rfl ?_
  obtain ⟨r2, h_r2, h⟩ := Option.bind_eq_some_iff.mp h
  refine mx_cVi (mx_d tX12_pair_0 11 rfl) iX12_339 rfl vX12_areTwo ⟨_, rfl, rfl⟩ (ly12_o h0) (CX12_areTwo h0 h_r2) (by decide) rfl rfl (Nat.le_of_ble_eq_true rfl) ?_
  obtain ⟨r3, h_r3, h⟩ := Option.bind_eq_some_iff.mp h
  refine mx_cVi (mx_d tX12_pair_0 12 rfl) iX12_342 rfl vX12_act ⟨_, rfl, rfl⟩ (ly12_o h0) (CX12_act h0 h_r3) (by decide) rfl rfl (Nat.le_of_ble_eq_true rfl) ?_
  obtain rfl := Option.some.inj h
  exact mx_ireturn (mx_d tX12_pair_0 13 rfl) rfl ⟨rfl, rfl⟩
def FX12_part (a : Nat) (x0 : Int32) (m : mB) : Option (Int32 × mB) := mx_let (mx_up m.1 a 0 0, m.2) (fun m1 => Option.bind (FX12_isPoint a x0 m1) (fun r2 => Option.bind (FX12_act a 1 x0 0 0 r2 m1) (fun r3 => (some (r3.1, r3.2)))))
set_option maxRecDepth 20000 in
theorem CX12_part {G : mG} {l : Launch} {e : mE} {a : Nat} {x0 : Int32} {m : mB} {r : (Int32 × mB)} (h0 : ly12 e a) (h : FX12_part a x0 m = some r) : mx_Call G l MX12_part 260 0 0 [.ref a, .int x0] (e, m) (fun v z => v = some (.int r.1) ∧ z = (e, r.2)) := by
  refine mx_entry (L := [.ref a, .int x0]) (by decide +kernel) (Nat.le_of_ble_eq_true rfl) rfl ?_
  unfold FX12_part at h
  refine mx_aload_n (mx_d tX12_part_0 0 rfl) rfl rfl ?_
  refine mx_iconst (0) (mx_d tX12_part_0 1 rfl) (by decide) ?_
  obtain ⟨m1, e_m1, h⟩ := mx_letE h
  refine mx_putI (mx_d tX12_part_0 2 rfl) fX12_1 rfl ⟨_, rfl, rfl⟩ rfl (ly12_o h0) (mx_eqz (z' := (e, m1)) (by rw [e_m1]) ?_)
  refine mx_aload_n (mx_d tX12_part_0 3 rfl) rfl rfl ?_
  refine mx_iconst (1) (mx_d tX12_part_0 4 rfl) (by decide) ?_
  refine mx_iload_n (mx_d tX12_part_0 5 rfl) rfl rfl ?_
  refine mx_iconst (0) (mx_d tX12_part_0 6 rfl) (by decide) ?_
  refine mx_iconst (0) (mx_d tX12_part_0 7 rfl) (by decide) ?_
  refine mx_aload_n (mx_d tX12_part_0 8 rfl) rfl rfl ?_
  refine mx_iload_n (mx_d tX12_part_0 9 rfl) rfl rfl ?_
  obtain ⟨r2, h_r2, h⟩ := Option.bind_eq_some_iff.mp h
  refine mx_cVi (mx_d tX12_part_0 10 rfl) iX12_247 rfl vX12_isPoint ⟨_, rfl, rfl⟩ (ly12_o h0) (CX12_isPoint h0 h_r2) (by decide) rfl rfl (Nat.le_of_ble_eq_true rfl) ?_
  obtain ⟨r3, h_r3, h⟩ := Option.bind_eq_some_iff.mp h
  refine mx_cVi (mx_d tX12_part_0 11 rfl) iX12_342 rfl vX12_act ⟨_, rfl, rfl⟩ (ly12_o h0) (CX12_act h0 h_r3) (by decide) rfl rfl (Nat.le_of_ble_eq_true rfl) ?_
  obtain rfl := Option.some.inj h
  exact mx_ireturn (mx_d tX12_part_0 12 rfl) rfl ⟨rfl, rfl⟩
def FX12_weigh (a : Nat) (x0 : Int32) (x1 : Int32) (x2 : Int32) (m : mB) : Option (Int32 × mB) := mx_let (mx_up m.1 a 0 0, m.2) (fun m1 => Option.bind (FX12_areTwo a x0 x1 m1) (fun r2 => (if r2 = 0 then Option.bind (FX12_act a 2 x0 x1 x2 0 m1) (fun r4 => (some (r4.1, r4.2))) else Option.bind (FX12_isIn x2 1 99 m1) (fun r5 => (if r5 = 0 then Option.bind (FX12_act a 2 x0 x1 x2 0 m1) (fun r7 => (some (r7.1, r7.2))) else Option.bind (FX12_act a 2 x0 x1 x2 1 m1) (fun r8 => (some (r8.1, r8.2))))))))
set_option maxRecDepth 20000 in
theorem CX12_weigh {G : mG} {l : Launch} {e : mE} {a : Nat} {x0 : Int32} {x1 : Int32} {x2 : Int32} {m : mB} {r : (Int32 × mB)} (h0 : ly12 e a) (h : FX12_weigh a x0 x1 x2 m = some r) : mx_Call G l MX12_weigh 260 0 0 [.ref a, .int x0, .int x1, .int x2] (e, m) (fun v z => v = some (.int r.1) ∧ z = (e, r.2)) := by
  refine mx_entry (L := [.ref a, .int x0, .int x1, .int x2]) (by decide +kernel) (Nat.le_of_ble_eq_true rfl) rfl ?_
  unfold FX12_weigh at h
  refine mx_aload_n (mx_d tX12_weigh_0 0 rfl) rfl rfl ?_
  refine mx_iconst (0) (mx_d tX12_weigh_0 1 rfl) (by decide) ?_
  obtain ⟨m1, e_m1, h⟩ := mx_letE h
  refine mx_putI (mx_d tX12_weigh_0 2 rfl) fX12_1 rfl ⟨_, rfl, rfl⟩ rfl (ly12_o h0) (mx_eqz (z' := (e, m1)) (by rw [e_m1]) ?_)
  refine mx_aload_n (mx_d tX12_weigh_0 3 rfl) rfl rfl ?_
  refine mx_iconst (2) (mx_d tX12_weigh_0 4 rfl) (by decide) ?_
  refine mx_iload_n (mx_d tX12_weigh_0 5 rfl) rfl rfl ?_
  refine mx_iload_n (mx_d tX12_weigh_0 6 rfl) rfl rfl ?_
  refine mx_iload_n (mx_d tX12_weigh_0 7 rfl) rfl rfl ?_
  refine mx_aload_n (mx_d tX12_weigh_0 8 rfl) rfl rfl ?_
  refine mx_iload_n (mx_d tX12_weigh_0 9 rfl) rfl rfl ?_
  refine mx_iload_n (mx_d tX12_weigh_0 10 rfl) rfl rfl ?_
  obtain ⟨r2, h_r2, h⟩ := Option.bind_eq_some_iff.mp h
  refine mx_cVi (mx_d tX12_weigh_0 11 rfl) iX12_339 rfl vX12_areTwo ⟨_, rfl, rfl⟩ (ly12_o h0) (CX12_areTwo h0 h_r2) (by decide) rfl rfl (Nat.le_of_ble_eq_true rfl) ?_
  refine mx_if_eq (tgt := 33) (mx_d tX12_weigh_0 12 rfl) (by decide) (fun hc3 => ?_) (fun hc3 => ?_)
  · rw [if_pos hc3] at h
    refine mx_iconst (0) (mx_d tX12_weigh_0 20 rfl) (by decide) ?_
    obtain ⟨r4, h_r4, h⟩ := Option.bind_eq_some_iff.mp h
    refine mx_cVi (mx_d tX12_weigh_0 21 rfl) iX12_342 rfl vX12_act ⟨_, rfl, rfl⟩ (ly12_o h0) (CX12_act h0 h_r4) (by decide) rfl rfl (Nat.le_of_ble_eq_true rfl) ?_
    obtain rfl := Option.some.inj h
    exact mx_ireturn (mx_d tX12_weigh_0 22 rfl) rfl ⟨rfl, rfl⟩
  · rw [if_neg hc3] at h
    refine mx_iload_n (mx_d tX12_weigh_0 13 rfl) rfl rfl ?_
    refine mx_iconst (1) (mx_d tX12_weigh_0 14 rfl) (by decide) ?_
    refine mx_bipush (99) (mx_d tX12_weigh_0 15 rfl) (by decide) ?_
    obtain ⟨r5, h_r5, h⟩ := Option.bind_eq_some_iff.mp h
    refine mx_cSi (mx_d tX12_weigh_0 16 rfl) iX12_75 rfl sX12_isIn (CX12_isIn  h_r5) (by decide) rfl rfl (Nat.le_of_ble_eq_true rfl) ?_
    refine mx_if_eq (tgt := 33) (mx_d tX12_weigh_0 17 rfl) (by decide) (fun hc6 => ?_) (fun hc6 => ?_)
    · rw [if_pos hc6] at h
      refine mx_iconst (0) (mx_d tX12_weigh_0 20 rfl) (by decide) ?_
      obtain ⟨r7, h_r7, h⟩ := Option.bind_eq_some_iff.mp h
      refine mx_cVi (mx_d tX12_weigh_0 21 rfl) iX12_342 rfl vX12_act ⟨_, rfl, rfl⟩ (ly12_o h0) (CX12_act h0 h_r7) (by decide) rfl rfl (Nat.le_of_ble_eq_true rfl) ?_
      obtain rfl := Option.some.inj h
      exact mx_ireturn (mx_d tX12_weigh_0 22 rfl) rfl ⟨rfl, rfl⟩
    · rw [if_neg hc6] at h
      refine mx_iconst (1) (mx_d tX12_weigh_0 18 rfl) (by decide) ?_
      refine mx_goto (tgt := 34) (mx_d tX12_weigh_0 19 rfl) (by decide) ?_
      obtain ⟨r8, h_r8, h⟩ := Option.bind_eq_some_iff.mp h
      refine mx_cVi (mx_d tX12_weigh_0 21 rfl) iX12_342 rfl vX12_act ⟨_, rfl, rfl⟩ (ly12_o h0) (CX12_act h0 h_r8) (by decide) rfl rfl (Nat.le_of_ble_eq_true rfl) ?_
      obtain rfl := Option.some.inj h
      exact mx_ireturn (mx_d tX12_weigh_0 22 rfl) rfl ⟨rfl, rfl⟩
def FX12_price (a : Nat) (x0 : Int32) (x1 : Int32) (m : mB) : Option (Int32 × mB) := mx_let (mx_up m.1 a 0 0, m.2) (fun m1 => Option.bind (FX12_isPoint a x0 m1) (fun r2 => (if r2 = 0 then Option.bind (FX12_act a 3 x0 0 x1 0 m1) (fun r4 => (some (r4.1, r4.2))) else Option.bind (FX12_isIn x1 0 400 m1) (fun r5 => (if r5 = 0 then Option.bind (FX12_act a 3 x0 0 x1 0 m1) (fun r7 => (some (r7.1, r7.2))) else Option.bind (FX12_act a 3 x0 0 x1 1 m1) (fun r8 => (some (r8.1, r8.2))))))))
set_option maxRecDepth 20000 in
theorem CX12_price {G : mG} {l : Launch} {e : mE} {a : Nat} {x0 : Int32} {x1 : Int32} {m : mB} {r : (Int32 × mB)} (h0 : ly12 e a) (h : FX12_price a x0 x1 m = some r) : mx_Call G l MX12_price 260 0 0 [.ref a, .int x0, .int x1] (e, m) (fun v z => v = some (.int r.1) ∧ z = (e, r.2)) := by
  refine mx_entry (L := [.ref a, .int x0, .int x1]) (by decide +kernel) (Nat.le_of_ble_eq_true rfl) rfl ?_
  unfold FX12_price at h
  refine mx_aload_n (mx_d tX12_price_0 0 rfl) rfl rfl ?_
  refine mx_iconst (0) (mx_d tX12_price_0 1 rfl) (by decide) ?_
  obtain ⟨m1, e_m1, h⟩ := mx_letE h
  refine mx_putI (mx_d tX12_price_0 2 rfl) fX12_1 rfl ⟨_, rfl, rfl⟩ rfl (ly12_o h0) (mx_eqz (z' := (e, m1)) (by rw [e_m1]) ?_)
  refine mx_aload_n (mx_d tX12_price_0 3 rfl) rfl rfl ?_
  refine mx_iconst (3) (mx_d tX12_price_0 4 rfl) (by decide) ?_
  refine mx_iload_n (mx_d tX12_price_0 5 rfl) rfl rfl ?_
  refine mx_iconst (0) (mx_d tX12_price_0 6 rfl) (by decide) ?_
  refine mx_iload_n (mx_d tX12_price_0 7 rfl) rfl rfl ?_
  refine mx_aload_n (mx_d tX12_price_0 8 rfl) rfl rfl ?_
  refine mx_iload_n (mx_d tX12_price_0 9 rfl) rfl rfl ?_
  obtain ⟨r2, h_r2, h⟩ := Option.bind_eq_some_iff.mp h
  refine mx_cVi (mx_d tX12_price_0 10 rfl) iX12_247 rfl vX12_isPoint ⟨_, rfl, rfl⟩ (ly12_o h0) (CX12_isPoint h0 h_r2) (by decide) rfl rfl (Nat.le_of_ble_eq_true rfl) ?_
  refine mx_if_eq (tgt := 33) (mx_d tX12_price_0 11 rfl) (by decide) (fun hc3 => ?_) (fun hc3 => ?_)
  · rw [if_pos hc3] at h
    refine mx_iconst (0) (mx_d tX12_price_0 19 rfl) (by decide) ?_
    obtain ⟨r4, h_r4, h⟩ := Option.bind_eq_some_iff.mp h
    refine mx_cVi (mx_d tX12_price_0 20 rfl) iX12_342 rfl vX12_act ⟨_, rfl, rfl⟩ (ly12_o h0) (CX12_act h0 h_r4) (by decide) rfl rfl (Nat.le_of_ble_eq_true rfl) ?_
    obtain rfl := Option.some.inj h
    exact mx_ireturn (mx_d tX12_price_0 21 rfl) rfl ⟨rfl, rfl⟩
  · rw [if_neg hc3] at h
    refine mx_iload_n (mx_d tX12_price_0 12 rfl) rfl rfl ?_
    refine mx_iconst (0) (mx_d tX12_price_0 13 rfl) (by decide) ?_
    refine mx_sipush (400) (mx_d tX12_price_0 14 rfl) (by decide) ?_
    obtain ⟨r5, h_r5, h⟩ := Option.bind_eq_some_iff.mp h
    refine mx_cSi (mx_d tX12_price_0 15 rfl) iX12_75 rfl sX12_isIn (CX12_isIn  h_r5) (by decide) rfl rfl (Nat.le_of_ble_eq_true rfl) ?_
    refine mx_if_eq (tgt := 33) (mx_d tX12_price_0 16 rfl) (by decide) (fun hc6 => ?_) (fun hc6 => ?_)
    · rw [if_pos hc6] at h
      refine mx_iconst (0) (mx_d tX12_price_0 19 rfl) (by decide) ?_
      obtain ⟨r7, h_r7, h⟩ := Option.bind_eq_some_iff.mp h
      refine mx_cVi (mx_d tX12_price_0 20 rfl) iX12_342 rfl vX12_act ⟨_, rfl, rfl⟩ (ly12_o h0) (CX12_act h0 h_r7) (by decide) rfl rfl (Nat.le_of_ble_eq_true rfl) ?_
      obtain rfl := Option.some.inj h
      exact mx_ireturn (mx_d tX12_price_0 21 rfl) rfl ⟨rfl, rfl⟩
    · rw [if_neg hc6] at h
      refine mx_iconst (1) (mx_d tX12_price_0 17 rfl) (by decide) ?_
      refine mx_goto (tgt := 34) (mx_d tX12_price_0 18 rfl) (by decide) ?_
      obtain ⟨r8, h_r8, h⟩ := Option.bind_eq_some_iff.mp h
      refine mx_cVi (mx_d tX12_price_0 20 rfl) iX12_342 rfl vX12_act ⟨_, rfl, rfl⟩ (ly12_o h0) (CX12_act h0 h_r8) (by decide) rfl rfl (Nat.le_of_ble_eq_true rfl) ?_
      obtain rfl := Option.some.inj h
      exact mx_ireturn (mx_d tX12_price_0 21 rfl) rfl ⟨rfl, rfl⟩
def FX12_crown (a : Nat) (x0 : Int32) (x1 : Int32) (m : mB) : Option (Int32 × mB) := mx_let (mx_up m.1 a 0 0, m.2) (fun m1 => Option.bind (FX12_isOdd a x0 m1) (fun r2 => (if r2 = 0 then Option.bind (FX12_act a 4 x0 0 x1 0 m1) (fun r4 => (some (r4.1, r4.2))) else Option.bind (FX12_isIn x1 0 400 m1) (fun r5 => (if r5 = 0 then Option.bind (FX12_act a 4 x0 0 x1 0 m1) (fun r7 => (some (r7.1, r7.2))) else Option.bind (FX12_act a 4 x0 0 x1 1 m1) (fun r8 => (some (r8.1, r8.2))))))))
set_option maxRecDepth 20000 in
theorem CX12_crown {G : mG} {l : Launch} {e : mE} {a : Nat} {x0 : Int32} {x1 : Int32} {m : mB} {r : (Int32 × mB)} (h0 : ly12 e a) (h : FX12_crown a x0 x1 m = some r) : mx_Call G l MX12_crown 260 0 0 [.ref a, .int x0, .int x1] (e, m) (fun v z => v = some (.int r.1) ∧ z = (e, r.2)) := by
  refine mx_entry (L := [.ref a, .int x0, .int x1]) (by decide +kernel) (Nat.le_of_ble_eq_true rfl) rfl ?_
  unfold FX12_crown at h
  refine mx_aload_n (mx_d tX12_crown_0 0 rfl) rfl rfl ?_
  refine mx_iconst (0) (mx_d tX12_crown_0 1 rfl) (by decide) ?_
  obtain ⟨m1, e_m1, h⟩ := mx_letE h
  refine mx_putI (mx_d tX12_crown_0 2 rfl) fX12_1 rfl ⟨_, rfl, rfl⟩ rfl (ly12_o h0) (mx_eqz (z' := (e, m1)) (by rw [e_m1]) ?_)
  refine mx_aload_n (mx_d tX12_crown_0 3 rfl) rfl rfl ?_
  refine mx_iconst (4) (mx_d tX12_crown_0 4 rfl) (by decide) ?_
  refine mx_iload_n (mx_d tX12_crown_0 5 rfl) rfl rfl ?_
  refine mx_iconst (0) (mx_d tX12_crown_0 6 rfl) (by decide) ?_
  refine mx_iload_n (mx_d tX12_crown_0 7 rfl) rfl rfl ?_
  refine mx_aload_n (mx_d tX12_crown_0 8 rfl) rfl rfl ?_
  refine mx_iload_n (mx_d tX12_crown_0 9 rfl) rfl rfl ?_
  obtain ⟨r2, h_r2, h⟩ := Option.bind_eq_some_iff.mp h
  refine mx_cVi (mx_d tX12_crown_0 10 rfl) iX12_285 rfl vX12_isOdd ⟨_, rfl, rfl⟩ (ly12_o h0) (CX12_isOdd h0 h_r2) (by decide) rfl rfl (Nat.le_of_ble_eq_true rfl) ?_
  refine mx_if_eq (tgt := 33) (mx_d tX12_crown_0 11 rfl) (by decide) (fun hc3 => ?_) (fun hc3 => ?_)
  · rw [if_pos hc3] at h
    refine mx_iconst (0) (mx_d tX12_crown_0 19 rfl) (by decide) ?_
    obtain ⟨r4, h_r4, h⟩ := Option.bind_eq_some_iff.mp h
    refine mx_cVi (mx_d tX12_crown_0 20 rfl) iX12_342 rfl vX12_act ⟨_, rfl, rfl⟩ (ly12_o h0) (CX12_act h0 h_r4) (by decide) rfl rfl (Nat.le_of_ble_eq_true rfl) ?_
    obtain rfl := Option.some.inj h
    exact mx_ireturn (mx_d tX12_crown_0 21 rfl) rfl ⟨rfl, rfl⟩
  · rw [if_neg hc3] at h
    refine mx_iload_n (mx_d tX12_crown_0 12 rfl) rfl rfl ?_
    refine mx_iconst (0) (mx_d tX12_crown_0 13 rfl) (by decide) ?_
    refine mx_sipush (400) (mx_d tX12_crown_0 14 rfl) (by decide) ?_
    obtain ⟨r5, h_r5, h⟩ := Option.bind_eq_some_iff.mp h
    refine mx_cSi (mx_d tX12_crown_0 15 rfl) iX12_75 rfl sX12_isIn (CX12_isIn  h_r5) (by decide) rfl rfl (Nat.le_of_ble_eq_true rfl) ?_
    refine mx_if_eq (tgt := 33) (mx_d tX12_crown_0 16 rfl) (by decide) (fun hc6 => ?_) (fun hc6 => ?_)
    · rw [if_pos hc6] at h
      refine mx_iconst (0) (mx_d tX12_crown_0 19 rfl) (by decide) ?_
      obtain ⟨r7, h_r7, h⟩ := Option.bind_eq_some_iff.mp h
      refine mx_cVi (mx_d tX12_crown_0 20 rfl) iX12_342 rfl vX12_act ⟨_, rfl, rfl⟩ (ly12_o h0) (CX12_act h0 h_r7) (by decide) rfl rfl (Nat.le_of_ble_eq_true rfl) ?_
      obtain rfl := Option.some.inj h
      exact mx_ireturn (mx_d tX12_crown_0 21 rfl) rfl ⟨rfl, rfl⟩
    · rw [if_neg hc6] at h
      refine mx_iconst (1) (mx_d tX12_crown_0 17 rfl) (by decide) ?_
      refine mx_goto (tgt := 34) (mx_d tX12_crown_0 18 rfl) (by decide) ?_
      obtain ⟨r8, h_r8, h⟩ := Option.bind_eq_some_iff.mp h
      refine mx_cVi (mx_d tX12_crown_0 20 rfl) iX12_342 rfl vX12_act ⟨_, rfl, rfl⟩ (ly12_o h0) (CX12_act h0 h_r8) (by decide) rfl rfl (Nat.le_of_ble_eq_true rfl) ?_
      obtain rfl := Option.some.inj h
      exact mx_ireturn (mx_d tX12_crown_0 21 rfl) rfl ⟨rfl, rfl⟩
def FX12_open (a : Nat) (x0 : Int32) (m : mB) : Option (Int32 × mB) := mx_let (mx_up m.1 a 0 0, m.2) (fun m1 => Option.bind (FX12_isOdd a x0 m1) (fun r2 => Option.bind (FX12_act a 5 x0 0 0 r2 m1) (fun r3 => (some (r3.1, r3.2)))))
set_option maxRecDepth 20000 in
theorem CX12_open {G : mG} {l : Launch} {e : mE} {a : Nat} {x0 : Int32} {m : mB} {r : (Int32 × mB)} (h0 : ly12 e a) (h : FX12_open a x0 m = some r) : mx_Call G l MX12_open 260 0 0 [.ref a, .int x0] (e, m) (fun v z => v = some (.int r.1) ∧ z = (e, r.2)) := by
  refine mx_entry (L := [.ref a, .int x0]) (by decide +kernel) (Nat.le_of_ble_eq_true rfl) rfl ?_
  unfold FX12_open at h
  refine mx_aload_n (mx_d tX12_open_0 0 rfl) rfl rfl ?_
  refine mx_iconst (0) (mx_d tX12_open_0 1 rfl) (by decide) ?_
  obtain ⟨m1, e_m1, h⟩ := mx_letE h
  refine mx_putI (mx_d tX12_open_0 2 rfl) fX12_1 rfl ⟨_, rfl, rfl⟩ rfl (ly12_o h0) (mx_eqz (z' := (e, m1)) (by rw [e_m1]) ?_)
  refine mx_aload_n (mx_d tX12_open_0 3 rfl) rfl rfl ?_
  refine mx_iconst (5) (mx_d tX12_open_0 4 rfl) (by decide) ?_
  refine mx_iload_n (mx_d tX12_open_0 5 rfl) rfl rfl ?_
  refine mx_iconst (0) (mx_d tX12_open_0 6 rfl) (by decide) ?_
  refine mx_iconst (0) (mx_d tX12_open_0 7 rfl) (by decide) ?_
  refine mx_aload_n (mx_d tX12_open_0 8 rfl) rfl rfl ?_
  refine mx_iload_n (mx_d tX12_open_0 9 rfl) rfl rfl ?_
  obtain ⟨r2, h_r2, h⟩ := Option.bind_eq_some_iff.mp h
  refine mx_cVi (mx_d tX12_open_0 10 rfl) iX12_285 rfl vX12_isOdd ⟨_, rfl, rfl⟩ (ly12_o h0) (CX12_isOdd h0 h_r2) (by decide) rfl rfl (Nat.le_of_ble_eq_true rfl) ?_
  obtain ⟨r3, h_r3, h⟩ := Option.bind_eq_some_iff.mp h
  refine mx_cVi (mx_d tX12_open_0 11 rfl) iX12_342 rfl vX12_act ⟨_, rfl, rfl⟩ (ly12_o h0) (CX12_act h0 h_r3) (by decide) rfl rfl (Nat.le_of_ble_eq_true rfl) ?_
  obtain rfl := Option.some.inj h
  exact mx_ireturn (mx_d tX12_open_0 12 rfl) rfl ⟨rfl, rfl⟩
def FX12_turn (a : Nat) (m : mB) : Option (Int32 × mB) := mx_let (mx_up m.1 a 0 0, m.2) (fun m1 => Option.bind (FX12_isPath a (a + 14) 10 (m1.1 a 29) m1) (fun r2 => (if r2 = 0 then (some (1, m1)) else Option.bind (FX12_snap a m1) (fun r4 => Option.bind (FX12_turnPath a (a + 14) 10 (r4.1 a 29) r4) (fun r5 => (some (0, r5)))))))
set_option maxRecDepth 20000 in
theorem CX12_turn {G : mG} {l : Launch} {e : mE} {a : Nat} {m : mB} {r : (Int32 × mB)} (h0 : ly12 e a) (h : FX12_turn a m = some r) : mx_Call G l MX12_turn 5 0 0 [.ref a] (e, m) (fun v z => v = some (.int r.1) ∧ z = (e, r.2)) := by
  refine mx_entry (L := [.ref a]) (by decide +kernel) (Nat.le_of_ble_eq_true rfl) rfl ?_
  unfold FX12_turn at h
  refine mx_aload_n (mx_d tX12_turn_0 0 rfl) rfl rfl ?_
  refine mx_iconst (0) (mx_d tX12_turn_0 1 rfl) (by decide) ?_
  obtain ⟨m1, e_m1, h⟩ := mx_letE h
  refine mx_putI (mx_d tX12_turn_0 2 rfl) fX12_1 rfl ⟨_, rfl, rfl⟩ rfl (ly12_o h0) (mx_eqz (z' := (e, m1)) (by rw [e_m1]) ?_)
  refine mx_aload_n (mx_d tX12_turn_0 3 rfl) rfl rfl ?_
  refine mx_aload_n (mx_d tX12_turn_0 4 rfl) rfl rfl ?_
  refine mx_getR (mx_d tX12_turn_0 5 rfl) fX12_136 rfl rfl (ly12_o h0) (ly12_r27 h0) ?_
  refine mx_aload_n (mx_d tX12_turn_0 6 rfl) rfl rfl ?_
  refine mx_getI (mx_d tX12_turn_0 7 rfl) fX12_315 rfl (Or.inl rfl) (ly12_o h0) ?_
  obtain ⟨r2, h_r2, h⟩ := Option.bind_eq_some_iff.mp h
  refine mx_cVi (mx_d tX12_turn_0 8 rfl) iX12_346 rfl vX12_isPath ⟨_, rfl, rfl⟩ (ly12_o h0) (CX12_isPath h0 (ly12_s27 h0) h_r2) (by decide) rfl rfl (Nat.le_of_ble_eq_true rfl) ?_
  refine mx_if_ne (tgt := 22) (mx_d tX12_turn_0 9 rfl) (by decide) (fun hc3 => ?_) (fun hc3 => ?_)
  · rw [if_neg hc3] at h
    refine mx_aload_n (mx_d tX12_turn_0 12 rfl) rfl rfl ?_
    obtain ⟨r4, h_r4, h⟩ := Option.bind_eq_some_iff.mp h
    refine mx_cVv (mx_d tX12_turn_0 13 rfl) iX12_332 rfl vX12_snap ⟨_, rfl, rfl⟩ (ly12_o h0) (CX12_snap h0 h_r4) (by decide) rfl rfl (Nat.le_of_ble_eq_true rfl) ?_
    refine mx_aload_n (mx_d tX12_turn_0 14 rfl) rfl rfl ?_
    refine mx_aload_n (mx_d tX12_turn_0 15 rfl) rfl rfl ?_
    refine mx_getR (mx_d tX12_turn_0 16 rfl) fX12_136 rfl rfl (ly12_o h0) (ly12_r27 h0) ?_
    refine mx_aload_n (mx_d tX12_turn_0 17 rfl) rfl rfl ?_
    refine mx_getI (mx_d tX12_turn_0 18 rfl) fX12_315 rfl (Or.inl rfl) (ly12_o h0) ?_
    obtain ⟨r5, h_r5, h⟩ := Option.bind_eq_some_iff.mp h
    refine mx_cVv (mx_d tX12_turn_0 19 rfl) iX12_325 rfl vX12_turnPath ⟨_, rfl, rfl⟩ (ly12_o h0) (CX12_turnPath h0 (ly12_s27 h0) h_r5) (by decide) rfl rfl (Nat.le_of_ble_eq_true rfl) ?_
    refine mx_iconst (0) (mx_d tX12_turn_0 20 rfl) (by decide) ?_
    obtain rfl := Option.some.inj h
    exact mx_ireturn (mx_d tX12_turn_0 21 rfl) rfl ⟨rfl, rfl⟩
  · rw [if_pos hc3] at h
    refine mx_iconst (1) (mx_d tX12_turn_0 10 rfl) (by decide) ?_
    obtain rfl := Option.some.inj h
    exact mx_ireturn (mx_d tX12_turn_0 11 rfl) rfl ⟨rfl, rfl⟩
def FX12_shrink_L18 (q0 : Nat) (m : mB) : Nat → Int32 → Int32 → Option (Int32)
  | 0, _, _ => none
  | f + 1, y1, y2 => (if (m.1 q0 30) ≤ y2 then (some (y1)) else mx_chk (mx_inb y2 10) (mx_let (y1 ||| ((1 : Int32) <<< ((m.1 (q0 + 15) (Int32.toNatClampNeg y2)) &&& 31))) (fun v6 => mx_let (y2 + 1) (fun v7 => (FX12_shrink_L18 q0 m f v6 v7)))))
set_option maxRecDepth 20000 in
theorem CX12_shrink_L18 {G : mG} {l : Launch} {e : mE} {Post : Option Value → mS → Prop} {q0 : Nat} {m : mB} (g0 : ly12 e q0) : ∀ (f : Nat) {y1 : Int32} {y2 : Int32} {q : (Int32)}, FX12_shrink_L18 q0 m f y1 y2 = some q → (mx_Fr G l MX12_shrink 5 0 0 Post 43 [.ref q0, .int q, .float 0] [] (e, m)) → mx_Fr G l MX12_shrink 5 0 0 Post 18 [.ref q0, .int y1, .int y2] [] (e, m) := by
  intro f
  induction f with
  | zero => intro _ _ _ h; cases h
  | succ f ih =>
    intro y1 y2 q h hex
    rw [FX12_shrink_L18] at h
    refine mx_iload_n (mx_d tX12_shrink_0 12 rfl) rfl rfl ?_
    refine mx_aload_n (mx_d tX12_shrink_0 13 rfl) rfl rfl ?_
    refine mx_getI (mx_d tX12_shrink_0 14 rfl) fX12_309 rfl (Or.inl rfl) (ly12_o g0) ?_
    refine mx_icmp_ge (tgt := 43) (mx_d tX12_shrink_0 15 rfl) (by decide) (fun hc4 => ?_) (fun hc4 => ?_)
    · rw [if_pos hc4] at h
      obtain rfl := Option.some.inj h
      refine mx_forget (L' := [.ref q0, .int y1, .float 0]) ⟨rfl, rfl, trivial⟩ ?_
      exact hex
    · rw [if_neg hc4] at h
      refine mx_iload_n (mx_d tX12_shrink_0 16 rfl) rfl rfl ?_
      refine mx_iconst (1) (mx_d tX12_shrink_0 17 rfl) (by decide) ?_
      refine mx_aload_n (mx_d tX12_shrink_0 18 rfl) rfl rfl ?_
      refine mx_getR (mx_d tX12_shrink_0 19 rfl) fX12_139 rfl rfl (ly12_o g0) (ly12_r28 g0) ?_
      refine mx_iload_n (mx_d tX12_shrink_0 20 rfl) rfl rfl ?_
      obtain ⟨hi5, h⟩ := mx_chkE h
      refine mx_iaload (mx_d tX12_shrink_0 21 rfl) (ly12_s28 g0) (mx_inbE hi5) ?_
      refine mx_ishl (mx_d tX12_shrink_0 22 rfl) ?_
      refine mx_ior (mx_d tX12_shrink_0 23 rfl) ?_
      obtain ⟨v6, e_v6, h⟩ := mx_letE h
      refine mx_istore_n (L2 := [.ref q0, .int v6, .int y2]) (mx_d tX12_shrink_0 24 rfl) rfl (by decide) (by rw [e_v6]; rfl) ?_
      obtain ⟨v7, e_v7, h⟩ := mx_letE h
      refine mx_iinc v7 (L2 := [.ref q0, .int v6, .int v7]) (mx_d tX12_shrink_0 25 rfl) rfl (by rw [e_v7]; rfl) (by decide) rfl ?_
      refine mx_goto (tgt := 18) (mx_d tX12_shrink_0 26 rfl) (by decide) ?_
      exact ih h hex
def FX12_shrink (a : Nat) (m : mB) : Option (Int32 × mB) := mx_let (mx_up m.1 a 0 0, m.2) (fun m1 => Option.bind (FX12_isFlower a m1) (fun r2 => (if r2 = 0 then (some (1, m1)) else Option.bind (FX12_shrink_L18 a m1 mx_FU 0 0) (fun q8 => Option.bind (FX12_isOddIn a (a + 2) 432 178 (m1.1 (a + 2) 125) q8 m1) (fun r9 => (if r9 = 0 then (if (m1.1 (a + 2) 125) = 6 then (some (3, m1)) else Option.bind (FX12_snap a m1) (fun r12 => mx_chk (mx_inb (178 + (r12.1 (a + 2) 125)) 432) (mx_let (mx_up r12.1 (a + 2) (Int32.toNatClampNeg (178 + (r12.1 (a + 2) 125))) q8, r12.2) (fun m13 => mx_chk (mx_inb (184 + (m13.1 (a + 2) 125)) 432) (mx_let (mx_up m13.1 (a + 2) (Int32.toNatClampNeg (184 + (m13.1 (a + 2) 125))) 0, m13.2) (fun m15 => mx_let (mx_up m15.1 (a + 2) 125 ((m15.1 (a + 2) 125) + 1), m15.2) (fun m17 => mx_let (mx_up m17.1 (a + 2) 127 ((m17.1 (a + 2) 127) + 1), m17.2) (fun m18 => (some (0, m18)))))))))) else (some (2, m1))))))))
set_option maxRecDepth 20000 in
theorem CX12_shrink {G : mG} {l : Launch} {e : mE} {a : Nat} {m : mB} {r : (Int32 × mB)} (h0 : ly12 e a) (h : FX12_shrink a m = some r) : mx_Call G l MX12_shrink 5 0 0 [.ref a] (e, m) (fun v z => v = some (.int r.1) ∧ z = (e, r.2)) := by
  refine mx_entry (L := [.ref a, .float 0, .float 0]) (by decide +kernel) (Nat.le_of_ble_eq_true rfl) rfl ?_
  unfold FX12_shrink at h
  refine mx_aload_n (mx_d tX12_shrink_0 0 rfl) rfl rfl ?_
  refine mx_iconst (0) (mx_d tX12_shrink_0 1 rfl) (by decide) ?_
  obtain ⟨m1, e_m1, h⟩ := mx_letE h
  refine mx_putI (mx_d tX12_shrink_0 2 rfl) fX12_1 rfl ⟨_, rfl, rfl⟩ rfl (ly12_o h0) (mx_eqz (z' := (e, m1)) (by rw [e_m1]) ?_)
  refine mx_aload_n (mx_d tX12_shrink_0 3 rfl) rfl rfl ?_
  obtain ⟨r2, h_r2, h⟩ := Option.bind_eq_some_iff.mp h
  refine mx_cVi (mx_d tX12_shrink_0 4 rfl) iX12_350 rfl vX12_isFlower ⟨_, rfl, rfl⟩ (ly12_o h0) (CX12_isFlower h0 h_r2) (by decide) rfl rfl (Nat.le_of_ble_eq_true rfl) ?_
  refine mx_if_ne (tgt := 14) (mx_d tX12_shrink_0 5 rfl) (by decide) (fun hc3 => ?_) (fun hc3 => ?_)
  · rw [if_neg hc3] at h
    refine mx_iconst (0) (mx_d tX12_shrink_0 8 rfl) (by decide) ?_
    refine mx_istore_n (L2 := [.ref a, .int 0, .float 0]) (mx_d tX12_shrink_0 9 rfl) rfl (by decide) (by rfl) ?_
    refine mx_iconst (0) (mx_d tX12_shrink_0 10 rfl) (by decide) ?_
    refine mx_istore_n (L2 := [.ref a, .int 0, .int 0]) (mx_d tX12_shrink_0 11 rfl) rfl (by decide) (by rfl) ?_
    obtain ⟨q8, h_q8, h⟩ := Option.bind_eq_some_iff.mp h
    refine CX12_shrink_L18 h0 mx_FU h_q8 ?_
    refine mx_aload_n (mx_d tX12_shrink_0 27 rfl) rfl rfl ?_
    refine mx_aload_n (mx_d tX12_shrink_0 28 rfl) rfl rfl ?_
    refine mx_getR (mx_d tX12_shrink_0 29 rfl) fX12_98 rfl rfl (ly12_o h0) (ly12_r14 h0) ?_
    refine mx_sipush (178) (mx_d tX12_shrink_0 30 rfl) (by decide) ?_
    refine mx_aload_n (mx_d tX12_shrink_0 31 rfl) rfl rfl ?_
    refine mx_getR (mx_d tX12_shrink_0 32 rfl) fX12_98 rfl rfl (ly12_o h0) (ly12_r14 h0) ?_
    refine mx_bipush (125) (mx_d tX12_shrink_0 33 rfl) (by decide) ?_
    refine mx_ialoadC 125 (mx_d tX12_shrink_0 34 rfl) (ly12_s14 h0) (by decide) (mx_inbE (by decide)) ?_
    refine mx_iload_n (mx_d tX12_shrink_0 35 rfl) rfl rfl ?_
    obtain ⟨r9, h_r9, h⟩ := Option.bind_eq_some_iff.mp h
    refine mx_cVi (mx_d tX12_shrink_0 36 rfl) iX12_213 rfl vX12_isOddIn ⟨_, rfl, rfl⟩ (ly12_o h0) (CX12_isOddIn h0 (ly12_s14 h0) h_r9) (by decide) rfl rfl (Nat.le_of_ble_eq_true rfl) ?_
    refine mx_if_eq (tgt := 67) (mx_d tX12_shrink_0 37 rfl) (by decide) (fun hc10 => ?_) (fun hc10 => ?_)
    · rw [if_pos hc10] at h
      refine mx_aload_n (mx_d tX12_shrink_0 40 rfl) rfl rfl ?_
      refine mx_getR (mx_d tX12_shrink_0 41 rfl) fX12_98 rfl rfl (ly12_o h0) (ly12_r14 h0) ?_
      refine mx_bipush (125) (mx_d tX12_shrink_0 42 rfl) (by decide) ?_
      refine mx_ialoadC 125 (mx_d tX12_shrink_0 43 rfl) (ly12_s14 h0) (by decide) (mx_inbE (by decide)) ?_
      refine mx_bipush (6) (mx_d tX12_shrink_0 44 rfl) (by decide) ?_
      refine mx_icmp_ne (tgt := 81) (mx_d tX12_shrink_0 45 rfl) (by decide) (fun hc11 => ?_) (fun hc11 => ?_)
      · rw [if_neg hc11] at h
        refine mx_aload_n (mx_d tX12_shrink_0 48 rfl) rfl rfl ?_
        obtain ⟨r12, h_r12, h⟩ := Option.bind_eq_some_iff.mp h
        refine mx_cVv (mx_d tX12_shrink_0 49 rfl) iX12_332 rfl vX12_snap ⟨_, rfl, rfl⟩ (ly12_o h0) (CX12_snap h0 h_r12) (by decide) rfl rfl (Nat.le_of_ble_eq_true rfl) ?_
        refine mx_aload_n (mx_d tX12_shrink_0 50 rfl) rfl rfl ?_
        refine mx_getR (mx_d tX12_shrink_0 51 rfl) fX12_98 rfl rfl (ly12_o h0) (ly12_r14 h0) ?_
        refine mx_sipush (178) (mx_d tX12_shrink_0 52 rfl) (by decide) ?_
        refine mx_aload_n (mx_d tX12_shrink_0 53 rfl) rfl rfl ?_
        refine mx_getR (mx_d tX12_shrink_0 54 rfl) fX12_98 rfl rfl (ly12_o h0) (ly12_r14 h0) ?_
        refine mx_bipush (125) (mx_d tX12_shrink_0 55 rfl) (by decide) ?_
        refine mx_ialoadC 125 (mx_d tX12_shrink_0 56 rfl) (ly12_s14 h0) (by decide) (mx_inbE (by decide)) ?_
        refine mx_iadd (mx_d tX12_shrink_0 57 rfl) ?_
        refine mx_iload_n (mx_d tX12_shrink_0 58 rfl) rfl rfl ?_
        obtain ⟨hi14, h⟩ := mx_chkE h
        obtain ⟨m13, e_m13, h⟩ := mx_letE h
        refine mx_iastore (mx_d tX12_shrink_0 59 rfl) (ly12_s14 h0) (mx_inbE hi14) (mx_eqz (z' := (e, m13)) (by rw [e_m13]) ?_)
        refine mx_aload_n (mx_d tX12_shrink_1 0 rfl) rfl rfl ?_
        refine mx_getR (mx_d tX12_shrink_1 1 rfl) fX12_98 rfl rfl (ly12_o h0) (ly12_r14 h0) ?_
        refine mx_sipush (184) (mx_d tX12_shrink_1 2 rfl) (by decide) ?_
        refine mx_aload_n (mx_d tX12_shrink_1 3 rfl) rfl rfl ?_
        refine mx_getR (mx_d tX12_shrink_1 4 rfl) fX12_98 rfl rfl (ly12_o h0) (ly12_r14 h0) ?_
        refine mx_bipush (125) (mx_d tX12_shrink_1 5 rfl) (by decide) ?_
        refine mx_ialoadC 125 (mx_d tX12_shrink_1 6 rfl) (ly12_s14 h0) (by decide) (mx_inbE (by decide)) ?_
        refine mx_iadd (mx_d tX12_shrink_1 7 rfl) ?_
        refine mx_iconst (0) (mx_d tX12_shrink_1 8 rfl) (by decide) ?_
        obtain ⟨hi16, h⟩ := mx_chkE h
        obtain ⟨m15, e_m15, h⟩ := mx_letE h
        refine mx_iastore (mx_d tX12_shrink_1 9 rfl) (ly12_s14 h0) (mx_inbE hi16) (mx_eqz (z' := (e, m15)) (by rw [e_m15]) ?_)
        refine mx_aload_n (mx_d tX12_shrink_1 10 rfl) rfl rfl ?_
        refine mx_getR (mx_d tX12_shrink_1 11 rfl) fX12_98 rfl rfl (ly12_o h0) (ly12_r14 h0) ?_
        refine mx_bipush (125) (mx_d tX12_shrink_1 12 rfl) (by decide) ?_
        refine mx_dup2 (mx_d tX12_shrink_1 13 rfl) rfl rfl ?_
        refine mx_ialoadC 125 (mx_d tX12_shrink_1 14 rfl) (ly12_s14 h0) (by decide) (mx_inbE (by decide)) ?_
        refine mx_iconst (1) (mx_d tX12_shrink_1 15 rfl) (by decide) ?_
        refine mx_iadd (mx_d tX12_shrink_1 16 rfl) ?_
        obtain ⟨m17, e_m17, h⟩ := mx_letE h
        refine mx_iastoreC 125 (mx_d tX12_shrink_1 17 rfl) (ly12_s14 h0) (by decide) (mx_inbE (by decide)) (mx_eqz (z' := (e, m17)) (by rw [e_m17]) ?_)
        refine mx_aload_n (mx_d tX12_shrink_1 18 rfl) rfl rfl ?_
        refine mx_getR (mx_d tX12_shrink_1 19 rfl) fX12_98 rfl rfl (ly12_o h0) (ly12_r14 h0) ?_
        refine mx_bipush (127) (mx_d tX12_shrink_1 20 rfl) (by decide) ?_
        refine mx_dup2 (mx_d tX12_shrink_1 21 rfl) rfl rfl ?_
        refine mx_ialoadC 127 (mx_d tX12_shrink_1 22 rfl) (ly12_s14 h0) (by decide) (mx_inbE (by decide)) ?_
        refine mx_iconst (1) (mx_d tX12_shrink_1 23 rfl) (by decide) ?_
        refine mx_iadd (mx_d tX12_shrink_1 24 rfl) ?_
        obtain ⟨m18, e_m18, h⟩ := mx_letE h
        refine mx_iastoreC 127 (mx_d tX12_shrink_1 25 rfl) (ly12_s14 h0) (by decide) (mx_inbE (by decide)) (mx_eqz (z' := (e, m18)) (by rw [e_m18]) ?_)
        refine mx_iconst (0) (mx_d tX12_shrink_1 26 rfl) (by decide) ?_
        obtain rfl := Option.some.inj h
        exact mx_ireturn (mx_d tX12_shrink_1 27 rfl) rfl ⟨rfl, rfl⟩
      · rw [if_pos hc11] at h
        refine mx_iconst (3) (mx_d tX12_shrink_0 46 rfl) (by decide) ?_
        obtain rfl := Option.some.inj h
        exact mx_ireturn (mx_d tX12_shrink_0 47 rfl) rfl ⟨rfl, rfl⟩
    · rw [if_neg hc10] at h
      refine mx_iconst (2) (mx_d tX12_shrink_0 38 rfl) (by decide) ?_
      obtain rfl := Option.some.inj h
      exact mx_ireturn (mx_d tX12_shrink_0 39 rfl) rfl ⟨rfl, rfl⟩
  · rw [if_pos hc3] at h
    refine mx_iconst (1) (mx_d tX12_shrink_0 6 rfl) (by decide) ?_
    obtain rfl := Option.some.inj h
    exact mx_ireturn (mx_d tX12_shrink_0 7 rfl) rfl ⟨rfl, rfl⟩
def FX12_undo (a : Nat) (m : mB) : Option (Int32 × mB) := mx_let (mx_up m.1 a 0 0, m.2) (fun m1 => (if (m1.1 a 25) = 0 then (some ((-1), m1)) else mx_let (mx_up m1.1 a 25 ((m1.1 a 25) - 1), m1.2) (fun m3 => Option.bind (FX12_comeBack a (a + 5) 520 (65 * (m3.1 a 25)) m3) (fun r4 => (some ((r4.1 a 25), r4))))))
set_option maxRecDepth 20000 in
theorem CX12_undo {G : mG} {l : Launch} {e : mE} {a : Nat} {m : mB} {r : (Int32 × mB)} (h0 : ly12 e a) (h : FX12_undo a m = some r) : mx_Call G l MX12_undo 2 0 0 [.ref a] (e, m) (fun v z => v = some (.int r.1) ∧ z = (e, r.2)) := by
  refine mx_entry (L := [.ref a]) (by decide +kernel) (Nat.le_of_ble_eq_true rfl) rfl ?_
  unfold FX12_undo at h
  refine mx_aload_n (mx_d tX12_undo_0 0 rfl) rfl rfl ?_
  refine mx_iconst (0) (mx_d tX12_undo_0 1 rfl) (by decide) ?_
  obtain ⟨m1, e_m1, h⟩ := mx_letE h
  refine mx_putI (mx_d tX12_undo_0 2 rfl) fX12_1 rfl ⟨_, rfl, rfl⟩ rfl (ly12_o h0) (mx_eqz (z' := (e, m1)) (by rw [e_m1]) ?_)
  refine mx_aload_n (mx_d tX12_undo_0 3 rfl) rfl rfl ?_
  refine mx_getI (mx_d tX12_undo_0 4 rfl) fX12_244 rfl (Or.inl rfl) (ly12_o h0) ?_
  refine mx_if_ne (tgt := 14) (mx_d tX12_undo_0 5 rfl) (by decide) (fun hc2 => ?_) (fun hc2 => ?_)
  · rw [if_neg hc2] at h
    refine mx_aload_n (mx_d tX12_undo_0 8 rfl) rfl rfl ?_
    refine mx_dup (mx_d tX12_undo_0 9 rfl) rfl ?_
    refine mx_getI (mx_d tX12_undo_0 10 rfl) fX12_244 rfl (Or.inl rfl) (ly12_o h0) ?_
    refine mx_iconst (1) (mx_d tX12_undo_0 11 rfl) (by decide) ?_
    refine mx_isub (mx_d tX12_undo_0 12 rfl) ?_
    obtain ⟨m3, e_m3, h⟩ := mx_letE h
    refine mx_putI (mx_d tX12_undo_0 13 rfl) fX12_244 rfl ⟨_, rfl, rfl⟩ rfl (ly12_o h0) (mx_eqz (z' := (e, m3)) (by rw [e_m3]) ?_)
    refine mx_aload_n (mx_d tX12_undo_0 14 rfl) rfl rfl ?_
    refine mx_aload_n (mx_d tX12_undo_0 15 rfl) rfl rfl ?_
    refine mx_getR (mx_d tX12_undo_0 16 rfl) fX12_107 rfl rfl (ly12_o h0) (ly12_r17 h0) ?_
    refine mx_bipush (65) (mx_d tX12_undo_0 17 rfl) (by decide) ?_
    refine mx_aload_n (mx_d tX12_undo_0 18 rfl) rfl rfl ?_
    refine mx_getI (mx_d tX12_undo_0 19 rfl) fX12_244 rfl (Or.inl rfl) (ly12_o h0) ?_
    refine mx_imul (mx_d tX12_undo_0 20 rfl) ?_
    obtain ⟨r4, h_r4, h⟩ := Option.bind_eq_some_iff.mp h
    refine mx_cVv (mx_d tX12_undo_0 21 rfl) iX12_353 rfl vX12_comeBack ⟨_, rfl, rfl⟩ (ly12_o h0) (CX12_comeBack h0 (ly12_s17 h0) h_r4) (by decide) rfl rfl (Nat.le_of_ble_eq_true rfl) ?_
    refine mx_aload_n (mx_d tX12_undo_0 22 rfl) rfl rfl ?_
    refine mx_getI (mx_d tX12_undo_0 23 rfl) fX12_244 rfl (Or.inl rfl) (ly12_o h0) ?_
    obtain rfl := Option.some.inj h
    exact mx_ireturn (mx_d tX12_undo_0 24 rfl) rfl ⟨rfl, rfl⟩
  · rw [if_pos hc2] at h
    refine mx_iconst ((-1)) (mx_d tX12_undo_0 6 rfl) (by decide) ?_
    obtain rfl := Option.some.inj h
    exact mx_ireturn (mx_d tX12_undo_0 7 rfl) rfl ⟨rfl, rfl⟩
def FX12_breaks_L2 (q0 : Nat) (y1 : Int32) (m : mB) : Nat → Int32 → Option (Int32 ⊕ (Unit))
  | 0, _ => none
  | f + 1, y2 => (if (m.1 (q0 + 2) 1) ≤ y2 then (some (.inr ())) else (if 3 ≤ y1 then (some (.inr ())) else (if y1 = 1 then Option.bind (FX12_slackOf q0 y2 m) (fun r10 => (if 0 ≤ r10 then mx_let (y2 + 1) (fun v12 => (FX12_breaks_L2 q0 y1 m f v12)) else (some (.inl y2)))) else Option.bind (FX12_isOfPair q0 y2 m) (fun r4 => (if r4 = 0 then mx_let (y2 + 1) (fun v6 => (FX12_breaks_L2 q0 y1 m f v6)) else Option.bind (FX12_slackOf q0 y2 m) (fun r7 => (if r7 = 0 then mx_let (y2 + 1) (fun v9 => (FX12_breaks_L2 q0 y1 m f v9)) else (some (.inl y2)))))))))
set_option maxRecDepth 20000 in
theorem CX12_breaks_L2 {G : mG} {l : Launch} {e : mE} {Post : Option Value → mS → Prop} {q0 : Nat} {y1 : Int32} {m : mB} (g0 : ly12 e q0) : ∀ (f : Nat) {y2 : Int32} {q : (Int32 ⊕ (Unit))}, FX12_breaks_L2 q0 y1 m f y2 = some q → (∀ rr, q = .inl rr → Post (some (.int rr)) (e, m)) → (∀ u, q = .inr u → mx_Fr G l MX12_breaks 3 0 0 Post 57 [.ref q0, .int y1, .float 0] [] (e, m)) → mx_Fr G l MX12_breaks 3 0 0 Post 2 [.ref q0, .int y1, .int y2] [] (e, m) := by
  intro f
  induction f with
  | zero => intro _ _ h; cases h
  | succ f ih =>
    intro y2 q h hret hex
    rw [FX12_breaks_L2] at h
    refine mx_iload_n (mx_d tX12_breaks_0 2 rfl) rfl rfl ?_
    refine mx_aload_n (mx_d tX12_breaks_0 3 rfl) rfl rfl ?_
    refine mx_getR (mx_d tX12_breaks_0 4 rfl) fX12_98 rfl rfl (ly12_o g0) (ly12_r14 g0) ?_
    refine mx_iconst (1) (mx_d tX12_breaks_0 5 rfl) (by decide) ?_
    refine mx_ialoadC 1 (mx_d tX12_breaks_0 6 rfl) (ly12_s14 g0) (by decide) (mx_inbE (by decide)) ?_
    refine mx_icmp_ge (tgt := 57) (mx_d tX12_breaks_0 7 rfl) (by decide) (fun hc1 => ?_) (fun hc1 => ?_)
    · rw [if_pos hc1] at h
      obtain rfl := Option.some.inj h
      refine mx_forget (L' := [.ref q0, .int y1, .float 0]) ⟨rfl, rfl, trivial⟩ ?_
      exact (hex _ rfl)
    · rw [if_neg hc1] at h
      refine mx_iload_n (mx_d tX12_breaks_0 8 rfl) rfl rfl ?_
      refine mx_iconst (3) (mx_d tX12_breaks_0 9 rfl) (by decide) ?_
      refine mx_icmp_ge (tgt := 57) (mx_d tX12_breaks_0 10 rfl) (by decide) (fun hc2 => ?_) (fun hc2 => ?_)
      · rw [if_pos hc2] at h
        obtain rfl := Option.some.inj h
        refine mx_forget (L' := [.ref q0, .int y1, .float 0]) ⟨rfl, rfl, trivial⟩ ?_
        exact (hex _ rfl)
      · rw [if_neg hc2] at h
        refine mx_iload_n (mx_d tX12_breaks_0 11 rfl) rfl rfl ?_
        refine mx_iconst (1) (mx_d tX12_breaks_0 12 rfl) (by decide) ?_
        refine mx_icmp_ne (tgt := 33) (mx_d tX12_breaks_0 13 rfl) (by decide) (fun hc3 => ?_) (fun hc3 => ?_)
        · rw [if_neg hc3] at h
          refine mx_aload_n (mx_d tX12_breaks_0 19 rfl) rfl rfl ?_
          refine mx_iload_n (mx_d tX12_breaks_0 20 rfl) rfl rfl ?_
          obtain ⟨r4, h_r4, h⟩ := Option.bind_eq_some_iff.mp h
          refine mx_cVi (mx_d tX12_breaks_0 21 rfl) iX12_260 rfl vX12_isOfPair ⟨_, rfl, rfl⟩ (ly12_o g0) (CX12_isOfPair g0 h_r4) (by decide) rfl rfl (Nat.le_of_ble_eq_true rfl) ?_
          refine mx_if_eq (tgt := 51) (mx_d tX12_breaks_0 22 rfl) (by decide) (fun hc5 => ?_) (fun hc5 => ?_)
          · rw [if_pos hc5] at h
            obtain ⟨v6, e_v6, h⟩ := mx_letE h
            refine mx_iinc v6 (L2 := [.ref q0, .int y1, .int v6]) (mx_d tX12_breaks_0 29 rfl) rfl (by rw [e_v6]; rfl) (by decide) rfl ?_
            refine mx_goto (tgt := 2) (mx_d tX12_breaks_0 30 rfl) (by decide) ?_
            exact ih h hret hex
          · rw [if_neg hc5] at h
            refine mx_aload_n (mx_d tX12_breaks_0 23 rfl) rfl rfl ?_
            refine mx_iload_n (mx_d tX12_breaks_0 24 rfl) rfl rfl ?_
            obtain ⟨r7, h_r7, h⟩ := Option.bind_eq_some_iff.mp h
            refine mx_cVi (mx_d tX12_breaks_0 25 rfl) iX12_269 rfl vX12_slackOf ⟨_, rfl, rfl⟩ (ly12_o g0) (CX12_slackOf g0 h_r7) (by decide) rfl rfl (Nat.le_of_ble_eq_true rfl) ?_
            refine mx_if_eq (tgt := 51) (mx_d tX12_breaks_0 26 rfl) (by decide) (fun hc8 => ?_) (fun hc8 => ?_)
            · rw [if_pos hc8] at h
              obtain ⟨v9, e_v9, h⟩ := mx_letE h
              refine mx_iinc v9 (L2 := [.ref q0, .int y1, .int v9]) (mx_d tX12_breaks_0 29 rfl) rfl (by rw [e_v9]; rfl) (by decide) rfl ?_
              refine mx_goto (tgt := 2) (mx_d tX12_breaks_0 30 rfl) (by decide) ?_
              exact ih h hret hex
            · rw [if_neg hc8] at h
              refine mx_iload_n (mx_d tX12_breaks_0 27 rfl) rfl rfl ?_
              obtain rfl := Option.some.inj h
              exact mx_ireturn (mx_d tX12_breaks_0 28 rfl) rfl (hret y2 rfl)
        · rw [if_pos hc3] at h
          refine mx_aload_n (mx_d tX12_breaks_0 14 rfl) rfl rfl ?_
          refine mx_iload_n (mx_d tX12_breaks_0 15 rfl) rfl rfl ?_
          obtain ⟨r10, h_r10, h⟩ := Option.bind_eq_some_iff.mp h
          refine mx_cVi (mx_d tX12_breaks_0 16 rfl) iX12_269 rfl vX12_slackOf ⟨_, rfl, rfl⟩ (ly12_o g0) (CX12_slackOf g0 h_r10) (by decide) rfl rfl (Nat.le_of_ble_eq_true rfl) ?_
          refine mx_if_ge (tgt := 51) (mx_d tX12_breaks_0 17 rfl) (by decide) (fun hc11 => ?_) (fun hc11 => ?_)
          · rw [if_pos hc11] at h
            obtain ⟨v12, e_v12, h⟩ := mx_letE h
            refine mx_iinc v12 (L2 := [.ref q0, .int y1, .int v12]) (mx_d tX12_breaks_0 29 rfl) rfl (by rw [e_v12]; rfl) (by decide) rfl ?_
            refine mx_goto (tgt := 2) (mx_d tX12_breaks_0 30 rfl) (by decide) ?_
            exact ih h hret hex
          · rw [if_neg hc11] at h
            refine mx_goto (tgt := 49) (mx_d tX12_breaks_0 18 rfl) (by decide) ?_
            refine mx_iload_n (mx_d tX12_breaks_0 27 rfl) rfl rfl ?_
            obtain rfl := Option.some.inj h
            exact mx_ireturn (mx_d tX12_breaks_0 28 rfl) rfl (hret y2 rfl)
def FX12_breaks_L59 (q0 : Nat) (y1 : Int32) (m : mB) : Nat → Int32 → Option (Int32 ⊕ (Unit))
  | 0, _ => none
  | f + 1, y2 => (if (m.1 (q0 + 2) 0) ≤ y2 then (some (.inr ())) else (if y1 = 3 then Option.bind (FX12_isLone q0 y2 m) (fun r18 => (if r18 = 0 then mx_let (y2 + 1) (fun v20 => (FX12_breaks_L59 q0 y1 m f v20)) else mx_chk (mx_inb (168 + y2) 432) ((if (m.1 (q0 + 2) (Int32.toNatClampNeg (168 + y2))) ≤ 0 then mx_let (y2 + 1) (fun v23 => (FX12_breaks_L59 q0 y1 m f v23)) else (some (.inl y2)))))) else (some (.inr ()))))
set_option maxRecDepth 20000 in
theorem CX12_breaks_L59 {G : mG} {l : Launch} {e : mE} {Post : Option Value → mS → Prop} {q0 : Nat} {y1 : Int32} {m : mB} (g0 : ly12 e q0) : ∀ (f : Nat) {y2 : Int32} {q : (Int32 ⊕ (Unit))}, FX12_breaks_L59 q0 y1 m f y2 = some q → (∀ rr, q = .inl rr → Post (some (.int rr)) (e, m)) → (∀ u, q = .inr u → mx_Fr G l MX12_breaks 3 0 0 Post 103 [.ref q0, .int y1, .float 0] [] (e, m)) → mx_Fr G l MX12_breaks 3 0 0 Post 59 [.ref q0, .int y1, .int y2] [] (e, m) := by
  intro f
  induction f with
  | zero => intro _ _ h; cases h
  | succ f ih =>
    intro y2 q h hret hex
    rw [FX12_breaks_L59] at h
    refine mx_iload_n (mx_d tX12_breaks_0 33 rfl) rfl rfl ?_
    refine mx_aload_n (mx_d tX12_breaks_0 34 rfl) rfl rfl ?_
    refine mx_getR (mx_d tX12_breaks_0 35 rfl) fX12_98 rfl rfl (ly12_o g0) (ly12_r14 g0) ?_
    refine mx_iconst (0) (mx_d tX12_breaks_0 36 rfl) (by decide) ?_
    refine mx_ialoadC 0 (mx_d tX12_breaks_0 37 rfl) (ly12_s14 g0) (by decide) (mx_inbE (by decide)) ?_
    refine mx_icmp_ge (tgt := 103) (mx_d tX12_breaks_0 38 rfl) (by decide) (fun hc16 => ?_) (fun hc16 => ?_)
    · rw [if_pos hc16] at h
      obtain rfl := Option.some.inj h
      refine mx_forget (L' := [.ref q0, .int y1, .float 0]) ⟨rfl, rfl, trivial⟩ ?_
      exact (hex _ rfl)
    · rw [if_neg hc16] at h
      refine mx_iload_n (mx_d tX12_breaks_0 39 rfl) rfl rfl ?_
      refine mx_iconst (3) (mx_d tX12_breaks_0 40 rfl) (by decide) ?_
      refine mx_icmp_ne (tgt := 103) (mx_d tX12_breaks_0 41 rfl) (by decide) (fun hc17 => ?_) (fun hc17 => ?_)
      · rw [if_neg hc17] at h
        obtain rfl := Option.some.inj h
        refine mx_forget (L' := [.ref q0, .int y1, .float 0]) ⟨rfl, rfl, trivial⟩ ?_
        exact (hex _ rfl)
      · rw [if_pos hc17] at h
        refine mx_aload_n (mx_d tX12_breaks_0 42 rfl) rfl rfl ?_
        refine mx_iload_n (mx_d tX12_breaks_0 43 rfl) rfl rfl ?_
        obtain ⟨r18, h_r18, h⟩ := Option.bind_eq_some_iff.mp h
        refine mx_cVi (mx_d tX12_breaks_0 44 rfl) iX12_294 rfl vX12_isLone ⟨_, rfl, rfl⟩ (ly12_o g0) (CX12_isLone g0 h_r18) (by decide) rfl rfl (Nat.le_of_ble_eq_true rfl) ?_
        refine mx_if_eq (tgt := 97) (mx_d tX12_breaks_0 45 rfl) (by decide) (fun hc19 => ?_) (fun hc19 => ?_)
        · rw [if_pos hc19] at h
          obtain ⟨v20, e_v20, h⟩ := mx_letE h
          refine mx_iinc v20 (L2 := [.ref q0, .int y1, .int v20]) (mx_d tX12_breaks_0 55 rfl) rfl (by rw [e_v20]; rfl) (by decide) rfl ?_
          refine mx_goto (tgt := 59) (mx_d tX12_breaks_0 56 rfl) (by decide) ?_
          exact ih h hret hex
        · rw [if_neg hc19] at h
          refine mx_aload_n (mx_d tX12_breaks_0 46 rfl) rfl rfl ?_
          refine mx_getR (mx_d tX12_breaks_0 47 rfl) fX12_98 rfl rfl (ly12_o g0) (ly12_r14 g0) ?_
          refine mx_sipush (168) (mx_d tX12_breaks_0 48 rfl) (by decide) ?_
          refine mx_iload_n (mx_d tX12_breaks_0 49 rfl) rfl rfl ?_
          refine mx_iadd (mx_d tX12_breaks_0 50 rfl) ?_
          obtain ⟨hi21, h⟩ := mx_chkE h
          refine mx_iaload (mx_d tX12_breaks_0 51 rfl) (ly12_s14 g0) (mx_inbE hi21) ?_
          refine mx_if_le (tgt := 97) (mx_d tX12_breaks_0 52 rfl) (by decide) (fun hc22 => ?_) (fun hc22 => ?_)
          · rw [if_pos hc22] at h
            obtain ⟨v23, e_v23, h⟩ := mx_letE h
            refine mx_iinc v23 (L2 := [.ref q0, .int y1, .int v23]) (mx_d tX12_breaks_0 55 rfl) rfl (by rw [e_v23]; rfl) (by decide) rfl ?_
            refine mx_goto (tgt := 59) (mx_d tX12_breaks_0 56 rfl) (by decide) ?_
            exact ih h hret hex
          · rw [if_neg hc22] at h
            refine mx_iload_n (mx_d tX12_breaks_0 53 rfl) rfl rfl ?_
            obtain rfl := Option.some.inj h
            exact mx_ireturn (mx_d tX12_breaks_0 54 rfl) rfl (hret y2 rfl)
def FX12_breaks_L105 (q0 : Nat) (y1 : Int32) (m : mB) : Nat → Int32 → Option (Int32 ⊕ (Unit))
  | 0, _ => none
  | f + 1, y2 => (if (m.1 (q0 + 2) 125) ≤ y2 then (some (.inr ())) else (if y1 = 4 then mx_chk (mx_inb (184 + y2) 432) ((if (m.1 (q0 + 2) (Int32.toNatClampNeg (184 + y2))) ≤ 0 then mx_let (y2 + 1) (fun v31 => (FX12_breaks_L105 q0 y1 m f v31)) else mx_chk (mx_inb (178 + y2) 432) (Option.bind (FX12_pairsIn q0 (m.1 (q0 + 2) (Int32.toNatClampNeg (178 + y2))) m) (fun r33 => Option.bind (FX12_bits (m.1 (q0 + 2) (Int32.toNatClampNeg (178 + y2))) m) (fun r34 => (if (r34 / 2) ≤ r33 then mx_let (y2 + 1) (fun v36 => (FX12_breaks_L105 q0 y1 m f v36)) else (some (.inl y2)))))))) else (some (.inr ()))))
set_option maxRecDepth 20000 in
theorem CX12_breaks_L105 {G : mG} {l : Launch} {e : mE} {Post : Option Value → mS → Prop} {q0 : Nat} {y1 : Int32} {m : mB} (g0 : ly12 e q0) : ∀ (f : Nat) {y2 : Int32} {q : (Int32 ⊕ (Unit))}, FX12_breaks_L105 q0 y1 m f y2 = some q → (∀ rr, q = .inl rr → Post (some (.int rr)) (e, m)) → (∀ u, q = .inr u → mx_Fr G l MX12_breaks 3 0 0 Post 174 [.float 0, .float 0, .float 0] [] (e, m)) → mx_Fr G l MX12_breaks 3 0 0 Post 105 [.ref q0, .int y1, .int y2] [] (e, m) := by
  intro f
  induction f with
  | zero => intro _ _ h; cases h
  | succ f ih =>
    intro y2 q h hret hex
    rw [FX12_breaks_L105] at h
    refine mx_iload_n (mx_d tX12_breaks_0 59 rfl) rfl rfl ?_
    refine mx_aload_n (mx_d tX12_breaks_1 0 rfl) rfl rfl ?_
    refine mx_getR (mx_d tX12_breaks_1 1 rfl) fX12_98 rfl rfl (ly12_o g0) (ly12_r14 g0) ?_
    refine mx_bipush (125) (mx_d tX12_breaks_1 2 rfl) (by decide) ?_
    refine mx_ialoadC 125 (mx_d tX12_breaks_1 3 rfl) (ly12_s14 g0) (by decide) (mx_inbE (by decide)) ?_
    refine mx_icmp_ge (tgt := 174) (mx_d tX12_breaks_1 4 rfl) (by decide) (fun hc27 => ?_) (fun hc27 => ?_)
    · rw [if_pos hc27] at h
      obtain rfl := Option.some.inj h
      refine mx_forget (L' := [.float 0, .float 0, .float 0]) trivial ?_
      exact (hex _ rfl)
    · rw [if_neg hc27] at h
      refine mx_iload_n (mx_d tX12_breaks_1 5 rfl) rfl rfl ?_
      refine mx_iconst (4) (mx_d tX12_breaks_1 6 rfl) (by decide) ?_
      refine mx_icmp_ne (tgt := 174) (mx_d tX12_breaks_1 7 rfl) (by decide) (fun hc28 => ?_) (fun hc28 => ?_)
      · rw [if_neg hc28] at h
        obtain rfl := Option.some.inj h
        refine mx_forget (L' := [.float 0, .float 0, .float 0]) trivial ?_
        exact (hex _ rfl)
      · rw [if_pos hc28] at h
        refine mx_aload_n (mx_d tX12_breaks_1 8 rfl) rfl rfl ?_
        refine mx_getR (mx_d tX12_breaks_1 9 rfl) fX12_98 rfl rfl (ly12_o g0) (ly12_r14 g0) ?_
        refine mx_sipush (184) (mx_d tX12_breaks_1 10 rfl) (by decide) ?_
        refine mx_iload_n (mx_d tX12_breaks_1 11 rfl) rfl rfl ?_
        refine mx_iadd (mx_d tX12_breaks_1 12 rfl) ?_
        obtain ⟨hi29, h⟩ := mx_chkE h
        refine mx_iaload (mx_d tX12_breaks_1 13 rfl) (ly12_s14 g0) (mx_inbE hi29) ?_
        refine mx_if_le (tgt := 168) (mx_d tX12_breaks_1 14 rfl) (by decide) (fun hc30 => ?_) (fun hc30 => ?_)
        · rw [if_pos hc30] at h
          obtain ⟨v31, e_v31, h⟩ := mx_letE h
          refine mx_iinc v31 (L2 := [.ref q0, .int y1, .int v31]) (mx_d tX12_breaks_1 35 rfl) rfl (by rw [e_v31]; rfl) (by decide) rfl ?_
          refine mx_goto (tgt := 105) (mx_d tX12_breaks_1 36 rfl) (by decide) ?_
          exact ih h hret hex
        · rw [if_neg hc30] at h
          refine mx_aload_n (mx_d tX12_breaks_1 15 rfl) rfl rfl ?_
          refine mx_aload_n (mx_d tX12_breaks_1 16 rfl) rfl rfl ?_
          refine mx_getR (mx_d tX12_breaks_1 17 rfl) fX12_98 rfl rfl (ly12_o g0) (ly12_r14 g0) ?_
          refine mx_sipush (178) (mx_d tX12_breaks_1 18 rfl) (by decide) ?_
          refine mx_iload_n (mx_d tX12_breaks_1 19 rfl) rfl rfl ?_
          refine mx_iadd (mx_d tX12_breaks_1 20 rfl) ?_
          obtain ⟨hi32, h⟩ := mx_chkE h
          refine mx_iaload (mx_d tX12_breaks_1 21 rfl) (ly12_s14 g0) (mx_inbE hi32) ?_
          obtain ⟨r33, h_r33, h⟩ := Option.bind_eq_some_iff.mp h
          refine mx_cVi (mx_d tX12_breaks_1 22 rfl) iX12_257 rfl vX12_pairsIn ⟨_, rfl, rfl⟩ (ly12_o g0) (CX12_pairsIn g0 h_r33) (by decide) rfl rfl (Nat.le_of_ble_eq_true rfl) ?_
          refine mx_aload_n (mx_d tX12_breaks_1 23 rfl) rfl rfl ?_
          refine mx_getR (mx_d tX12_breaks_1 24 rfl) fX12_98 rfl rfl (ly12_o g0) (ly12_r14 g0) ?_
          refine mx_sipush (178) (mx_d tX12_breaks_1 25 rfl) (by decide) ?_
          refine mx_iload_n (mx_d tX12_breaks_1 26 rfl) rfl rfl ?_
          refine mx_iadd (mx_d tX12_breaks_1 27 rfl) ?_
          refine mx_iaload (mx_d tX12_breaks_1 28 rfl) (ly12_s14 g0) (mx_inbE hi32) ?_
          obtain ⟨r34, h_r34, h⟩ := Option.bind_eq_some_iff.mp h
          refine mx_cSi (mx_d tX12_breaks_1 29 rfl) iX12_263 rfl sX12_bits (CX12_bits  h_r34) (by decide) rfl rfl (Nat.le_of_ble_eq_true rfl) ?_
          refine mx_iconst (2) (mx_d tX12_breaks_1 30 rfl) (by decide) ?_
          refine mx_idiv (mx_d tX12_breaks_1 31 rfl) (by decide) ?_
          refine mx_icmp_ge (tgt := 168) (mx_d tX12_breaks_1 32 rfl) (by decide) (fun hc35 => ?_) (fun hc35 => ?_)
          · rw [if_pos hc35] at h
            obtain ⟨v36, e_v36, h⟩ := mx_letE h
            refine mx_iinc v36 (L2 := [.ref q0, .int y1, .int v36]) (mx_d tX12_breaks_1 35 rfl) rfl (by rw [e_v36]; rfl) (by decide) rfl ?_
            refine mx_goto (tgt := 105) (mx_d tX12_breaks_1 36 rfl) (by decide) ?_
            exact ih h hret hex
          · rw [if_neg hc35] at h
            refine mx_iload_n (mx_d tX12_breaks_1 33 rfl) rfl rfl ?_
            obtain rfl := Option.some.inj h
            exact mx_ireturn (mx_d tX12_breaks_1 34 rfl) rfl (hret y2 rfl)
def FX12_breaks (a : Nat) (x0 : Int32) (m : mB) : Option Int32 := Option.bind (FX12_breaks_L2 a x0 m mx_FU 0) (fun q13 => Sum.elim (fun rr => some rr) (fun u14 => Option.bind (FX12_breaks_L59 a x0 m mx_FU 0) (fun q24 => Sum.elim (fun rr => some rr) (fun u25 => Option.bind (FX12_breaks_L105 a x0 m mx_FU 0) (fun q37 => Sum.elim (fun rr => some rr) (fun u38 => (some (-1))) q37)) q24)) q13)
set_option maxRecDepth 20000 in
theorem CX12_breaks {G : mG} {l : Launch} {e : mE} {a : Nat} {x0 : Int32} {m : mB} {r : Int32} (h0 : ly12 e a) (h : FX12_breaks a x0 m = some r) : mx_Call G l MX12_breaks 3 0 0 [.ref a, .int x0] (e, m) (fun v z => v = some (.int r) ∧ z = (e, m)) := by
  refine mx_entry (L := [.ref a, .int x0, .float 0]) (by decide +kernel) (Nat.le_of_ble_eq_true rfl) rfl ?_
  unfold FX12_breaks at h
  refine mx_iconst (0) (mx_d tX12_breaks_0 0 rfl) (by decide) ?_
  refine mx_istore_n (L2 := [.ref a, .int x0, .int 0]) (mx_d tX12_breaks_0 1 rfl) rfl (by decide) (by rfl) ?_
  obtain ⟨q13, h_q13, h⟩ := Option.bind_eq_some_iff.mp h
  refine CX12_breaks_L2 h0 mx_FU h_q13 (fun rr15 e_rr15 => ?_) (fun u14 e_u14 => ?_)
  · subst e_rr15
    rw [Sum.elim_inl] at h
    obtain rfl := Option.some.inj h
    exact ⟨rfl, rfl⟩
  · subst e_u14
    rw [Sum.elim_inr] at h
    refine mx_iconst (0) (mx_d tX12_breaks_0 31 rfl) (by decide) ?_
    refine mx_istore_n (L2 := [.ref a, .int x0, .int 0]) (mx_d tX12_breaks_0 32 rfl) rfl (by decide) (by rfl) ?_
    obtain ⟨q24, h_q24, h⟩ := Option.bind_eq_some_iff.mp h
    refine CX12_breaks_L59 h0 mx_FU h_q24 (fun rr26 e_rr26 => ?_) (fun u25 e_u25 => ?_)
    · subst e_rr26
      rw [Sum.elim_inl] at h
      obtain rfl := Option.some.inj h
      exact ⟨rfl, rfl⟩
    · subst e_u25
      rw [Sum.elim_inr] at h
      refine mx_iconst (0) (mx_d tX12_breaks_0 57 rfl) (by decide) ?_
      refine mx_istore_n (L2 := [.ref a, .int x0, .int 0]) (mx_d tX12_breaks_0 58 rfl) rfl (by decide) (by rfl) ?_
      obtain ⟨q37, h_q37, h⟩ := Option.bind_eq_some_iff.mp h
      refine CX12_breaks_L105 h0 mx_FU h_q37 (fun rr39 e_rr39 => ?_) (fun u38 e_u38 => ?_)
      · subst e_rr39
        rw [Sum.elim_inl] at h
        obtain rfl := Option.some.inj h
        exact ⟨rfl, rfl⟩
      · subst e_u38
        rw [Sum.elim_inr] at h
        refine mx_iconst ((-1)) (mx_d tX12_breaks_1 37 rfl) (by decide) ?_
        obtain rfl := Option.some.inj h
        exact mx_ireturn (mx_d tX12_breaks_1 38 rfl) rfl ⟨rfl, rfl⟩
def FX12_proof_L17 (q0 : Nat) : Nat → Int32 → mB → Option (mB)
  | 0, _, _ => none
  | f + 1, y1, m => (if 4 < y1 then (some (m)) else (if (m.1 q0 31) = 0 then Option.bind (FX12_breaks q0 y1 m) (fun r6 => mx_let (mx_up m.1 q0 32 r6, m.2) (fun m7 => (if (m7.1 q0 32) = (-1) then mx_let (y1 + 1) (fun v9 => (FX12_proof_L17 q0 f v9 m7)) else mx_let (mx_up m7.1 q0 31 y1, m7.2) (fun m10 => mx_let (y1 + 1) (fun v11 => (FX12_proof_L17 q0 f v11 m10)))))) else (some (m))))
set_option maxRecDepth 20000 in
theorem CX12_proof_L17 {G : mG} {l : Launch} {e : mE} {Post : Option Value → mS → Prop} {q0 : Nat} (g0 : ly12 e q0) : ∀ (f : Nat) {y1 : Int32} {m : mB} {q : (mB)}, FX12_proof_L17 q0 f y1 m = some q → (mx_Fr G l MX12_proof 4 0 0 Post 57 [.ref q0, .float 0] [] (e, q)) → mx_Fr G l MX12_proof 4 0 0 Post 17 [.ref q0, .int y1] [] (e, m) := by
  intro f
  induction f with
  | zero => intro _ _ _ h; cases h
  | succ f ih =>
    intro y1 m q h hex
    rw [FX12_proof_L17] at h
    refine mx_iload_n (mx_d tX12_proof_0 11 rfl) rfl rfl ?_
    refine mx_iconst (4) (mx_d tX12_proof_0 12 rfl) (by decide) ?_
    refine mx_icmp_gt (tgt := 57) (mx_d tX12_proof_0 13 rfl) (by decide) (fun hc4 => ?_) (fun hc4 => ?_)
    · rw [if_pos hc4] at h
      obtain rfl := Option.some.inj h
      refine mx_forget (L' := [.ref q0, .float 0]) ⟨rfl, trivial⟩ ?_
      exact hex
    · rw [if_neg hc4] at h
      refine mx_aload_n (mx_d tX12_proof_0 14 rfl) rfl rfl ?_
      refine mx_getI (mx_d tX12_proof_0 15 rfl) fX12_356 rfl (Or.inl rfl) (ly12_o g0) ?_
      refine mx_if_ne (tgt := 57) (mx_d tX12_proof_0 16 rfl) (by decide) (fun hc5 => ?_) (fun hc5 => ?_)
      · rw [if_neg hc5] at h
        obtain rfl := Option.some.inj h
        refine mx_forget (L' := [.ref q0, .float 0]) ⟨rfl, trivial⟩ ?_
        exact hex
      · rw [if_pos hc5] at h
        refine mx_aload_n (mx_d tX12_proof_0 17 rfl) rfl rfl ?_
        refine mx_aload_n (mx_d tX12_proof_0 18 rfl) rfl rfl ?_
        refine mx_iload_n (mx_d tX12_proof_0 19 rfl) rfl rfl ?_
        obtain ⟨r6, h_r6, h⟩ := Option.bind_eq_some_iff.mp h
        refine mx_cVi (mx_d tX12_proof_0 20 rfl) iX12_359 rfl vX12_breaks ⟨_, rfl, rfl⟩ (ly12_o g0) (CX12_breaks g0 h_r6) (by decide) rfl rfl (Nat.le_of_ble_eq_true rfl) ?_
        obtain ⟨m7, e_m7, h⟩ := mx_letE h
        refine mx_putI (mx_d tX12_proof_0 21 rfl) fX12_142 rfl ⟨_, rfl, rfl⟩ rfl (ly12_o g0) (mx_eqz (z' := (e, m7)) (by rw [e_m7]) ?_)
        refine mx_aload_n (mx_d tX12_proof_0 22 rfl) rfl rfl ?_
        refine mx_getI (mx_d tX12_proof_0 23 rfl) fX12_142 rfl (Or.inl rfl) (ly12_o g0) ?_
        refine mx_iconst ((-1)) (mx_d tX12_proof_0 24 rfl) (by decide) ?_
        refine mx_icmp_eq (tgt := 51) (mx_d tX12_proof_0 25 rfl) (by decide) (fun hc8 => ?_) (fun hc8 => ?_)
        · rw [if_pos hc8] at h
          obtain ⟨v9, e_v9, h⟩ := mx_letE h
          refine mx_iinc v9 (L2 := [.ref q0, .int v9]) (mx_d tX12_proof_0 29 rfl) rfl (by rw [e_v9]; rfl) (by decide) rfl ?_
          refine mx_goto (tgt := 17) (mx_d tX12_proof_0 30 rfl) (by decide) ?_
          exact ih h hex
        · rw [if_neg hc8] at h
          refine mx_aload_n (mx_d tX12_proof_0 26 rfl) rfl rfl ?_
          refine mx_iload_n (mx_d tX12_proof_0 27 rfl) rfl rfl ?_
          obtain ⟨m10, e_m10, h⟩ := mx_letE h
          refine mx_putI (mx_d tX12_proof_0 28 rfl) fX12_356 rfl ⟨_, rfl, rfl⟩ rfl (ly12_o g0) (mx_eqz (z' := (e, m10)) (by rw [e_m10]) ?_)
          obtain ⟨v11, e_v11, h⟩ := mx_letE h
          refine mx_iinc v11 (L2 := [.ref q0, .int v11]) (mx_d tX12_proof_0 29 rfl) rfl (by rw [e_v11]; rfl) (by decide) rfl ?_
          refine mx_goto (tgt := 17) (mx_d tX12_proof_0 30 rfl) (by decide) ?_
          exact ih h hex
def FX12_proof (a : Nat) (m : mB) : Option (Int32 × mB) := mx_let (mx_up m.1 a 0 0, m.2) (fun m1 => mx_let (mx_up m1.1 a 31 0, m1.2) (fun m2 => mx_let (mx_up m2.1 a 32 (-1), m2.2) (fun m3 => Option.bind (FX12_proof_L17 a mx_FU 1 m3) (fun q12 => (if (q12.1 a 31) = 0 then (some (0, q12)) else (if 3 ≤ (q12.1 a 31) then (if (q12.1 a 31) = 3 then mx_chk (mx_inb (168 + (q12.1 a 32)) 432) (mx_let (mx_up q12.1 a 33 (q12.1 (a + 2) (Int32.toNatClampNeg (168 + (q12.1 a 32)))), q12.2) (fun m19 => (some ((m19.1 a 31), m19)))) else mx_chk (mx_inb (184 + (q12.1 a 32)) 432) (mx_let (mx_up q12.1 a 33 (q12.1 (a + 2) (Int32.toNatClampNeg (184 + (q12.1 a 32)))), q12.2) (fun m17 => (some ((m17.1 a 31), m17))))) else Option.bind (FX12_slackOf a (q12.1 a 32) q12) (fun r20 => mx_let (mx_up q12.1 a 33 r20, q12.2) (fun m21 => (some ((m21.1 a 31), m21))))))))))
set_option maxRecDepth 20000 in
theorem CX12_proof {G : mG} {l : Launch} {e : mE} {a : Nat} {m : mB} {r : (Int32 × mB)} (h0 : ly12 e a) (h : FX12_proof a m = some r) : mx_Call G l MX12_proof 4 0 0 [.ref a] (e, m) (fun v z => v = some (.int r.1) ∧ z = (e, r.2)) := by
  refine mx_entry (L := [.ref a, .float 0]) (by decide +kernel) (Nat.le_of_ble_eq_true rfl) rfl ?_
  unfold FX12_proof at h
  refine mx_aload_n (mx_d tX12_proof_0 0 rfl) rfl rfl ?_
  refine mx_iconst (0) (mx_d tX12_proof_0 1 rfl) (by decide) ?_
  obtain ⟨m1, e_m1, h⟩ := mx_letE h
  refine mx_putI (mx_d tX12_proof_0 2 rfl) fX12_1 rfl ⟨_, rfl, rfl⟩ rfl (ly12_o h0) (mx_eqz (z' := (e, m1)) (by rw [e_m1]) ?_)
  refine mx_aload_n (mx_d tX12_proof_0 3 rfl) rfl rfl ?_
  refine mx_iconst (0) (mx_d tX12_proof_0 4 rfl) (by decide) ?_
  obtain ⟨m2, e_m2, h⟩ := mx_letE h
  refine mx_putI (mx_d tX12_proof_0 5 rfl) fX12_356 rfl ⟨_, rfl, rfl⟩ rfl (ly12_o h0) (mx_eqz (z' := (e, m2)) (by rw [e_m2]) ?_)
  refine mx_aload_n (mx_d tX12_proof_0 6 rfl) rfl rfl ?_
  refine mx_iconst ((-1)) (mx_d tX12_proof_0 7 rfl) (by decide) ?_
  obtain ⟨m3, e_m3, h⟩ := mx_letE h
  refine mx_putI (mx_d tX12_proof_0 8 rfl) fX12_142 rfl ⟨_, rfl, rfl⟩ rfl (ly12_o h0) (mx_eqz (z' := (e, m3)) (by rw [e_m3]) ?_)
  refine mx_iconst (1) (mx_d tX12_proof_0 9 rfl) (by decide) ?_
  refine mx_istore_n (L2 := [.ref a, .int 1]) (mx_d tX12_proof_0 10 rfl) rfl (by decide) (by rfl) ?_
  obtain ⟨q12, h_q12, h⟩ := Option.bind_eq_some_iff.mp h
  refine CX12_proof_L17 h0 mx_FU h_q12 ?_
  refine mx_aload_n (mx_d tX12_proof_0 31 rfl) rfl rfl ?_
  refine mx_getI (mx_d tX12_proof_0 32 rfl) fX12_356 rfl (Or.inl rfl) (ly12_o h0) ?_
  refine mx_if_ne (tgt := 66) (mx_d tX12_proof_0 33 rfl) (by decide) (fun hc13 => ?_) (fun hc13 => ?_)
  · rw [if_neg hc13] at h
    refine mx_aload_n (mx_d tX12_proof_0 36 rfl) rfl rfl ?_
    refine mx_aload_n (mx_d tX12_proof_0 37 rfl) rfl rfl ?_
    refine mx_getI (mx_d tX12_proof_0 38 rfl) fX12_356 rfl (Or.inl rfl) (ly12_o h0) ?_
    refine mx_iconst (3) (mx_d tX12_proof_0 39 rfl) (by decide) ?_
    refine mx_icmp_ge (tgt := 86) (mx_d tX12_proof_0 40 rfl) (by decide) (fun hc14 => ?_) (fun hc14 => ?_)
    · rw [if_pos hc14] at h
      refine mx_aload_n (mx_d tX12_proof_0 46 rfl) rfl rfl ?_
      refine mx_getI (mx_d tX12_proof_0 47 rfl) fX12_356 rfl (Or.inl rfl) (ly12_o h0) ?_
      refine mx_iconst (3) (mx_d tX12_proof_0 48 rfl) (by decide) ?_
      refine mx_icmp_ne (tgt := 110) (mx_d tX12_proof_0 49 rfl) (by decide) (fun hc15 => ?_) (fun hc15 => ?_)
      · rw [if_neg hc15] at h
        refine mx_aload_n (mx_d tX12_proof_0 58 rfl) rfl rfl ?_
        refine mx_getR (mx_d tX12_proof_0 59 rfl) fX12_98 rfl rfl (ly12_o h0) (ly12_r14 h0) ?_
        refine mx_sipush (184) (mx_d tX12_proof_1 0 rfl) (by decide) ?_
        refine mx_aload_n (mx_d tX12_proof_1 1 rfl) rfl rfl ?_
        refine mx_getI (mx_d tX12_proof_1 2 rfl) fX12_142 rfl (Or.inl rfl) (ly12_o h0) ?_
        refine mx_iadd (mx_d tX12_proof_1 3 rfl) ?_
        obtain ⟨hi16, h⟩ := mx_chkE h
        refine mx_iaload (mx_d tX12_proof_1 4 rfl) (ly12_s14 h0) (mx_inbE hi16) ?_
        obtain ⟨m17, e_m17, h⟩ := mx_letE h
        refine mx_putI (mx_d tX12_proof_1 5 rfl) fX12_362 rfl ⟨_, rfl, rfl⟩ rfl (ly12_o h0) (mx_eqz (z' := (e, m17)) (by rw [e_m17]) ?_)
        refine mx_aload_n (mx_d tX12_proof_1 6 rfl) rfl rfl ?_
        refine mx_getI (mx_d tX12_proof_1 7 rfl) fX12_356 rfl (Or.inl rfl) (ly12_o h0) ?_
        obtain rfl := Option.some.inj h
        exact mx_ireturn (mx_d tX12_proof_1 8 rfl) rfl ⟨rfl, rfl⟩
      · rw [if_pos hc15] at h
        refine mx_aload_n (mx_d tX12_proof_0 50 rfl) rfl rfl ?_
        refine mx_getR (mx_d tX12_proof_0 51 rfl) fX12_98 rfl rfl (ly12_o h0) (ly12_r14 h0) ?_
        refine mx_sipush (168) (mx_d tX12_proof_0 52 rfl) (by decide) ?_
        refine mx_aload_n (mx_d tX12_proof_0 53 rfl) rfl rfl ?_
        refine mx_getI (mx_d tX12_proof_0 54 rfl) fX12_142 rfl (Or.inl rfl) (ly12_o h0) ?_
        refine mx_iadd (mx_d tX12_proof_0 55 rfl) ?_
        obtain ⟨hi18, h⟩ := mx_chkE h
        refine mx_iaload (mx_d tX12_proof_0 56 rfl) (ly12_s14 h0) (mx_inbE hi18) ?_
        refine mx_goto (tgt := 123) (mx_d tX12_proof_0 57 rfl) (by decide) ?_
        obtain ⟨m19, e_m19, h⟩ := mx_letE h
        refine mx_putI (mx_d tX12_proof_1 5 rfl) fX12_362 rfl ⟨_, rfl, rfl⟩ rfl (ly12_o h0) (mx_eqz (z' := (e, m19)) (by rw [e_m19]) ?_)
        refine mx_aload_n (mx_d tX12_proof_1 6 rfl) rfl rfl ?_
        refine mx_getI (mx_d tX12_proof_1 7 rfl) fX12_356 rfl (Or.inl rfl) (ly12_o h0) ?_
        obtain rfl := Option.some.inj h
        exact mx_ireturn (mx_d tX12_proof_1 8 rfl) rfl ⟨rfl, rfl⟩
    · rw [if_neg hc14] at h
      refine mx_aload_n (mx_d tX12_proof_0 41 rfl) rfl rfl ?_
      refine mx_aload_n (mx_d tX12_proof_0 42 rfl) rfl rfl ?_
      refine mx_getI (mx_d tX12_proof_0 43 rfl) fX12_142 rfl (Or.inl rfl) (ly12_o h0) ?_
      obtain ⟨r20, h_r20, h⟩ := Option.bind_eq_some_iff.mp h
      refine mx_cVi (mx_d tX12_proof_0 44 rfl) iX12_269 rfl vX12_slackOf ⟨_, rfl, rfl⟩ (ly12_o h0) (CX12_slackOf h0 h_r20) (by decide) rfl rfl (Nat.le_of_ble_eq_true rfl) ?_
      refine mx_goto (tgt := 123) (mx_d tX12_proof_0 45 rfl) (by decide) ?_
      obtain ⟨m21, e_m21, h⟩ := mx_letE h
      refine mx_putI (mx_d tX12_proof_1 5 rfl) fX12_362 rfl ⟨_, rfl, rfl⟩ rfl (ly12_o h0) (mx_eqz (z' := (e, m21)) (by rw [e_m21]) ?_)
      refine mx_aload_n (mx_d tX12_proof_1 6 rfl) rfl rfl ?_
      refine mx_getI (mx_d tX12_proof_1 7 rfl) fX12_356 rfl (Or.inl rfl) (ly12_o h0) ?_
      obtain rfl := Option.some.inj h
      exact mx_ireturn (mx_d tX12_proof_1 8 rfl) rfl ⟨rfl, rfl⟩
  · rw [if_pos hc13] at h
    refine mx_iconst (0) (mx_d tX12_proof_0 34 rfl) (by decide) ?_
    obtain rfl := Option.some.inj h
    exact mx_ireturn (mx_d tX12_proof_0 35 rfl) rfl ⟨rfl, rfl⟩
def FX12_proofAt (a : Nat) (m : mB) : Option (Int32 × mB) := mx_let (mx_up m.1 a 0 0, m.2) (fun m1 => (some ((m1.1 a 32), m1)))
set_option maxRecDepth 20000 in
theorem CX12_proofAt {G : mG} {l : Launch} {e : mE} {a : Nat} {m : mB} {r : (Int32 × mB)} (h0 : ly12 e a) (h : FX12_proofAt a m = some r) : mx_Call G l MX12_proofAt 1 0 0 [.ref a] (e, m) (fun v z => v = some (.int r.1) ∧ z = (e, r.2)) := by
  refine mx_entry (L := [.ref a]) (by decide +kernel) (Nat.le_of_ble_eq_true rfl) rfl ?_
  unfold FX12_proofAt at h
  refine mx_aload_n (mx_d tX12_proofAt_0 0 rfl) rfl rfl ?_
  refine mx_iconst (0) (mx_d tX12_proofAt_0 1 rfl) (by decide) ?_
  obtain ⟨m1, e_m1, h⟩ := mx_letE h
  refine mx_putI (mx_d tX12_proofAt_0 2 rfl) fX12_1 rfl ⟨_, rfl, rfl⟩ rfl (ly12_o h0) (mx_eqz (z' := (e, m1)) (by rw [e_m1]) ?_)
  refine mx_aload_n (mx_d tX12_proofAt_0 3 rfl) rfl rfl ?_
  refine mx_getI (mx_d tX12_proofAt_0 4 rfl) fX12_142 rfl (Or.inl rfl) (ly12_o h0) ?_
  obtain rfl := Option.some.inj h
  exact mx_ireturn (mx_d tX12_proofAt_0 5 rfl) rfl ⟨rfl, rfl⟩
def FX12_proofBy (a : Nat) (m : mB) : Option (Int32 × mB) := mx_let (mx_up m.1 a 0 0, m.2) (fun m1 => (if (m1.1 a 32) = (-1) then Option.bind (FX12_refuse a m1) (fun r3 => (some (r3.1, r3.2))) else (some ((m1.1 a 33), m1))))
set_option maxRecDepth 20000 in
theorem CX12_proofBy {G : mG} {l : Launch} {e : mE} {a : Nat} {m : mB} {r : (Int32 × mB)} (h0 : ly12 e a) (h : FX12_proofBy a m = some r) : mx_Call G l MX12_proofBy 2 0 0 [.ref a] (e, m) (fun v z => v = some (.int r.1) ∧ z = (e, r.2)) := by
  refine mx_entry (L := [.ref a]) (by decide +kernel) (Nat.le_of_ble_eq_true rfl) rfl ?_
  unfold FX12_proofBy at h
  refine mx_aload_n (mx_d tX12_proofBy_0 0 rfl) rfl rfl ?_
  refine mx_iconst (0) (mx_d tX12_proofBy_0 1 rfl) (by decide) ?_
  obtain ⟨m1, e_m1, h⟩ := mx_letE h
  refine mx_putI (mx_d tX12_proofBy_0 2 rfl) fX12_1 rfl ⟨_, rfl, rfl⟩ rfl (ly12_o h0) (mx_eqz (z' := (e, m1)) (by rw [e_m1]) ?_)
  refine mx_aload_n (mx_d tX12_proofBy_0 3 rfl) rfl rfl ?_
  refine mx_getI (mx_d tX12_proofBy_0 4 rfl) fX12_142 rfl (Or.inl rfl) (ly12_o h0) ?_
  refine mx_iconst ((-1)) (mx_d tX12_proofBy_0 5 rfl) (by decide) ?_
  refine mx_icmp_ne (tgt := 20) (mx_d tX12_proofBy_0 6 rfl) (by decide) (fun hc2 => ?_) (fun hc2 => ?_)
  · rw [if_neg hc2] at h
    refine mx_aload_n (mx_d tX12_proofBy_0 10 rfl) rfl rfl ?_
    refine mx_getI (mx_d tX12_proofBy_0 11 rfl) fX12_362 rfl (Or.inl rfl) (ly12_o h0) ?_
    obtain rfl := Option.some.inj h
    exact mx_ireturn (mx_d tX12_proofBy_0 12 rfl) rfl ⟨rfl, rfl⟩
  · rw [if_pos hc2] at h
    refine mx_aload_n (mx_d tX12_proofBy_0 7 rfl) rfl rfl ?_
    obtain ⟨r3, h_r3, h⟩ := Option.bind_eq_some_iff.mp h
    refine mx_cVi (mx_d tX12_proofBy_0 8 rfl) iX12_272 rfl vX12_refuse ⟨_, rfl, rfl⟩ (ly12_o h0) (CX12_refuse h0 h_r3) (by decide) rfl rfl (Nat.le_of_ble_eq_true rfl) ?_
    refine mx_goto (tgt := 24) (mx_d tX12_proofBy_0 9 rfl) (by decide) ?_
    obtain rfl := Option.some.inj h
    exact mx_ireturn (mx_d tX12_proofBy_0 12 rfl) rfl ⟨rfl, rfl⟩
def FX12_room_L28 (q0 : Nat) (y1 : Int32) (m : mB) : Nat → Int32 → Int32 → Option (Int32)
  | 0, _, _ => none
  | f + 1, y2, y3 => (if (m.1 (q0 + 2) 1) ≤ y3 then (some (y2)) else Option.bind (FX12_isAt q0 y3 y1 m) (fun r7 => (if r7 = 0 then mx_let (y3 + 1) (fun v9 => (FX12_room_L28 q0 y1 m f y2 v9)) else Option.bind (FX12_slackOf q0 y3 m) (fun r10 => (if y2 ≤ r10 then mx_let (y3 + 1) (fun v12 => (FX12_room_L28 q0 y1 m f y2 v12)) else Option.bind (FX12_slackOf q0 y3 m) (fun r13 => mx_let (y3 + 1) (fun v14 => (FX12_room_L28 q0 y1 m f r13 v14))))))))
set_option maxRecDepth 20000 in
theorem CX12_room_L28 {G : mG} {l : Launch} {e : mE} {Post : Option Value → mS → Prop} {q0 : Nat} {y1 : Int32} {m : mB} (g0 : ly12 e q0) : ∀ (f : Nat) {y2 : Int32} {y3 : Int32} {q : (Int32)}, FX12_room_L28 q0 y1 m f y2 y3 = some q → (mx_Fr G l MX12_room 3 0 0 Post 68 [.float 0, .float 0, .int q, .float 0] [] (e, m)) → mx_Fr G l MX12_room 3 0 0 Post 28 [.ref q0, .int y1, .int y2, .int y3] [] (e, m) := by
  intro f
  induction f with
  | zero => intro _ _ _ h; cases h
  | succ f ih =>
    intro y2 y3 q h hex
    rw [FX12_room_L28] at h
    refine mx_iload_n (mx_d tX12_room_0 18 rfl) rfl rfl ?_
    refine mx_aload_n (mx_d tX12_room_0 19 rfl) rfl rfl ?_
    refine mx_getR (mx_d tX12_room_0 20 rfl) fX12_98 rfl rfl (ly12_o g0) (ly12_r14 g0) ?_
    refine mx_iconst (1) (mx_d tX12_room_0 21 rfl) (by decide) ?_
    refine mx_ialoadC 1 (mx_d tX12_room_0 22 rfl) (ly12_s14 g0) (by decide) (mx_inbE (by decide)) ?_
    refine mx_icmp_ge (tgt := 68) (mx_d tX12_room_0 23 rfl) (by decide) (fun hc6 => ?_) (fun hc6 => ?_)
    · rw [if_pos hc6] at h
      obtain rfl := Option.some.inj h
      refine mx_forget (L' := [.float 0, .float 0, .int y2, .float 0]) ⟨rfl, trivial⟩ ?_
      exact hex
    · rw [if_neg hc6] at h
      refine mx_aload_n (mx_d tX12_room_0 24 rfl) rfl rfl ?_
      refine mx_iload_n (mx_d tX12_room_0 25 rfl) rfl rfl ?_
      refine mx_iload_n (mx_d tX12_room_0 26 rfl) rfl rfl ?_
      obtain ⟨r7, h_r7, h⟩ := Option.bind_eq_some_iff.mp h
      refine mx_cVi (mx_d tX12_room_0 27 rfl) iX12_266 rfl vX12_isAt ⟨_, rfl, rfl⟩ (ly12_o g0) (CX12_isAt g0 h_r7) (by decide) rfl rfl (Nat.le_of_ble_eq_true rfl) ?_
      refine mx_if_eq (tgt := 62) (mx_d tX12_room_0 28 rfl) (by decide) (fun hc8 => ?_) (fun hc8 => ?_)
      · rw [if_pos hc8] at h
        obtain ⟨v9, e_v9, h⟩ := mx_letE h
        refine mx_iinc v9 (L2 := [.ref q0, .int y1, .int y2, .int v9]) (mx_d tX12_room_0 38 rfl) rfl (by rw [e_v9]; rfl) (by decide) rfl ?_
        refine mx_goto (tgt := 28) (mx_d tX12_room_0 39 rfl) (by decide) ?_
        exact ih h hex
      · rw [if_neg hc8] at h
        refine mx_aload_n (mx_d tX12_room_0 29 rfl) rfl rfl ?_
        refine mx_iload_n (mx_d tX12_room_0 30 rfl) rfl rfl ?_
        obtain ⟨r10, h_r10, h⟩ := Option.bind_eq_some_iff.mp h
        refine mx_cVi (mx_d tX12_room_0 31 rfl) iX12_269 rfl vX12_slackOf ⟨_, rfl, rfl⟩ (ly12_o g0) (CX12_slackOf g0 h_r10) (by decide) rfl rfl (Nat.le_of_ble_eq_true rfl) ?_
        refine mx_iload_n (mx_d tX12_room_0 32 rfl) rfl rfl ?_
        refine mx_icmp_ge (tgt := 62) (mx_d tX12_room_0 33 rfl) (by decide) (fun hc11 => ?_) (fun hc11 => ?_)
        · rw [if_pos hc11] at h
          obtain ⟨v12, e_v12, h⟩ := mx_letE h
          refine mx_iinc v12 (L2 := [.ref q0, .int y1, .int y2, .int v12]) (mx_d tX12_room_0 38 rfl) rfl (by rw [e_v12]; rfl) (by decide) rfl ?_
          refine mx_goto (tgt := 28) (mx_d tX12_room_0 39 rfl) (by decide) ?_
          exact ih h hex
        · rw [if_neg hc11] at h
          refine mx_aload_n (mx_d tX12_room_0 34 rfl) rfl rfl ?_
          refine mx_iload_n (mx_d tX12_room_0 35 rfl) rfl rfl ?_
          obtain ⟨r13, h_r13, h⟩ := Option.bind_eq_some_iff.mp h
          refine mx_cVi (mx_d tX12_room_0 36 rfl) iX12_269 rfl vX12_slackOf ⟨_, rfl, rfl⟩ (ly12_o g0) (CX12_slackOf g0 h_r13) (by decide) rfl rfl (Nat.le_of_ble_eq_true rfl) ?_
          refine mx_istore_n (L2 := [.ref q0, .int y1, .int r13, .int y3]) (mx_d tX12_room_0 37 rfl) rfl (by decide) (by rfl) ?_
          obtain ⟨v14, e_v14, h⟩ := mx_letE h
          refine mx_iinc v14 (L2 := [.ref q0, .int y1, .int r13, .int v14]) (mx_d tX12_room_0 38 rfl) rfl (by rw [e_v14]; rfl) (by decide) rfl ?_
          refine mx_goto (tgt := 28) (mx_d tX12_room_0 39 rfl) (by decide) ?_
          exact ih h hex
def FX12_room (a : Nat) (x0 : Int32) (m : mB) : Option (Int32 × mB) := mx_let (mx_up m.1 a 0 0, m.2) (fun m1 => Option.bind (FX12_isPoint a x0 m1) (fun r2 => (if r2 = 0 then (some ((-1), m1)) else mx_chk (mx_inb (168 + x0) 432) (mx_let (m1.1 (a + 2) (Int32.toNatClampNeg (168 + x0))) (fun v5 => Option.bind (FX12_room_L28 a x0 m1 mx_FU v5 0) (fun q15 => (if 0 ≤ q15 then (some (q15, m1)) else (some (0, m1)))))))))
set_option maxRecDepth 20000 in
theorem CX12_room {G : mG} {l : Launch} {e : mE} {a : Nat} {x0 : Int32} {m : mB} {r : (Int32 × mB)} (h0 : ly12 e a) (h : FX12_room a x0 m = some r) : mx_Call G l MX12_room 3 0 0 [.ref a, .int x0] (e, m) (fun v z => v = some (.int r.1) ∧ z = (e, r.2)) := by
  refine mx_entry (L := [.ref a, .int x0, .float 0, .float 0]) (by decide +kernel) (Nat.le_of_ble_eq_true rfl) rfl ?_
  unfold FX12_room at h
  refine mx_aload_n (mx_d tX12_room_0 0 rfl) rfl rfl ?_
  refine mx_iconst (0) (mx_d tX12_room_0 1 rfl) (by decide) ?_
  obtain ⟨m1, e_m1, h⟩ := mx_letE h
  refine mx_putI (mx_d tX12_room_0 2 rfl) fX12_1 rfl ⟨_, rfl, rfl⟩ rfl (ly12_o h0) (mx_eqz (z' := (e, m1)) (by rw [e_m1]) ?_)
  refine mx_aload_n (mx_d tX12_room_0 3 rfl) rfl rfl ?_
  refine mx_iload_n (mx_d tX12_room_0 4 rfl) rfl rfl ?_
  obtain ⟨r2, h_r2, h⟩ := Option.bind_eq_some_iff.mp h
  refine mx_cVi (mx_d tX12_room_0 5 rfl) iX12_247 rfl vX12_isPoint ⟨_, rfl, rfl⟩ (ly12_o h0) (CX12_isPoint h0 h_r2) (by decide) rfl rfl (Nat.le_of_ble_eq_true rfl) ?_
  refine mx_if_ne (tgt := 15) (mx_d tX12_room_0 6 rfl) (by decide) (fun hc3 => ?_) (fun hc3 => ?_)
  · rw [if_neg hc3] at h
    refine mx_aload_n (mx_d tX12_room_0 9 rfl) rfl rfl ?_
    refine mx_getR (mx_d tX12_room_0 10 rfl) fX12_98 rfl rfl (ly12_o h0) (ly12_r14 h0) ?_
    refine mx_sipush (168) (mx_d tX12_room_0 11 rfl) (by decide) ?_
    refine mx_iload_n (mx_d tX12_room_0 12 rfl) rfl rfl ?_
    refine mx_iadd (mx_d tX12_room_0 13 rfl) ?_
    obtain ⟨hi4, h⟩ := mx_chkE h
    refine mx_iaload (mx_d tX12_room_0 14 rfl) (ly12_s14 h0) (mx_inbE hi4) ?_
    obtain ⟨v5, e_v5, h⟩ := mx_letE h
    refine mx_istore_n (L2 := [.ref a, .int x0, .int v5, .float 0]) (mx_d tX12_room_0 15 rfl) rfl (by decide) (by rw [e_v5]; rfl) ?_
    refine mx_iconst (0) (mx_d tX12_room_0 16 rfl) (by decide) ?_
    refine mx_istore_n (L2 := [.ref a, .int x0, .int v5, .int 0]) (mx_d tX12_room_0 17 rfl) rfl (by decide) (by rfl) ?_
    obtain ⟨q15, h_q15, h⟩ := Option.bind_eq_some_iff.mp h
    refine CX12_room_L28 h0 mx_FU h_q15 ?_
    refine mx_iload_n (mx_d tX12_room_0 40 rfl) rfl rfl ?_
    refine mx_if_ge (tgt := 76) (mx_d tX12_room_0 41 rfl) (by decide) (fun hc16 => ?_) (fun hc16 => ?_)
    · rw [if_pos hc16] at h
      refine mx_iload_n (mx_d tX12_room_0 44 rfl) rfl rfl ?_
      obtain rfl := Option.some.inj h
      exact mx_ireturn (mx_d tX12_room_0 45 rfl) rfl ⟨rfl, rfl⟩
    · rw [if_neg hc16] at h
      refine mx_iconst (0) (mx_d tX12_room_0 42 rfl) (by decide) ?_
      refine mx_goto (tgt := 77) (mx_d tX12_room_0 43 rfl) (by decide) ?_
      obtain rfl := Option.some.inj h
      exact mx_ireturn (mx_d tX12_room_0 45 rfl) rfl ⟨rfl, rfl⟩
  · rw [if_pos hc3] at h
    refine mx_iconst ((-1)) (mx_d tX12_room_0 7 rfl) (by decide) ?_
    obtain rfl := Option.some.inj h
    exact mx_ireturn (mx_d tX12_room_0 8 rfl) rfl ⟨rfl, rfl⟩
def FX12_best_L21 (q0 : Nat) : Nat → Int32 → mB → Option (mB)
  | 0, _, _ => none
  | f + 1, y1, m => (if (m.1 q0 45) ≤ y1 then (some (m)) else mx_chk (mx_inb y1 10) (mx_let (mx_up m.1 (q0 + 18) (Int32.toNatClampNeg y1) (m.1 (q0 + 17) (Int32.toNatClampNeg y1)), m.2) (fun m6 => mx_let (y1 + 1) (fun v7 => (FX12_best_L21 q0 f v7 m6)))))
set_option maxRecDepth 20000 in
theorem CX12_best_L21 {G : mG} {l : Launch} {e : mE} {Post : Option Value → mS → Prop} {q0 : Nat} (g0 : ly12 e q0) : ∀ (f : Nat) {y1 : Int32} {m : mB} {q : (mB)}, FX12_best_L21 q0 f y1 m = some q → (mx_Fr G l MX12_best 258 0 0 Post 47 [.ref q0, .float 0] [] (e, q)) → mx_Fr G l MX12_best 258 0 0 Post 21 [.ref q0, .int y1] [] (e, m) := by
  intro f
  induction f with
  | zero => intro _ _ _ h; cases h
  | succ f ih =>
    intro y1 m q h hex
    rw [FX12_best_L21] at h
    refine mx_iload_n (mx_d tX12_best_0 13 rfl) rfl rfl ?_
    refine mx_aload_n (mx_d tX12_best_0 14 rfl) rfl rfl ?_
    refine mx_getI (mx_d tX12_best_0 15 rfl) fX12_401 rfl (Or.inl rfl) (ly12_o g0) ?_
    refine mx_icmp_ge (tgt := 47) (mx_d tX12_best_0 16 rfl) (by decide) (fun hc4 => ?_) (fun hc4 => ?_)
    · rw [if_pos hc4] at h
      obtain rfl := Option.some.inj h
      refine mx_forget (L' := [.ref q0, .float 0]) ⟨rfl, trivial⟩ ?_
      exact hex
    · rw [if_neg hc4] at h
      refine mx_aload_n (mx_d tX12_best_0 17 rfl) rfl rfl ?_
      refine mx_getR (mx_d tX12_best_0 18 rfl) fX12_151 rfl rfl (ly12_o g0) (ly12_r36 g0) ?_
      refine mx_iload_n (mx_d tX12_best_0 19 rfl) rfl rfl ?_
      refine mx_aload_n (mx_d tX12_best_0 20 rfl) rfl rfl ?_
      refine mx_getR (mx_d tX12_best_0 21 rfl) fX12_148 rfl rfl (ly12_o g0) (ly12_r35 g0) ?_
      refine mx_iload_n (mx_d tX12_best_0 22 rfl) rfl rfl ?_
      obtain ⟨hi5, h⟩ := mx_chkE h
      refine mx_iaload (mx_d tX12_best_0 23 rfl) (ly12_s35 g0) (mx_inbE hi5) ?_
      obtain ⟨m6, e_m6, h⟩ := mx_letE h
      refine mx_iastore (mx_d tX12_best_0 24 rfl) (ly12_s36 g0) (mx_inbE hi5) (mx_eqz (z' := (e, m6)) (by rw [e_m6]) ?_)
      obtain ⟨v7, e_v7, h⟩ := mx_letE h
      refine mx_iinc v7 (L2 := [.ref q0, .int v7]) (mx_d tX12_best_0 25 rfl) rfl (by rw [e_v7]; rfl) (by decide) rfl ?_
      refine mx_goto (tgt := 21) (mx_d tX12_best_0 26 rfl) (by decide) ?_
      exact ih h hex
def FX12_best (a : Nat) (m : mB) : Option (Int32 × mB) := mx_let (mx_up m.1 a 0 0, m.2) (fun m1 => Option.bind (FX12_survey a m1) (fun r2 => mx_let (mx_up r2.1 a 45 (r2.1 (a + 2) 0), r2.2) (fun m3 => Option.bind (FX12_best_L21 a mx_FU 0 m3) (fun q8 => (some ((q8.1 a 41), q8))))))
set_option maxRecDepth 20000 in
theorem CX12_best {G : mG} {l : Launch} {e : mE} {a : Nat} {m : mB} {r : (Int32 × mB)} (h0 : ly12 e a) (h : FX12_best a m = some r) : mx_Call G l MX12_best 258 0 0 [.ref a] (e, m) (fun v z => v = some (.int r.1) ∧ z = (e, r.2)) := by
  refine mx_entry (L := [.ref a, .float 0]) (by decide +kernel) (Nat.le_of_ble_eq_true rfl) rfl ?_
  unfold FX12_best at h
  refine mx_aload_n (mx_d tX12_best_0 0 rfl) rfl rfl ?_
  refine mx_iconst (0) (mx_d tX12_best_0 1 rfl) (by decide) ?_
  obtain ⟨m1, e_m1, h⟩ := mx_letE h
  refine mx_putI (mx_d tX12_best_0 2 rfl) fX12_1 rfl ⟨_, rfl, rfl⟩ rfl (ly12_o h0) (mx_eqz (z' := (e, m1)) (by rw [e_m1]) ?_)
  refine mx_aload_n (mx_d tX12_best_0 3 rfl) rfl rfl ?_
  obtain ⟨r2, h_r2, h⟩ := Option.bind_eq_some_iff.mp h
  refine mx_cVv (mx_d tX12_best_0 4 rfl) iX12_395 rfl vX12_survey ⟨_, rfl, rfl⟩ (ly12_o h0) (CX12_survey h0 h_r2) (by decide) rfl rfl (Nat.le_of_ble_eq_true rfl) ?_
  refine mx_aload_n (mx_d tX12_best_0 5 rfl) rfl rfl ?_
  refine mx_aload_n (mx_d tX12_best_0 6 rfl) rfl rfl ?_
  refine mx_getR (mx_d tX12_best_0 7 rfl) fX12_98 rfl rfl (ly12_o h0) (ly12_r14 h0) ?_
  refine mx_iconst (0) (mx_d tX12_best_0 8 rfl) (by decide) ?_
  refine mx_ialoadC 0 (mx_d tX12_best_0 9 rfl) (ly12_s14 h0) (by decide) (mx_inbE (by decide)) ?_
  obtain ⟨m3, e_m3, h⟩ := mx_letE h
  refine mx_putI (mx_d tX12_best_0 10 rfl) fX12_401 rfl ⟨_, rfl, rfl⟩ rfl (ly12_o h0) (mx_eqz (z' := (e, m3)) (by rw [e_m3]) ?_)
  refine mx_iconst (0) (mx_d tX12_best_0 11 rfl) (by decide) ?_
  refine mx_istore_n (L2 := [.ref a, .int 0]) (mx_d tX12_best_0 12 rfl) rfl (by decide) (by rfl) ?_
  obtain ⟨q8, h_q8, h⟩ := Option.bind_eq_some_iff.mp h
  refine CX12_best_L21 h0 mx_FU h_q8 ?_
  refine mx_aload_n (mx_d tX12_best_0 27 rfl) rfl rfl ?_
  refine mx_getI (mx_d tX12_best_0 28 rfl) fX12_369 rfl (Or.inl rfl) (ly12_o h0) ?_
  obtain rfl := Option.some.inj h
  exact mx_ireturn (mx_d tX12_best_0 29 rfl) rfl ⟨rfl, rfl⟩
def FX12_bestOf (a : Nat) (x0 : Int32) (m : mB) : Option (Int32 × mB) := mx_let (mx_up m.1 a 0 0, m.2) (fun m1 => Option.bind (FX12_isIn x0 0 ((m1.1 a 45) - 1) m1) (fun r2 => (if r2 = 0 then (some ((-1), m1)) else mx_chk (mx_inb x0 10) ((some ((m1.1 (a + 18) (Int32.toNatClampNeg x0)), m1))))))
set_option maxRecDepth 20000 in
theorem CX12_bestOf {G : mG} {l : Launch} {e : mE} {a : Nat} {x0 : Int32} {m : mB} {r : (Int32 × mB)} (h0 : ly12 e a) (h : FX12_bestOf a x0 m = some r) : mx_Call G l MX12_bestOf 2 0 0 [.ref a, .int x0] (e, m) (fun v z => v = some (.int r.1) ∧ z = (e, r.2)) := by
  refine mx_entry (L := [.ref a, .int x0]) (by decide +kernel) (Nat.le_of_ble_eq_true rfl) rfl ?_
  unfold FX12_bestOf at h
  refine mx_aload_n (mx_d tX12_bestOf_0 0 rfl) rfl rfl ?_
  refine mx_iconst (0) (mx_d tX12_bestOf_0 1 rfl) (by decide) ?_
  obtain ⟨m1, e_m1, h⟩ := mx_letE h
  refine mx_putI (mx_d tX12_bestOf_0 2 rfl) fX12_1 rfl ⟨_, rfl, rfl⟩ rfl (ly12_o h0) (mx_eqz (z' := (e, m1)) (by rw [e_m1]) ?_)
  refine mx_iload_n (mx_d tX12_bestOf_0 3 rfl) rfl rfl ?_
  refine mx_iconst (0) (mx_d tX12_bestOf_0 4 rfl) (by decide) ?_
  refine mx_aload_n (mx_d tX12_bestOf_0 5 rfl) rfl rfl ?_
  refine mx_getI (mx_d tX12_bestOf_0 6 rfl) fX12_401 rfl (Or.inl rfl) (ly12_o h0) ?_
  refine mx_iconst (1) (mx_d tX12_bestOf_0 7 rfl) (by decide) ?_
  refine mx_isub (mx_d tX12_bestOf_0 8 rfl) ?_
  obtain ⟨r2, h_r2, h⟩ := Option.bind_eq_some_iff.mp h
  refine mx_cSi (mx_d tX12_bestOf_0 9 rfl) iX12_75 rfl sX12_isIn (CX12_isIn  h_r2) (by decide) rfl rfl (Nat.le_of_ble_eq_true rfl) ?_
  refine mx_if_eq (tgt := 28) (mx_d tX12_bestOf_0 10 rfl) (by decide) (fun hc3 => ?_) (fun hc3 => ?_)
  · rw [if_pos hc3] at h
    refine mx_iconst ((-1)) (mx_d tX12_bestOf_0 16 rfl) (by decide) ?_
    obtain rfl := Option.some.inj h
    exact mx_ireturn (mx_d tX12_bestOf_0 17 rfl) rfl ⟨rfl, rfl⟩
  · rw [if_neg hc3] at h
    refine mx_aload_n (mx_d tX12_bestOf_0 11 rfl) rfl rfl ?_
    refine mx_getR (mx_d tX12_bestOf_0 12 rfl) fX12_151 rfl rfl (ly12_o h0) (ly12_r36 h0) ?_
    refine mx_iload_n (mx_d tX12_bestOf_0 13 rfl) rfl rfl ?_
    obtain ⟨hi4, h⟩ := mx_chkE h
    refine mx_iaload (mx_d tX12_bestOf_0 14 rfl) (ly12_s36 h0) (mx_inbE hi4) ?_
    refine mx_goto (tgt := 29) (mx_d tX12_bestOf_0 15 rfl) (by decide) ?_
    obtain rfl := Option.some.inj h
    exact mx_ireturn (mx_d tX12_bestOf_0 17 rfl) rfl ⟨rfl, rfl⟩
def FX12_next (a : Nat) (m : mB) : Option (Int32 × mB) := mx_let (mx_up m.1 a 0 0, m.2) (fun m1 => mx_let (mx_up m1.1 a 47 0, m1.2) (fun m2 => Option.bind (FX12_surveyMost a m2) (fun r3 => (some ((r3.1 a 42), r3)))))
set_option maxRecDepth 20000 in
theorem CX12_next {G : mG} {l : Launch} {e : mE} {a : Nat} {m : mB} {r : (Int32 × mB)} (h0 : ly12 e a) (h : FX12_next a m = some r) : mx_Call G l MX12_next 259 0 0 [.ref a] (e, m) (fun v z => v = some (.int r.1) ∧ z = (e, r.2)) := by
  refine mx_entry (L := [.ref a]) (by decide +kernel) (Nat.le_of_ble_eq_true rfl) rfl ?_
  unfold FX12_next at h
  refine mx_aload_n (mx_d tX12_next_0 0 rfl) rfl rfl ?_
  refine mx_iconst (0) (mx_d tX12_next_0 1 rfl) (by decide) ?_
  obtain ⟨m1, e_m1, h⟩ := mx_letE h
  refine mx_putI (mx_d tX12_next_0 2 rfl) fX12_1 rfl ⟨_, rfl, rfl⟩ rfl (ly12_o h0) (mx_eqz (z' := (e, m1)) (by rw [e_m1]) ?_)
  refine mx_aload_n (mx_d tX12_next_0 3 rfl) rfl rfl ?_
  refine mx_iconst (0) (mx_d tX12_next_0 4 rfl) (by decide) ?_
  obtain ⟨m2, e_m2, h⟩ := mx_letE h
  refine mx_putI (mx_d tX12_next_0 5 rfl) fX12_392 rfl ⟨_, rfl, rfl⟩ rfl (ly12_o h0) (mx_eqz (z' := (e, m2)) (by rw [e_m2]) ?_)
  refine mx_aload_n (mx_d tX12_next_0 6 rfl) rfl rfl ?_
  obtain ⟨r3, h_r3, h⟩ := Option.bind_eq_some_iff.mp h
  refine mx_cVv (mx_d tX12_next_0 7 rfl) iX12_398 rfl vX12_surveyMost ⟨_, rfl, rfl⟩ (ly12_o h0) (CX12_surveyMost h0 h_r3) (by decide) rfl rfl (Nat.le_of_ble_eq_true rfl) ?_
  refine mx_aload_n (mx_d tX12_next_0 8 rfl) rfl rfl ?_
  refine mx_getI (mx_d tX12_next_0 9 rfl) fX12_372 rfl (Or.inl rfl) (ly12_o h0) ?_
  obtain rfl := Option.some.inj h
  exact mx_ireturn (mx_d tX12_next_0 10 rfl) rfl ⟨rfl, rfl⟩
def FX12_heavy (a : Nat) (x0 : Int32) (m : mB) : Option (Int32 × mB) := mx_let (mx_up m.1 a 0 0, m.2) (fun m1 => Option.bind (FX12_isIn x0 0 5 m1) (fun r2 => (if r2 = 0 then (some ((-1), m1)) else Option.bind (FX12_survey a m1) (fun r4 => mx_chk (mx_inb x0 6) ((some ((r4.1 (a + 19) (Int32.toNatClampNeg x0)), r4)))))))
set_option maxRecDepth 20000 in
theorem CX12_heavy {G : mG} {l : Launch} {e : mE} {a : Nat} {x0 : Int32} {m : mB} {r : (Int32 × mB)} (h0 : ly12 e a) (h : FX12_heavy a x0 m = some r) : mx_Call G l MX12_heavy 258 0 0 [.ref a, .int x0] (e, m) (fun v z => v = some (.int r.1) ∧ z = (e, r.2)) := by
  refine mx_entry (L := [.ref a, .int x0]) (by decide +kernel) (Nat.le_of_ble_eq_true rfl) rfl ?_
  unfold FX12_heavy at h
  refine mx_aload_n (mx_d tX12_heavy_0 0 rfl) rfl rfl ?_
  refine mx_iconst (0) (mx_d tX12_heavy_0 1 rfl) (by decide) ?_
  obtain ⟨m1, e_m1, h⟩ := mx_letE h
  refine mx_putI (mx_d tX12_heavy_0 2 rfl) fX12_1 rfl ⟨_, rfl, rfl⟩ rfl (ly12_o h0) (mx_eqz (z' := (e, m1)) (by rw [e_m1]) ?_)
  refine mx_iload_n (mx_d tX12_heavy_0 3 rfl) rfl rfl ?_
  refine mx_iconst (0) (mx_d tX12_heavy_0 4 rfl) (by decide) ?_
  refine mx_iconst (5) (mx_d tX12_heavy_0 5 rfl) (by decide) ?_
  obtain ⟨r2, h_r2, h⟩ := Option.bind_eq_some_iff.mp h
  refine mx_cSi (mx_d tX12_heavy_0 6 rfl) iX12_75 rfl sX12_isIn (CX12_isIn  h_r2) (by decide) rfl rfl (Nat.le_of_ble_eq_true rfl) ?_
  refine mx_if_ne (tgt := 16) (mx_d tX12_heavy_0 7 rfl) (by decide) (fun hc3 => ?_) (fun hc3 => ?_)
  · rw [if_neg hc3] at h
    refine mx_aload_n (mx_d tX12_heavy_0 10 rfl) rfl rfl ?_
    obtain ⟨r4, h_r4, h⟩ := Option.bind_eq_some_iff.mp h
    refine mx_cVv (mx_d tX12_heavy_0 11 rfl) iX12_395 rfl vX12_survey ⟨_, rfl, rfl⟩ (ly12_o h0) (CX12_survey h0 h_r4) (by decide) rfl rfl (Nat.le_of_ble_eq_true rfl) ?_
    refine mx_aload_n (mx_d tX12_heavy_0 12 rfl) rfl rfl ?_
    refine mx_getR (mx_d tX12_heavy_0 13 rfl) fX12_154 rfl rfl (ly12_o h0) (ly12_r37 h0) ?_
    refine mx_iload_n (mx_d tX12_heavy_0 14 rfl) rfl rfl ?_
    obtain ⟨hi5, h⟩ := mx_chkE h
    refine mx_iaload (mx_d tX12_heavy_0 15 rfl) (ly12_s37 h0) (mx_inbE hi5) ?_
    obtain rfl := Option.some.inj h
    exact mx_ireturn (mx_d tX12_heavy_0 16 rfl) rfl ⟨rfl, rfl⟩
  · rw [if_pos hc3] at h
    refine mx_iconst ((-1)) (mx_d tX12_heavy_0 8 rfl) (by decide) ?_
    obtain rfl := Option.some.inj h
    exact mx_ireturn (mx_d tX12_heavy_0 9 rfl) rfl ⟨rfl, rfl⟩
def FX12_ways (a : Nat) (x0 : Int32) (m : mB) : Option (Int32 × mB) := mx_let (mx_up m.1 a 0 0, m.2) (fun m1 => Option.bind (FX12_isIn x0 0 5 m1) (fun r2 => (if r2 = 0 then (some (0, m1)) else Option.bind (FX12_survey a m1) (fun r4 => mx_chk (mx_inb x0 6) ((some ((r4.1 (a + 20) (Int32.toNatClampNeg x0)), r4)))))))
set_option maxRecDepth 20000 in
theorem CX12_ways {G : mG} {l : Launch} {e : mE} {a : Nat} {x0 : Int32} {m : mB} {r : (Int32 × mB)} (h0 : ly12 e a) (h : FX12_ways a x0 m = some r) : mx_Call G l MX12_ways 258 0 0 [.ref a, .int x0] (e, m) (fun v z => v = some (.int r.1) ∧ z = (e, r.2)) := by
  refine mx_entry (L := [.ref a, .int x0]) (by decide +kernel) (Nat.le_of_ble_eq_true rfl) rfl ?_
  unfold FX12_ways at h
  refine mx_aload_n (mx_d tX12_ways_0 0 rfl) rfl rfl ?_
  refine mx_iconst (0) (mx_d tX12_ways_0 1 rfl) (by decide) ?_
  obtain ⟨m1, e_m1, h⟩ := mx_letE h
  refine mx_putI (mx_d tX12_ways_0 2 rfl) fX12_1 rfl ⟨_, rfl, rfl⟩ rfl (ly12_o h0) (mx_eqz (z' := (e, m1)) (by rw [e_m1]) ?_)
  refine mx_iload_n (mx_d tX12_ways_0 3 rfl) rfl rfl ?_
  refine mx_iconst (0) (mx_d tX12_ways_0 4 rfl) (by decide) ?_
  refine mx_iconst (5) (mx_d tX12_ways_0 5 rfl) (by decide) ?_
  obtain ⟨r2, h_r2, h⟩ := Option.bind_eq_some_iff.mp h
  refine mx_cSi (mx_d tX12_ways_0 6 rfl) iX12_75 rfl sX12_isIn (CX12_isIn  h_r2) (by decide) rfl rfl (Nat.le_of_ble_eq_true rfl) ?_
  refine mx_if_ne (tgt := 16) (mx_d tX12_ways_0 7 rfl) (by decide) (fun hc3 => ?_) (fun hc3 => ?_)
  · rw [if_neg hc3] at h
    refine mx_aload_n (mx_d tX12_ways_0 10 rfl) rfl rfl ?_
    obtain ⟨r4, h_r4, h⟩ := Option.bind_eq_some_iff.mp h
    refine mx_cVv (mx_d tX12_ways_0 11 rfl) iX12_395 rfl vX12_survey ⟨_, rfl, rfl⟩ (ly12_o h0) (CX12_survey h0 h_r4) (by decide) rfl rfl (Nat.le_of_ble_eq_true rfl) ?_
    refine mx_aload_n (mx_d tX12_ways_0 12 rfl) rfl rfl ?_
    refine mx_getR (mx_d tX12_ways_0 13 rfl) fX12_157 rfl rfl (ly12_o h0) (ly12_r38 h0) ?_
    refine mx_iload_n (mx_d tX12_ways_0 14 rfl) rfl rfl ?_
    obtain ⟨hi5, h⟩ := mx_chkE h
    refine mx_iaload (mx_d tX12_ways_0 15 rfl) (ly12_s38 h0) (mx_inbE hi5) ?_
    obtain rfl := Option.some.inj h
    exact mx_ireturn (mx_d tX12_ways_0 16 rfl) rfl ⟨rfl, rfl⟩
  · rw [if_pos hc3] at h
    refine mx_iconst (0) (mx_d tX12_ways_0 8 rfl) (by decide) ?_
    obtain rfl := Option.some.inj h
    exact mx_ireturn (mx_d tX12_ways_0 9 rfl) rfl ⟨rfl, rfl⟩
def FX12_who_L32 (q0 : Nat) (y1 : Int32) (m : mB) : Nat → Int32 → Option ((Int32 × mB) ⊕ (Unit))
  | 0, _ => none
  | f + 1, y2 => (if y1 ≤ y2 then (some (.inr ())) else mx_chk (mx_inb y2 940) (Option.bind (FX12_isPoint q0 (m.1 (q0 + 1) (Int32.toNatClampNeg y2)) m) (fun r8 => (if r8 = 0 then (some (.inl ((-1), m))) else mx_chk (mx_inb (y2 + 1) 940) (Option.bind (FX12_isPoint q0 (m.1 (q0 + 1) (Int32.toNatClampNeg (y2 + 1))) m) (fun r11 => (if r11 = 0 then (if (m.1 (q0 + 1) (Int32.toNatClampNeg (y2 + 1))) = 255 then mx_let (y2 + 2) (fun v15 => (FX12_who_L32 q0 y1 m f v15)) else (some (.inl ((-1), m)))) else mx_let (y2 + 2) (fun v13 => (FX12_who_L32 q0 y1 m f v13)))))))))
set_option maxRecDepth 20000 in
theorem CX12_who_L32 {G : mG} {l : Launch} {e : mE} {Post : Option Value → mS → Prop} {q0 : Nat} {y1 : Int32} {m : mB} (g0 : ly12 e q0) : ∀ (f : Nat) {y2 : Int32} {q : ((Int32 × mB) ⊕ (Unit))}, FX12_who_L32 q0 y1 m f y2 = some q → (∀ rr, q = .inl rr → Post (some (.int rr.1)) (e, rr.2)) → (∀ u, q = .inr u → mx_Fr G l MX12_who 259 0 0 Post 87 [.ref q0, .int y1, .float 0, .float 0, .float 0, .float 0] [] (e, m)) → mx_Fr G l MX12_who 259 0 0 Post 32 [.ref q0, .int y1, .int y2, .float 0, .float 0, .float 0] [] (e, m) := by
  intro f
  induction f with
  | zero => intro _ _ h; cases h
  | succ f ih =>
    intro y2 q h hret hex
    rw [FX12_who_L32] at h
    refine mx_iload_n (mx_d tX12_who_0 21 rfl) rfl rfl ?_
    refine mx_iload_n (mx_d tX12_who_0 22 rfl) rfl rfl ?_
    refine mx_icmp_ge (tgt := 87) (mx_d tX12_who_0 23 rfl) (by decide) (fun hc6 => ?_) (fun hc6 => ?_)
    · rw [if_pos hc6] at h
      obtain rfl := Option.some.inj h
      refine mx_forget (L' := [.ref q0, .int y1, .float 0, .float 0, .float 0, .float 0]) ⟨rfl, rfl, trivial⟩ ?_
      exact (hex _ rfl)
    · rw [if_neg hc6] at h
      refine mx_aload_n (mx_d tX12_who_0 24 rfl) rfl rfl ?_
      refine mx_aload_n (mx_d tX12_who_0 25 rfl) rfl rfl ?_
      refine mx_getR (mx_d tX12_who_0 26 rfl) fX12_7 rfl rfl (ly12_o g0) (ly12_r1 g0) ?_
      refine mx_iload_n (mx_d tX12_who_0 27 rfl) rfl rfl ?_
      obtain ⟨hi7, h⟩ := mx_chkE h
      refine mx_iaload (mx_d tX12_who_0 28 rfl) (ly12_s1 g0) (mx_inbE hi7) ?_
      obtain ⟨r8, h_r8, h⟩ := Option.bind_eq_some_iff.mp h
      refine mx_cVi (mx_d tX12_who_0 29 rfl) iX12_247 rfl vX12_isPoint ⟨_, rfl, rfl⟩ (ly12_o g0) (CX12_isPoint g0 h_r8) (by decide) rfl rfl (Nat.le_of_ble_eq_true rfl) ?_
      refine mx_if_eq (tgt := 79) (mx_d tX12_who_0 30 rfl) (by decide) (fun hc9 => ?_) (fun hc9 => ?_)
      · rw [if_pos hc9] at h
        refine mx_iconst ((-1)) (mx_d tX12_who_0 48 rfl) (by decide) ?_
        obtain rfl := Option.some.inj h
        exact mx_ireturn (mx_d tX12_who_0 49 rfl) rfl (hret ((-1), m) rfl)
      · rw [if_neg hc9] at h
        refine mx_aload_n (mx_d tX12_who_0 31 rfl) rfl rfl ?_
        refine mx_aload_n (mx_d tX12_who_0 32 rfl) rfl rfl ?_
        refine mx_getR (mx_d tX12_who_0 33 rfl) fX12_7 rfl rfl (ly12_o g0) (ly12_r1 g0) ?_
        refine mx_iload_n (mx_d tX12_who_0 34 rfl) rfl rfl ?_
        refine mx_iconst (1) (mx_d tX12_who_0 35 rfl) (by decide) ?_
        refine mx_iadd (mx_d tX12_who_0 36 rfl) ?_
        obtain ⟨hi10, h⟩ := mx_chkE h
        refine mx_iaload (mx_d tX12_who_0 37 rfl) (ly12_s1 g0) (mx_inbE hi10) ?_
        obtain ⟨r11, h_r11, h⟩ := Option.bind_eq_some_iff.mp h
        refine mx_cVi (mx_d tX12_who_0 38 rfl) iX12_247 rfl vX12_isPoint ⟨_, rfl, rfl⟩ (ly12_o g0) (CX12_isPoint g0 h_r11) (by decide) rfl rfl (Nat.le_of_ble_eq_true rfl) ?_
        refine mx_if_ne (tgt := 81) (mx_d tX12_who_0 39 rfl) (by decide) (fun hc12 => ?_) (fun hc12 => ?_)
        · rw [if_neg hc12] at h
          obtain ⟨v13, e_v13, h⟩ := mx_letE h
          refine mx_iinc v13 (L2 := [.ref q0, .int y1, .int v13, .float 0, .float 0, .float 0]) (mx_d tX12_who_0 50 rfl) rfl (by rw [e_v13]; rfl) (by decide) rfl ?_
          refine mx_goto (tgt := 32) (mx_d tX12_who_0 51 rfl) (by decide) ?_
          exact ih h hret hex
        · rw [if_pos hc12] at h
          refine mx_aload_n (mx_d tX12_who_0 40 rfl) rfl rfl ?_
          refine mx_getR (mx_d tX12_who_0 41 rfl) fX12_7 rfl rfl (ly12_o g0) (ly12_r1 g0) ?_
          refine mx_iload_n (mx_d tX12_who_0 42 rfl) rfl rfl ?_
          refine mx_iconst (1) (mx_d tX12_who_0 43 rfl) (by decide) ?_
          refine mx_iadd (mx_d tX12_who_0 44 rfl) ?_
          refine mx_iaload (mx_d tX12_who_0 45 rfl) (ly12_s1 g0) (mx_inbE hi10) ?_
          refine mx_sipush (255) (mx_d tX12_who_0 46 rfl) (by decide) ?_
          refine mx_icmp_eq (tgt := 81) (mx_d tX12_who_0 47 rfl) (by decide) (fun hc14 => ?_) (fun hc14 => ?_)
          · rw [if_pos hc14] at h
            obtain ⟨v15, e_v15, h⟩ := mx_letE h
            refine mx_iinc v15 (L2 := [.ref q0, .int y1, .int v15, .float 0, .float 0, .float 0]) (mx_d tX12_who_0 50 rfl) rfl (by rw [e_v15]; rfl) (by decide) rfl ?_
            refine mx_goto (tgt := 32) (mx_d tX12_who_0 51 rfl) (by decide) ?_
            exact ih h hret hex
          · rw [if_neg hc14] at h
            refine mx_iconst ((-1)) (mx_d tX12_who_0 48 rfl) (by decide) ?_
            obtain rfl := Option.some.inj h
            exact mx_ireturn (mx_d tX12_who_0 49 rfl) rfl (hret ((-1), m) rfl)
def FX12_who_L125 (q0 : Nat) (y2 : Int32) (y3 : Int32) (m : mB) : Nat → Int32 → Int32 → Option (Int32)
  | 0, _, _ => none
  | f + 1, y4, y5 => (if 11 ≤ y5 then (some (y4)) else mx_chk (mx_inb ((11 * y3) + y5) 110) ((if (m.1 (q0 + 22) (Int32.toNatClampNeg ((11 * y3) + y5))) ≤ y4 then mx_let (y5 + 1) (fun v26 => (FX12_who_L125 q0 y2 y3 m f y4 v26)) else mx_let (m.1 (q0 + 22) (Int32.toNatClampNeg ((11 * y3) + y5))) (fun v27 => mx_let (y5 + 1) (fun v28 => (FX12_who_L125 q0 y2 y3 m f v27 v28))))))
set_option maxRecDepth 20000 in
theorem CX12_who_L125 {G : mG} {l : Launch} {e : mE} {Post : Option Value → mS → Prop} {q0 : Nat} {y2 : Int32} {y3 : Int32} {m : mB} (g0 : ly12 e q0) : ∀ (f : Nat) {y4 : Int32} {y5 : Int32} {q : (Int32)}, FX12_who_L125 q0 y2 y3 m f y4 y5 = some q → (mx_Fr G l MX12_who 259 0 0 Post 169 [.ref q0, .float 0, .int y2, .int y3, .int q, .float 0] [] (e, m)) → mx_Fr G l MX12_who 259 0 0 Post 125 [.ref q0, .float 0, .int y2, .int y3, .int y4, .int y5] [] (e, m) := by
  intro f
  induction f with
  | zero => intro _ _ _ h; cases h
  | succ f ih =>
    intro y4 y5 q h hex
    rw [FX12_who_L125] at h
    refine mx_iload (mx_d tX12_who_1 16 rfl) rfl ?_
    refine mx_bipush (11) (mx_d tX12_who_1 17 rfl) (by decide) ?_
    refine mx_icmp_ge (tgt := 169) (mx_d tX12_who_1 18 rfl) (by decide) (fun hc23 => ?_) (fun hc23 => ?_)
    · rw [if_pos hc23] at h
      obtain rfl := Option.some.inj h
      refine mx_forget (L' := [.ref q0, .float 0, .int y2, .int y3, .int y4, .float 0]) ⟨rfl, rfl, rfl, rfl, trivial⟩ ?_
      exact hex
    · rw [if_neg hc23] at h
      refine mx_aload_n (mx_d tX12_who_1 19 rfl) rfl rfl ?_
      refine mx_getR (mx_d tX12_who_1 20 rfl) fX12_163 rfl rfl (ly12_o g0) (ly12_r40 g0) ?_
      refine mx_bipush (11) (mx_d tX12_who_1 21 rfl) (by decide) ?_
      refine mx_iload_n (mx_d tX12_who_1 22 rfl) rfl rfl ?_
      refine mx_imul (mx_d tX12_who_1 23 rfl) ?_
      refine mx_iload (mx_d tX12_who_1 24 rfl) rfl ?_
      refine mx_iadd (mx_d tX12_who_1 25 rfl) ?_
      obtain ⟨hi24, h⟩ := mx_chkE h
      refine mx_iaload (mx_d tX12_who_1 26 rfl) (ly12_s40 g0) (mx_inbE hi24) ?_
      refine mx_iload (mx_d tX12_who_1 27 rfl) rfl ?_
      refine mx_icmp_le (tgt := 163) (mx_d tX12_who_1 28 rfl) (by decide) (fun hc25 => ?_) (fun hc25 => ?_)
      · rw [if_pos hc25] at h
        obtain ⟨v26, e_v26, h⟩ := mx_letE h
        refine mx_iinc v26 (L2 := [.ref q0, .float 0, .int y2, .int y3, .int y4, .int v26]) (mx_d tX12_who_1 38 rfl) rfl (by rw [e_v26]; rfl) (by decide) rfl ?_
        refine mx_goto (tgt := 125) (mx_d tX12_who_1 39 rfl) (by decide) ?_
        exact ih h hex
      · rw [if_neg hc25] at h
        refine mx_aload_n (mx_d tX12_who_1 29 rfl) rfl rfl ?_
        refine mx_getR (mx_d tX12_who_1 30 rfl) fX12_163 rfl rfl (ly12_o g0) (ly12_r40 g0) ?_
        refine mx_bipush (11) (mx_d tX12_who_1 31 rfl) (by decide) ?_
        refine mx_iload_n (mx_d tX12_who_1 32 rfl) rfl rfl ?_
        refine mx_imul (mx_d tX12_who_1 33 rfl) ?_
        refine mx_iload (mx_d tX12_who_1 34 rfl) rfl ?_
        refine mx_iadd (mx_d tX12_who_1 35 rfl) ?_
        refine mx_iaload (mx_d tX12_who_1 36 rfl) (ly12_s40 g0) (mx_inbE hi24) ?_
        obtain ⟨v27, e_v27, h⟩ := mx_letE h
        refine mx_istore (L2 := [.ref q0, .float 0, .int y2, .int y3, .int v27, .int y5]) (mx_d tX12_who_1 37 rfl) (by decide) (by rw [e_v27]; rfl) ?_
        obtain ⟨v28, e_v28, h⟩ := mx_letE h
        refine mx_iinc v28 (L2 := [.ref q0, .float 0, .int y2, .int y3, .int v27, .int v28]) (mx_d tX12_who_1 38 rfl) rfl (by rw [e_v28]; rfl) (by decide) rfl ?_
        refine mx_goto (tgt := 125) (mx_d tX12_who_1 39 rfl) (by decide) ?_
        exact ih h hex
def FX12_who_L109 (q0 : Nat) : Nat → Int32 → Int32 → mB → Option (mB)
  | 0, _, _, _ => none
  | f + 1, y2, y3, m => (if (m.1 (q0 + 2) 0) ≤ y3 then (some (m)) else Option.bind (FX12_who_L125 q0 y2 y3 m mx_FU 0 0) (fun q29 => (if y3 ≤ 0 then mx_let (mx_up m.1 q0 48 y3, m.2) (fun m31 => mx_let (y3 + 1) (fun v32 => (FX12_who_L109 q0 f q29 v32 m31))) else (if q29 < y2 then mx_let (mx_up m.1 q0 48 y3, m.2) (fun m34 => mx_let (y3 + 1) (fun v35 => (FX12_who_L109 q0 f q29 v35 m34))) else mx_let (y3 + 1) (fun v36 => (FX12_who_L109 q0 f y2 v36 m))))))
set_option maxRecDepth 20000 in
theorem CX12_who_L109 {G : mG} {l : Launch} {e : mE} {Post : Option Value → mS → Prop} {q0 : Nat} (g0 : ly12 e q0) : ∀ (f : Nat) {y2 : Int32} {y3 : Int32} {m : mB} {q : (mB)}, FX12_who_L109 q0 f y2 y3 m = some q → (mx_Fr G l MX12_who 259 0 0 Post 196 [.ref q0, .float 0, .float 0, .float 0, .float 0, .float 0] [] (e, q)) → mx_Fr G l MX12_who 259 0 0 Post 109 [.ref q0, .float 0, .int y2, .int y3, .float 0, .float 0] [] (e, m) := by
  intro f
  induction f with
  | zero => intro _ _ _ _ h; cases h
  | succ f ih =>
    intro y2 y3 m q h hex
    rw [FX12_who_L109] at h
    refine mx_iload_n (mx_d tX12_who_1 6 rfl) rfl rfl ?_
    refine mx_aload_n (mx_d tX12_who_1 7 rfl) rfl rfl ?_
    refine mx_getR (mx_d tX12_who_1 8 rfl) fX12_98 rfl rfl (ly12_o g0) (ly12_r14 g0) ?_
    refine mx_iconst (0) (mx_d tX12_who_1 9 rfl) (by decide) ?_
    refine mx_ialoadC 0 (mx_d tX12_who_1 10 rfl) (ly12_s14 g0) (by decide) (mx_inbE (by decide)) ?_
    refine mx_icmp_ge (tgt := 196) (mx_d tX12_who_1 11 rfl) (by decide) (fun hc22 => ?_) (fun hc22 => ?_)
    · rw [if_pos hc22] at h
      obtain rfl := Option.some.inj h
      refine mx_forget (L' := [.ref q0, .float 0, .float 0, .float 0, .float 0, .float 0]) ⟨rfl, trivial⟩ ?_
      exact hex
    · rw [if_neg hc22] at h
      refine mx_iconst (0) (mx_d tX12_who_1 12 rfl) (by decide) ?_
      refine mx_istore (L2 := [.ref q0, .float 0, .int y2, .int y3, .int 0, .float 0]) (mx_d tX12_who_1 13 rfl) (by decide) (by rfl) ?_
      refine mx_iconst (0) (mx_d tX12_who_1 14 rfl) (by decide) ?_
      refine mx_istore (L2 := [.ref q0, .float 0, .int y2, .int y3, .int 0, .int 0]) (mx_d tX12_who_1 15 rfl) (by decide) (by rfl) ?_
      obtain ⟨q29, h_q29, h⟩ := Option.bind_eq_some_iff.mp h
      refine CX12_who_L125 g0 mx_FU h_q29 ?_
      refine mx_iload_n (mx_d tX12_who_1 40 rfl) rfl rfl ?_
      refine mx_if_le (tgt := 182) (mx_d tX12_who_1 41 rfl) (by decide) (fun hc30 => ?_) (fun hc30 => ?_)
      · rw [if_pos hc30] at h
        refine mx_iload (mx_d tX12_who_1 46 rfl) rfl ?_
        refine mx_istore_n (L2 := [.ref q0, .float 0, .int q29, .int y3, .int q29, .float 0]) (mx_d tX12_who_1 47 rfl) rfl (by decide) (by rfl) ?_
        refine mx_aload_n (mx_d tX12_who_1 48 rfl) rfl rfl ?_
        refine mx_iload_n (mx_d tX12_who_1 49 rfl) rfl rfl ?_
        obtain ⟨m31, e_m31, h⟩ := mx_letE h
        refine mx_putI (mx_d tX12_who_1 50 rfl) fX12_166 rfl ⟨_, rfl, rfl⟩ rfl (ly12_o g0) (mx_eqz (z' := (e, m31)) (by rw [e_m31]) ?_)
        obtain ⟨v32, e_v32, h⟩ := mx_letE h
        refine mx_iinc v32 (L2 := [.ref q0, .float 0, .int q29, .int v32, .int q29, .float 0]) (mx_d tX12_who_1 51 rfl) rfl (by rw [e_v32]; rfl) (by decide) rfl ?_
        refine mx_goto (tgt := 109) (mx_d tX12_who_1 52 rfl) (by decide) ?_
        refine mx_forget (L' := [.ref q0, .float 0, .int q29, .int v32, .float 0, .float 0]) ⟨rfl, rfl, rfl, trivial⟩ ?_
        exact ih h hex
      · rw [if_neg hc30] at h
        refine mx_iload (mx_d tX12_who_1 42 rfl) rfl ?_
        refine mx_iload_n (mx_d tX12_who_1 43 rfl) rfl rfl ?_
        refine mx_icmp_lt (tgt := 182) (mx_d tX12_who_1 44 rfl) (by decide) (fun hc33 => ?_) (fun hc33 => ?_)
        · rw [if_pos hc33] at h
          refine mx_iload (mx_d tX12_who_1 46 rfl) rfl ?_
          refine mx_istore_n (L2 := [.ref q0, .float 0, .int q29, .int y3, .int q29, .float 0]) (mx_d tX12_who_1 47 rfl) rfl (by decide) (by rfl) ?_
          refine mx_aload_n (mx_d tX12_who_1 48 rfl) rfl rfl ?_
          refine mx_iload_n (mx_d tX12_who_1 49 rfl) rfl rfl ?_
          obtain ⟨m34, e_m34, h⟩ := mx_letE h
          refine mx_putI (mx_d tX12_who_1 50 rfl) fX12_166 rfl ⟨_, rfl, rfl⟩ rfl (ly12_o g0) (mx_eqz (z' := (e, m34)) (by rw [e_m34]) ?_)
          obtain ⟨v35, e_v35, h⟩ := mx_letE h
          refine mx_iinc v35 (L2 := [.ref q0, .float 0, .int q29, .int v35, .int q29, .float 0]) (mx_d tX12_who_1 51 rfl) rfl (by rw [e_v35]; rfl) (by decide) rfl ?_
          refine mx_goto (tgt := 109) (mx_d tX12_who_1 52 rfl) (by decide) ?_
          refine mx_forget (L' := [.ref q0, .float 0, .int q29, .int v35, .float 0, .float 0]) ⟨rfl, rfl, rfl, trivial⟩ ?_
          exact ih h hex
        · rw [if_neg hc33] at h
          refine mx_goto (tgt := 190) (mx_d tX12_who_1 45 rfl) (by decide) ?_
          obtain ⟨v36, e_v36, h⟩ := mx_letE h
          refine mx_iinc v36 (L2 := [.ref q0, .float 0, .int y2, .int v36, .int q29, .float 0]) (mx_d tX12_who_1 51 rfl) rfl (by rw [e_v36]; rfl) (by decide) rfl ?_
          refine mx_goto (tgt := 109) (mx_d tX12_who_1 52 rfl) (by decide) ?_
          refine mx_forget (L' := [.ref q0, .float 0, .int y2, .int v36, .float 0, .float 0]) ⟨rfl, rfl, rfl, trivial⟩ ?_
          exact ih h hex
def FX12_who (a : Nat) (m : mB) : Option (Int32 × mB) := mx_let (mx_up m.1 a 0 0, m.2) (fun m1 => Option.bind (FX12_take a m1) (fun r2 => (if (r2.1 - r2.1 / 2 * 2) = 0 then Option.bind (FX12_isIn (r2.1 / 2) 1 6 r2.2) (fun r4 => (if r4 = 0 then (some ((-1), r2.2)) else Option.bind (FX12_who_L32 a r2.1 r2.2 mx_FU 0) (fun q16 => Sum.elim (fun rr => some rr) (fun u17 => mx_let (mx_up r2.2.1 a 47 r2.1, r2.2.2) (fun m19 => Option.bind (FX12_surveyMost a m19) (fun r20 => (if (r20.1 a 44) = 0 then (some (0, r20)) else Option.bind (FX12_who_L109 a mx_FU 0 0 r20) (fun q37 => (some ((q37.1 a 44), q37))))))) q16))) else (some ((-1), r2.2)))))
set_option maxRecDepth 20000 in
theorem CX12_who {G : mG} {l : Launch} {e : mE} {a : Nat} {m : mB} {r : (Int32 × mB)} (h0 : ly12 e a) (h : FX12_who a m = some r) : mx_Call G l MX12_who 259 0 0 [.ref a] (e, m) (fun v z => v = some (.int r.1) ∧ z = (e, r.2)) := by
  refine mx_entry (L := [.ref a, .float 0, .float 0, .float 0, .float 0, .float 0]) (by decide +kernel) (Nat.le_of_ble_eq_true rfl) rfl ?_
  unfold FX12_who at h
  refine mx_aload_n (mx_d tX12_who_0 0 rfl) rfl rfl ?_
  refine mx_iconst (0) (mx_d tX12_who_0 1 rfl) (by decide) ?_
  obtain ⟨m1, e_m1, h⟩ := mx_letE h
  refine mx_putI (mx_d tX12_who_0 2 rfl) fX12_1 rfl ⟨_, rfl, rfl⟩ rfl (ly12_o h0) (mx_eqz (z' := (e, m1)) (by rw [e_m1]) ?_)
  refine mx_aload_n (mx_d tX12_who_0 3 rfl) rfl rfl ?_
  obtain ⟨r2, h_r2, h⟩ := Option.bind_eq_some_iff.mp h
  refine mx_cVi (mx_d tX12_who_0 4 rfl) iX12_89 rfl vX12_take ⟨_, rfl, rfl⟩ (ly12_o h0) (CX12_take h0 h_r2) (by decide) rfl rfl (Nat.le_of_ble_eq_true rfl) ?_
  refine mx_istore_n (L2 := [.ref a, .int r2.1, .float 0, .float 0, .float 0, .float 0]) (mx_d tX12_who_0 5 rfl) rfl (by decide) (by rfl) ?_
  refine mx_iload_n (mx_d tX12_who_0 6 rfl) rfl rfl ?_
  refine mx_iconst (2) (mx_d tX12_who_0 7 rfl) (by decide) ?_
  refine mx_irem (mx_d tX12_who_0 8 rfl) (by decide) ?_
  refine mx_if_ne (tgt := 28) (mx_d tX12_who_0 9 rfl) (by decide) (fun hc3 => ?_) (fun hc3 => ?_)
  · rw [if_neg hc3] at h
    refine mx_iconst ((-1)) (mx_d tX12_who_0 17 rfl) (by decide) ?_
    obtain rfl := Option.some.inj h
    exact mx_ireturn (mx_d tX12_who_0 18 rfl) rfl ⟨rfl, rfl⟩
  · rw [if_pos hc3] at h
    refine mx_iload_n (mx_d tX12_who_0 10 rfl) rfl rfl ?_
    refine mx_iconst (2) (mx_d tX12_who_0 11 rfl) (by decide) ?_
    refine mx_idiv (mx_d tX12_who_0 12 rfl) (by decide) ?_
    refine mx_iconst (1) (mx_d tX12_who_0 13 rfl) (by decide) ?_
    refine mx_bipush (6) (mx_d tX12_who_0 14 rfl) (by decide) ?_
    obtain ⟨r4, h_r4, h⟩ := Option.bind_eq_some_iff.mp h
    refine mx_cSi (mx_d tX12_who_0 15 rfl) iX12_75 rfl sX12_isIn (CX12_isIn  h_r4) (by decide) rfl rfl (Nat.le_of_ble_eq_true rfl) ?_
    refine mx_if_ne (tgt := 30) (mx_d tX12_who_0 16 rfl) (by decide) (fun hc5 => ?_) (fun hc5 => ?_)
    · rw [if_neg hc5] at h
      refine mx_iconst (0) (mx_d tX12_who_0 19 rfl) (by decide) ?_
      refine mx_istore_n (L2 := [.ref a, .int r2.1, .int 0, .float 0, .float 0, .float 0]) (mx_d tX12_who_0 20 rfl) rfl (by decide) (by rfl) ?_
      obtain ⟨q16, h_q16, h⟩ := Option.bind_eq_some_iff.mp h
      refine CX12_who_L32 h0 mx_FU h_q16 (fun rr18 e_rr18 => ?_) (fun u17 e_u17 => ?_)
      · subst e_rr18
        rw [Sum.elim_inl] at h
        obtain rfl := Option.some.inj h
        exact ⟨rfl, rfl⟩
      · subst e_u17
        rw [Sum.elim_inr] at h
        refine mx_aload_n (mx_d tX12_who_0 52 rfl) rfl rfl ?_
        refine mx_iload_n (mx_d tX12_who_0 53 rfl) rfl rfl ?_
        obtain ⟨m19, e_m19, h⟩ := mx_letE h
        refine mx_putI (mx_d tX12_who_0 54 rfl) fX12_392 rfl ⟨_, rfl, rfl⟩ rfl (ly12_o h0) (mx_eqz (z' := (e, m19)) (by rw [e_m19]) ?_)
        refine mx_aload_n (mx_d tX12_who_0 55 rfl) rfl rfl ?_
        obtain ⟨r20, h_r20, h⟩ := Option.bind_eq_some_iff.mp h
        refine mx_cVv (mx_d tX12_who_0 56 rfl) iX12_398 rfl vX12_surveyMost ⟨_, rfl, rfl⟩ (ly12_o h0) (CX12_surveyMost h0 h_r20) (by decide) rfl rfl (Nat.le_of_ble_eq_true rfl) ?_
        refine mx_aload_n (mx_d tX12_who_0 57 rfl) rfl rfl ?_
        refine mx_getI (mx_d tX12_who_0 58 rfl) fX12_381 rfl (Or.inl rfl) (ly12_o h0) ?_
        refine mx_if_ne (tgt := 105) (mx_d tX12_who_0 59 rfl) (by decide) (fun hc21 => ?_) (fun hc21 => ?_)
        · rw [if_neg hc21] at h
          refine mx_iconst (0) (mx_d tX12_who_1 2 rfl) (by decide) ?_
          refine mx_istore_n (L2 := [.ref a, .int r2.1, .int 0, .float 0, .float 0, .float 0]) (mx_d tX12_who_1 3 rfl) rfl (by decide) (by rfl) ?_
          refine mx_iconst (0) (mx_d tX12_who_1 4 rfl) (by decide) ?_
          refine mx_istore_n (L2 := [.ref a, .int r2.1, .int 0, .int 0, .float 0, .float 0]) (mx_d tX12_who_1 5 rfl) rfl (by decide) (by rfl) ?_
          obtain ⟨q37, h_q37, h⟩ := Option.bind_eq_some_iff.mp h
          refine mx_forget (L' := [.ref a, .float 0, .int 0, .int 0, .float 0, .float 0]) ⟨rfl, rfl, rfl, trivial⟩ ?_
          refine CX12_who_L109 h0 mx_FU h_q37 ?_
          refine mx_aload_n (mx_d tX12_who_1 53 rfl) rfl rfl ?_
          refine mx_getI (mx_d tX12_who_1 54 rfl) fX12_381 rfl (Or.inl rfl) (ly12_o h0) ?_
          obtain rfl := Option.some.inj h
          exact mx_ireturn (mx_d tX12_who_1 55 rfl) rfl ⟨rfl, rfl⟩
        · rw [if_pos hc21] at h
          refine mx_iconst (0) (mx_d tX12_who_1 0 rfl) (by decide) ?_
          obtain rfl := Option.some.inj h
          exact mx_ireturn (mx_d tX12_who_1 1 rfl) rfl ⟨rfl, rfl⟩
    · rw [if_pos hc5] at h
      refine mx_iconst ((-1)) (mx_d tX12_who_0 17 rfl) (by decide) ?_
      obtain rfl := Option.some.inj h
      exact mx_ireturn (mx_d tX12_who_0 18 rfl) rfl ⟨rfl, rfl⟩
def FX12_ask (a : Nat) (m : mB) : Option (Int32 × mB) := mx_let (mx_up m.1 a 0 0, m.2) (fun m1 => (some ((m1.1 a 48), m1)))
set_option maxRecDepth 20000 in
theorem CX12_ask {G : mG} {l : Launch} {e : mE} {a : Nat} {m : mB} {r : (Int32 × mB)} (h0 : ly12 e a) (h : FX12_ask a m = some r) : mx_Call G l MX12_ask 1 0 0 [.ref a] (e, m) (fun v z => v = some (.int r.1) ∧ z = (e, r.2)) := by
  refine mx_entry (L := [.ref a]) (by decide +kernel) (Nat.le_of_ble_eq_true rfl) rfl ?_
  unfold FX12_ask at h
  refine mx_aload_n (mx_d tX12_ask_0 0 rfl) rfl rfl ?_
  refine mx_iconst (0) (mx_d tX12_ask_0 1 rfl) (by decide) ?_
  obtain ⟨m1, e_m1, h⟩ := mx_letE h
  refine mx_putI (mx_d tX12_ask_0 2 rfl) fX12_1 rfl ⟨_, rfl, rfl⟩ rfl (ly12_o h0) (mx_eqz (z' := (e, m1)) (by rw [e_m1]) ?_)
  refine mx_aload_n (mx_d tX12_ask_0 3 rfl) rfl rfl ?_
  refine mx_getI (mx_d tX12_ask_0 4 rfl) fX12_166 rfl (Or.inl rfl) (ly12_o h0) ?_
  obtain rfl := Option.some.inj h
  exact mx_ireturn (mx_d tX12_ask_0 5 rfl) rfl ⟨rfl, rfl⟩
def FX12_stroke_L44 (rec : Nat → Int32 → Int32 → Int32 → Int32 → Int32 → Int32 → Int32 → mB → Option mB) (q0 : Nat) (y1 : Int32) (y2 : Int32) (y3 : Int32) (y4 : Int32) (y5 : Int32) (y6 : Int32) (y7 : Int32) : Nat → Int32 → mB → Option (mB)
  | 0, _, _ => none
  | f + 1, y8, m => (if (m.1 (q0 + 2) 0) ≤ y8 then (some (m)) else Option.bind (FX12_areLinked q0 y2 y8 m) (fun r5 => (if r5 = 0 then mx_let (y8 + 1) (fun v7 => (FX12_stroke_L44 rec q0 y1 y2 y3 y4 y5 y6 y7 f v7 m)) else Option.bind (FX12_arePaired q0 y2 y8 m) (fun r8 => (if r8 = y5 then mx_let (y8 + 1) (fun v45 => (FX12_stroke_L44 rec q0 y1 y2 y3 y4 y5 y6 y7 f v45 m)) else Option.bind (FX12_between q0 y2 y8 m) (fun r10 => mx_chk (mx_inb (128 + r10) 432) (mx_let (m.1 (q0 + 2) (Int32.toNatClampNeg (128 + r10))) (fun v12 => (if y5 = 0 then mx_let (-v12) (fun v14 => mx_let (fun (m16 : mB) => Option.bind (FX12_has y6 y8 m16) (fun r18 => (if r18 = 0 then (if y5 = 0 then Option.bind (rec q0 y1 y8 (y3 + 1) y4 1 (y6 ||| ((1 : Int32) <<< (y8 &&& 31))) (y7 + v14) m16) (fun r24 => mx_let (y8 + 1) (fun v25 => (FX12_stroke_L44 rec q0 y1 y2 y3 y4 y5 y6 y7 f v25 r24))) else Option.bind (rec q0 y1 y8 (y3 + 1) y4 0 (y6 ||| ((1 : Int32) <<< (y8 &&& 31))) (y7 + v14) m16) (fun r22 => mx_let (y8 + 1) (fun v23 => (FX12_stroke_L44 rec q0 y1 y2 y3 y4 y5 y6 y7 f v23 r22)))) else mx_let (y8 + 1) (fun v20 => (FX12_stroke_L44 rec q0 y1 y2 y3 y4 y5 y6 y7 f v20 m16))))) (fun k17 => (if y8 = y1 then (if y3 ≤ 2 then (k17 m) else (if y4 = y5 then (if (y7 + v14) ≤ (m.1 q0 49) then (k17 m) else mx_let (mx_up m.1 q0 49 (y7 + v14), m.2) (fun m29 => (k17 m29))) else (k17 m))) else (k17 m)))) else mx_let (fun (m31 : mB) => Option.bind (FX12_has y6 y8 m31) (fun r33 => (if r33 = 0 then (if y5 = 0 then Option.bind (rec q0 y1 y8 (y3 + 1) y4 1 (y6 ||| ((1 : Int32) <<< (y8 &&& 31))) (y7 + v12) m31) (fun r39 => mx_let (y8 + 1) (fun v40 => (FX12_stroke_L44 rec q0 y1 y2 y3 y4 y5 y6 y7 f v40 r39))) else Option.bind (rec q0 y1 y8 (y3 + 1) y4 0 (y6 ||| ((1 : Int32) <<< (y8 &&& 31))) (y7 + v12) m31) (fun r37 => mx_let (y8 + 1) (fun v38 => (FX12_stroke_L44 rec q0 y1 y2 y3 y4 y5 y6 y7 f v38 r37)))) else mx_let (y8 + 1) (fun v35 => (FX12_stroke_L44 rec q0 y1 y2 y3 y4 y5 y6 y7 f v35 m31))))) (fun k32 => (if y8 = y1 then (if y3 ≤ 2 then (k32 m) else (if y4 = y5 then (if (y7 + v12) ≤ (m.1 q0 49) then (k32 m) else mx_let (mx_up m.1 q0 49 (y7 + v12), m.2) (fun m44 => (k32 m44))) else (k32 m))) else (k32 m))))))))))))
set_option maxRecDepth 20000 in
theorem CX12_stroke_L44 {G : mG} {l : Launch} {e : mE} {Post : Option Value → mS → Prop} {rec : Nat → Int32 → Int32 → Int32 → Int32 → Int32 → Int32 → Int32 → mB → Option mB} {D : Nat} {q0 : Nat} {y1 : Int32} {y2 : Int32} {y3 : Int32} {y4 : Int32} {y5 : Int32} {y6 : Int32} {y7 : Int32} (hrec : ∀ {a : Nat} {x0 : Int32} {x1 : Int32} {x2 : Int32} {x3 : Int32} {x4 : Int32} {x5 : Int32} {x6 : Int32} {m : mB} {r : mB}, ly12 e a → rec a x0 x1 x2 x3 x4 x5 x6 m = some r → mx_Call G l MX12_stroke D 0 0 [.ref a, .int x0, .int x1, .int x2, .int x3, .int x4, .int x5, .int x6] (e, m) (fun v z => v = none ∧ z = (e, r))) (g0 : ly12 e q0) : ∀ (f : Nat) {y8 : Int32} {m : mB} {q : (mB)}, FX12_stroke_L44 rec q0 y1 y2 y3 y4 y5 y6 y7 f y8 m = some q → (mx_Fr G l MX12_stroke (D + 4) 0 0 Post 202 [.float 0, .float 0, .float 0, .float 0, .float 0, .float 0, .float 0, .float 0, .float 0, .float 0, .float 0] [] (e, q)) → mx_Fr G l MX12_stroke (D + 4) 0 0 Post 44 [.ref q0, .int y1, .int y2, .int y3, .int y4, .int y5, .int y6, .int y7, .int y8, .float 0, .float 0] [] (e, m) := by
  intro f
  induction f with
  | zero => intro _ _ _ h; cases h
  | succ f ih =>
    intro y8 m q h hex
    rw [FX12_stroke_L44] at h
    refine mx_iload (mx_d tX12_stroke_0 21 rfl) rfl ?_
    refine mx_aload_n (mx_d tX12_stroke_0 22 rfl) rfl rfl ?_
    refine mx_getR (mx_d tX12_stroke_0 23 rfl) fX12_98 rfl rfl (ly12_o g0) (ly12_r14 g0) ?_
    refine mx_iconst (0) (mx_d tX12_stroke_0 24 rfl) (by decide) ?_
    refine mx_ialoadC 0 (mx_d tX12_stroke_0 25 rfl) (ly12_s14 g0) (by decide) (mx_inbE (by decide)) ?_
    refine mx_icmp_ge (tgt := 202) (mx_d tX12_stroke_0 26 rfl) (by decide) (fun hc4 => ?_) (fun hc4 => ?_)
    · rw [if_pos hc4] at h
      obtain rfl := Option.some.inj h
      refine mx_forget (L' := [.float 0, .float 0, .float 0, .float 0, .float 0, .float 0, .float 0, .float 0, .float 0, .float 0, .float 0]) trivial ?_
      exact hex
    · rw [if_neg hc4] at h
      refine mx_aload_n (mx_d tX12_stroke_0 27 rfl) rfl rfl ?_
      refine mx_iload_n (mx_d tX12_stroke_0 28 rfl) rfl rfl ?_
      refine mx_iload (mx_d tX12_stroke_0 29 rfl) rfl ?_
      obtain ⟨r5, h_r5, h⟩ := Option.bind_eq_some_iff.mp h
      refine mx_cVi (mx_d tX12_stroke_0 30 rfl) iX12_300 rfl vX12_areLinked ⟨_, rfl, rfl⟩ (ly12_o g0) (CX12_areLinked g0 h_r5) (by omega) rfl rfl (Nat.le_of_ble_eq_true rfl) ?_
      refine mx_if_eq (tgt := 196) (mx_d tX12_stroke_0 31 rfl) (by decide) (fun hc6 => ?_) (fun hc6 => ?_)
      · rw [if_pos hc6] at h
        obtain ⟨v7, e_v7, h⟩ := mx_letE h
        refine mx_iinc v7 (L2 := [.ref q0, .int y1, .int y2, .int y3, .int y4, .int y5, .int y6, .int y7, .int v7, .float 0, .float 0]) (mx_d tX12_stroke_1 41 rfl) rfl (by rw [e_v7]; rfl) (by decide) rfl ?_
        refine mx_goto (tgt := 44) (mx_d tX12_stroke_1 42 rfl) (by decide) ?_
        exact ih h hex
      · rw [if_neg hc6] at h
        refine mx_aload_n (mx_d tX12_stroke_0 32 rfl) rfl rfl ?_
        refine mx_iload_n (mx_d tX12_stroke_0 33 rfl) rfl rfl ?_
        refine mx_iload (mx_d tX12_stroke_0 34 rfl) rfl ?_
        obtain ⟨r8, h_r8, h⟩ := Option.bind_eq_some_iff.mp h
        refine mx_cVi (mx_d tX12_stroke_0 35 rfl) iX12_254 rfl vX12_arePaired ⟨_, rfl, rfl⟩ (ly12_o g0) (CX12_arePaired g0 h_r8) (by omega) rfl rfl (Nat.le_of_ble_eq_true rfl) ?_
        refine mx_iload (mx_d tX12_stroke_0 36 rfl) rfl ?_
        refine mx_icmp_ne (tgt := 80) (mx_d tX12_stroke_0 37 rfl) (by decide) (fun hc9 => ?_) (fun hc9 => ?_)
        · rw [if_neg hc9] at h
          refine mx_aload_n (mx_d tX12_stroke_0 39 rfl) rfl rfl ?_
          refine mx_getR (mx_d tX12_stroke_0 40 rfl) fX12_98 rfl rfl (ly12_o g0) (ly12_r14 g0) ?_
          refine mx_sipush (128) (mx_d tX12_stroke_0 41 rfl) (by decide) ?_
          refine mx_aload_n (mx_d tX12_stroke_0 42 rfl) rfl rfl ?_
          refine mx_iload_n (mx_d tX12_stroke_0 43 rfl) rfl rfl ?_
          refine mx_iload (mx_d tX12_stroke_0 44 rfl) rfl ?_
          obtain ⟨r10, h_r10, h⟩ := Option.bind_eq_some_iff.mp h
          refine mx_cVi (mx_d tX12_stroke_0 45 rfl) iX12_250 rfl vX12_between ⟨_, rfl, rfl⟩ (ly12_o g0) (CX12_between g0 h_r10) (by omega) rfl rfl (Nat.le_of_ble_eq_true rfl) ?_
          refine mx_iadd (mx_d tX12_stroke_0 46 rfl) ?_
          obtain ⟨hi11, h⟩ := mx_chkE h
          refine mx_iaload (mx_d tX12_stroke_0 47 rfl) (ly12_s14 g0) (mx_inbE hi11) ?_
          obtain ⟨v12, e_v12, h⟩ := mx_letE h
          refine mx_istore (L2 := [.ref q0, .int y1, .int y2, .int y3, .int y4, .int y5, .int y6, .int y7, .int y8, .int v12, .float 0]) (mx_d tX12_stroke_0 48 rfl) (by decide) (by rw [e_v12]; rfl) ?_
          refine mx_iload (mx_d tX12_stroke_0 49 rfl) rfl ?_
          refine mx_if_eq (tgt := 108) (mx_d tX12_stroke_0 50 rfl) (by decide) (fun hc13 => ?_) (fun hc13 => ?_)
          · rw [if_pos hc13] at h
            refine mx_iload (mx_d tX12_stroke_0 53 rfl) rfl ?_
            refine mx_ineg (mx_d tX12_stroke_0 54 rfl) ?_
            obtain ⟨v14, e_v14, h⟩ := mx_letE h
            refine mx_istore (L2 := [.ref q0, .int y1, .int y2, .int y3, .int y4, .int y5, .int y6, .int y7, .int y8, .int v12, .int v14]) (mx_d tX12_stroke_0 55 rfl) (by decide) (by rw [e_v14]; rfl) ?_
            refine mx_iload (mx_d tX12_stroke_0 56 rfl) rfl ?_
            refine mx_iload_n (mx_d tX12_stroke_0 57 rfl) rfl rfl ?_
            refine mx_letK (J := fun k17 => ∀ {m16 : mB}, k17 m16 = some q → mx_Fr G l MX12_stroke (D + 4) 0 0 Post 152 [.ref q0, .int y1, .int y2, .int y3, .int y4, .int y5, .int y6, .int y7, .int y8, .float 0, .int v14] [] (e, m16)) h ?_ (fun k17 j_k17 h => ?_)
            · intro m16 h
              dsimp only at h
              refine mx_iload (mx_d tX12_stroke_1 16 rfl) rfl ?_
              refine mx_iload (mx_d tX12_stroke_1 17 rfl) rfl ?_
              obtain ⟨r18, h_r18, h⟩ := Option.bind_eq_some_iff.mp h
              refine mx_cSi (mx_d tX12_stroke_1 18 rfl) iX12_210 rfl sX12_has (CX12_has  h_r18) (by omega) rfl rfl (Nat.le_of_ble_eq_true rfl) ?_
              refine mx_if_ne (tgt := 196) (mx_d tX12_stroke_1 19 rfl) (by decide) (fun hc19 => ?_) (fun hc19 => ?_)
              · rw [if_neg hc19] at h
                obtain ⟨v20, e_v20, h⟩ := mx_letE h
                refine mx_iinc v20 (L2 := [.ref q0, .int y1, .int y2, .int y3, .int y4, .int y5, .int y6, .int y7, .int v20, .float 0, .int v14]) (mx_d tX12_stroke_1 41 rfl) rfl (by rw [e_v20]; rfl) (by decide) rfl ?_
                refine mx_goto (tgt := 44) (mx_d tX12_stroke_1 42 rfl) (by decide) ?_
                refine mx_forget (L' := [.ref q0, .int y1, .int y2, .int y3, .int y4, .int y5, .int y6, .int y7, .int v20, .float 0, .float 0]) ⟨rfl, rfl, rfl, rfl, rfl, rfl, rfl, rfl, rfl, trivial⟩ ?_
                exact ih h hex
              · rw [if_pos hc19] at h
                refine mx_aload_n (mx_d tX12_stroke_1 20 rfl) rfl rfl ?_
                refine mx_iload_n (mx_d tX12_stroke_1 21 rfl) rfl rfl ?_
                refine mx_iload (mx_d tX12_stroke_1 22 rfl) rfl ?_
                refine mx_iload_n (mx_d tX12_stroke_1 23 rfl) rfl rfl ?_
                refine mx_iconst (1) (mx_d tX12_stroke_1 24 rfl) (by decide) ?_
                refine mx_iadd (mx_d tX12_stroke_1 25 rfl) ?_
                refine mx_iload (mx_d tX12_stroke_1 26 rfl) rfl ?_
                refine mx_iload (mx_d tX12_stroke_1 27 rfl) rfl ?_
                refine mx_if_ne (tgt := 180) (mx_d tX12_stroke_1 28 rfl) (by decide) (fun hc21 => ?_) (fun hc21 => ?_)
                · rw [if_neg hc21] at h
                  refine mx_iconst (0) (mx_d tX12_stroke_1 31 rfl) (by decide) ?_
                  refine mx_iload (mx_d tX12_stroke_1 32 rfl) rfl ?_
                  refine mx_iconst (1) (mx_d tX12_stroke_1 33 rfl) (by decide) ?_
                  refine mx_iload (mx_d tX12_stroke_1 34 rfl) rfl ?_
                  refine mx_ishl (mx_d tX12_stroke_1 35 rfl) ?_
                  refine mx_ior (mx_d tX12_stroke_1 36 rfl) ?_
                  refine mx_iload (mx_d tX12_stroke_1 37 rfl) rfl ?_
                  refine mx_iload (mx_d tX12_stroke_1 38 rfl) rfl ?_
                  refine mx_iadd (mx_d tX12_stroke_1 39 rfl) ?_
                  obtain ⟨r22, h_r22, h⟩ := Option.bind_eq_some_iff.mp h
                  refine mx_cVv (mx_d tX12_stroke_1 40 rfl) iX12_407 rfl vX12_stroke ⟨_, rfl, rfl⟩ (ly12_o g0) (hrec g0 h_r22) (by omega) rfl rfl (Nat.le_of_ble_eq_true rfl) ?_
                  obtain ⟨v23, e_v23, h⟩ := mx_letE h
                  refine mx_iinc v23 (L2 := [.ref q0, .int y1, .int y2, .int y3, .int y4, .int y5, .int y6, .int y7, .int v23, .float 0, .int v14]) (mx_d tX12_stroke_1 41 rfl) rfl (by rw [e_v23]; rfl) (by decide) rfl ?_
                  refine mx_goto (tgt := 44) (mx_d tX12_stroke_1 42 rfl) (by decide) ?_
                  refine mx_forget (L' := [.ref q0, .int y1, .int y2, .int y3, .int y4, .int y5, .int y6, .int y7, .int v23, .float 0, .float 0]) ⟨rfl, rfl, rfl, rfl, rfl, rfl, rfl, rfl, rfl, trivial⟩ ?_
                  exact ih h hex
                · rw [if_pos hc21] at h
                  refine mx_iconst (1) (mx_d tX12_stroke_1 29 rfl) (by decide) ?_
                  refine mx_goto (tgt := 181) (mx_d tX12_stroke_1 30 rfl) (by decide) ?_
                  refine mx_iload (mx_d tX12_stroke_1 32 rfl) rfl ?_
                  refine mx_iconst (1) (mx_d tX12_stroke_1 33 rfl) (by decide) ?_
                  refine mx_iload (mx_d tX12_stroke_1 34 rfl) rfl ?_
                  refine mx_ishl (mx_d tX12_stroke_1 35 rfl) ?_
                  refine mx_ior (mx_d tX12_stroke_1 36 rfl) ?_
                  refine mx_iload (mx_d tX12_stroke_1 37 rfl) rfl ?_
                  refine mx_iload (mx_d tX12_stroke_1 38 rfl) rfl ?_
                  refine mx_iadd (mx_d tX12_stroke_1 39 rfl) ?_
                  obtain ⟨r24, h_r24, h⟩ := Option.bind_eq_some_iff.mp h
                  refine mx_cVv (mx_d tX12_stroke_1 40 rfl) iX12_407 rfl vX12_stroke ⟨_, rfl, rfl⟩ (ly12_o g0) (hrec g0 h_r24) (by omega) rfl rfl (Nat.le_of_ble_eq_true rfl) ?_
                  obtain ⟨v25, e_v25, h⟩ := mx_letE h
                  refine mx_iinc v25 (L2 := [.ref q0, .int y1, .int y2, .int y3, .int y4, .int y5, .int y6, .int y7, .int v25, .float 0, .int v14]) (mx_d tX12_stroke_1 41 rfl) rfl (by rw [e_v25]; rfl) (by decide) rfl ?_
                  refine mx_goto (tgt := 44) (mx_d tX12_stroke_1 42 rfl) (by decide) ?_
                  refine mx_forget (L' := [.ref q0, .int y1, .int y2, .int y3, .int y4, .int y5, .int y6, .int y7, .int v25, .float 0, .float 0]) ⟨rfl, rfl, rfl, rfl, rfl, rfl, rfl, rfl, rfl, trivial⟩ ?_
                  exact ih h hex
            refine mx_icmp_ne (tgt := 152) (mx_d tX12_stroke_0 58 rfl) (by decide) (fun hc15 => ?_) (fun hc15 => ?_)
            · rw [if_neg hc15] at h
              refine mx_forget (L' := [.ref q0, .int y1, .int y2, .int y3, .int y4, .int y5, .int y6, .int y7, .int y8, .float 0, .int v14]) ⟨rfl, rfl, rfl, rfl, rfl, rfl, rfl, rfl, rfl, rfl, trivial⟩ ?_
              exact j_k17 h
            · rw [if_pos hc15] at h
              refine mx_iload_n (mx_d tX12_stroke_0 59 rfl) rfl rfl ?_
              refine mx_iconst (2) (mx_d tX12_stroke_1 0 rfl) (by decide) ?_
              refine mx_icmp_le (tgt := 152) (mx_d tX12_stroke_1 1 rfl) (by decide) (fun hc26 => ?_) (fun hc26 => ?_)
              · rw [if_pos hc26] at h
                refine mx_forget (L' := [.ref q0, .int y1, .int y2, .int y3, .int y4, .int y5, .int y6, .int y7, .int y8, .float 0, .int v14]) ⟨rfl, rfl, rfl, rfl, rfl, rfl, rfl, rfl, rfl, rfl, trivial⟩ ?_
                exact j_k17 h
              · rw [if_neg hc26] at h
                refine mx_iload (mx_d tX12_stroke_1 2 rfl) rfl ?_
                refine mx_iload (mx_d tX12_stroke_1 3 rfl) rfl ?_
                refine mx_icmp_ne (tgt := 152) (mx_d tX12_stroke_1 4 rfl) (by decide) (fun hc27 => ?_) (fun hc27 => ?_)
                · rw [if_neg hc27] at h
                  refine mx_forget (L' := [.ref q0, .int y1, .int y2, .int y3, .int y4, .int y5, .int y6, .int y7, .int y8, .float 0, .int v14]) ⟨rfl, rfl, rfl, rfl, rfl, rfl, rfl, rfl, rfl, rfl, trivial⟩ ?_
                  exact j_k17 h
                · rw [if_pos hc27] at h
                  refine mx_iload (mx_d tX12_stroke_1 5 rfl) rfl ?_
                  refine mx_iload (mx_d tX12_stroke_1 6 rfl) rfl ?_
                  refine mx_iadd (mx_d tX12_stroke_1 7 rfl) ?_
                  refine mx_aload_n (mx_d tX12_stroke_1 8 rfl) rfl rfl ?_
                  refine mx_getI (mx_d tX12_stroke_1 9 rfl) fX12_404 rfl (Or.inl rfl) (ly12_o g0) ?_
                  refine mx_icmp_le (tgt := 152) (mx_d tX12_stroke_1 10 rfl) (by decide) (fun hc28 => ?_) (fun hc28 => ?_)
                  · rw [if_pos hc28] at h
                    refine mx_forget (L' := [.ref q0, .int y1, .int y2, .int y3, .int y4, .int y5, .int y6, .int y7, .int y8, .float 0, .int v14]) ⟨rfl, rfl, rfl, rfl, rfl, rfl, rfl, rfl, rfl, rfl, trivial⟩ ?_
                    exact j_k17 h
                  · rw [if_neg hc28] at h
                    refine mx_aload_n (mx_d tX12_stroke_1 11 rfl) rfl rfl ?_
                    refine mx_iload (mx_d tX12_stroke_1 12 rfl) rfl ?_
                    refine mx_iload (mx_d tX12_stroke_1 13 rfl) rfl ?_
                    refine mx_iadd (mx_d tX12_stroke_1 14 rfl) ?_
                    obtain ⟨m29, e_m29, h⟩ := mx_letE h
                    refine mx_putI (mx_d tX12_stroke_1 15 rfl) fX12_404 rfl ⟨_, rfl, rfl⟩ rfl (ly12_o g0) (mx_eqz (z' := (e, m29)) (by rw [e_m29]) ?_)
                    refine mx_forget (L' := [.ref q0, .int y1, .int y2, .int y3, .int y4, .int y5, .int y6, .int y7, .int y8, .float 0, .int v14]) ⟨rfl, rfl, rfl, rfl, rfl, rfl, rfl, rfl, rfl, rfl, trivial⟩ ?_
                    exact j_k17 h
          · rw [if_neg hc13] at h
            refine mx_iload (mx_d tX12_stroke_0 51 rfl) rfl ?_
            refine mx_goto (tgt := 111) (mx_d tX12_stroke_0 52 rfl) (by decide) ?_
            refine mx_istore (L2 := [.ref q0, .int y1, .int y2, .int y3, .int y4, .int y5, .int y6, .int y7, .int y8, .int v12, .int v12]) (mx_d tX12_stroke_0 55 rfl) (by decide) (by rfl) ?_
            refine mx_iload (mx_d tX12_stroke_0 56 rfl) rfl ?_
            refine mx_iload_n (mx_d tX12_stroke_0 57 rfl) rfl rfl ?_
            refine mx_letK (J := fun k32 => ∀ {m31 : mB}, k32 m31 = some q → mx_Fr G l MX12_stroke (D + 4) 0 0 Post 152 [.ref q0, .int y1, .int y2, .int y3, .int y4, .int y5, .int y6, .int y7, .int y8, .float 0, .int v12] [] (e, m31)) h ?_ (fun k32 j_k32 h => ?_)
            · intro m31 h
              dsimp only at h
              refine mx_iload (mx_d tX12_stroke_1 16 rfl) rfl ?_
              refine mx_iload (mx_d tX12_stroke_1 17 rfl) rfl ?_
              obtain ⟨r33, h_r33, h⟩ := Option.bind_eq_some_iff.mp h
              refine mx_cSi (mx_d tX12_stroke_1 18 rfl) iX12_210 rfl sX12_has (CX12_has  h_r33) (by omega) rfl rfl (Nat.le_of_ble_eq_true rfl) ?_
              refine mx_if_ne (tgt := 196) (mx_d tX12_stroke_1 19 rfl) (by decide) (fun hc34 => ?_) (fun hc34 => ?_)
              · rw [if_neg hc34] at h
                obtain ⟨v35, e_v35, h⟩ := mx_letE h
                refine mx_iinc v35 (L2 := [.ref q0, .int y1, .int y2, .int y3, .int y4, .int y5, .int y6, .int y7, .int v35, .float 0, .int v12]) (mx_d tX12_stroke_1 41 rfl) rfl (by rw [e_v35]; rfl) (by decide) rfl ?_
                refine mx_goto (tgt := 44) (mx_d tX12_stroke_1 42 rfl) (by decide) ?_
                refine mx_forget (L' := [.ref q0, .int y1, .int y2, .int y3, .int y4, .int y5, .int y6, .int y7, .int v35, .float 0, .float 0]) ⟨rfl, rfl, rfl, rfl, rfl, rfl, rfl, rfl, rfl, trivial⟩ ?_
                exact ih h hex
              · rw [if_pos hc34] at h
                refine mx_aload_n (mx_d tX12_stroke_1 20 rfl) rfl rfl ?_
                refine mx_iload_n (mx_d tX12_stroke_1 21 rfl) rfl rfl ?_
                refine mx_iload (mx_d tX12_stroke_1 22 rfl) rfl ?_
                refine mx_iload_n (mx_d tX12_stroke_1 23 rfl) rfl rfl ?_
                refine mx_iconst (1) (mx_d tX12_stroke_1 24 rfl) (by decide) ?_
                refine mx_iadd (mx_d tX12_stroke_1 25 rfl) ?_
                refine mx_iload (mx_d tX12_stroke_1 26 rfl) rfl ?_
                refine mx_iload (mx_d tX12_stroke_1 27 rfl) rfl ?_
                refine mx_if_ne (tgt := 180) (mx_d tX12_stroke_1 28 rfl) (by decide) (fun hc36 => ?_) (fun hc36 => ?_)
                · rw [if_neg hc36] at h
                  refine mx_iconst (0) (mx_d tX12_stroke_1 31 rfl) (by decide) ?_
                  refine mx_iload (mx_d tX12_stroke_1 32 rfl) rfl ?_
                  refine mx_iconst (1) (mx_d tX12_stroke_1 33 rfl) (by decide) ?_
                  refine mx_iload (mx_d tX12_stroke_1 34 rfl) rfl ?_
                  refine mx_ishl (mx_d tX12_stroke_1 35 rfl) ?_
                  refine mx_ior (mx_d tX12_stroke_1 36 rfl) ?_
                  refine mx_iload (mx_d tX12_stroke_1 37 rfl) rfl ?_
                  refine mx_iload (mx_d tX12_stroke_1 38 rfl) rfl ?_
                  refine mx_iadd (mx_d tX12_stroke_1 39 rfl) ?_
                  obtain ⟨r37, h_r37, h⟩ := Option.bind_eq_some_iff.mp h
                  refine mx_cVv (mx_d tX12_stroke_1 40 rfl) iX12_407 rfl vX12_stroke ⟨_, rfl, rfl⟩ (ly12_o g0) (hrec g0 h_r37) (by omega) rfl rfl (Nat.le_of_ble_eq_true rfl) ?_
                  obtain ⟨v38, e_v38, h⟩ := mx_letE h
                  refine mx_iinc v38 (L2 := [.ref q0, .int y1, .int y2, .int y3, .int y4, .int y5, .int y6, .int y7, .int v38, .float 0, .int v12]) (mx_d tX12_stroke_1 41 rfl) rfl (by rw [e_v38]; rfl) (by decide) rfl ?_
                  refine mx_goto (tgt := 44) (mx_d tX12_stroke_1 42 rfl) (by decide) ?_
                  refine mx_forget (L' := [.ref q0, .int y1, .int y2, .int y3, .int y4, .int y5, .int y6, .int y7, .int v38, .float 0, .float 0]) ⟨rfl, rfl, rfl, rfl, rfl, rfl, rfl, rfl, rfl, trivial⟩ ?_
                  exact ih h hex
                · rw [if_pos hc36] at h
                  refine mx_iconst (1) (mx_d tX12_stroke_1 29 rfl) (by decide) ?_
                  refine mx_goto (tgt := 181) (mx_d tX12_stroke_1 30 rfl) (by decide) ?_
                  refine mx_iload (mx_d tX12_stroke_1 32 rfl) rfl ?_
                  refine mx_iconst (1) (mx_d tX12_stroke_1 33 rfl) (by decide) ?_
                  refine mx_iload (mx_d tX12_stroke_1 34 rfl) rfl ?_
                  refine mx_ishl (mx_d tX12_stroke_1 35 rfl) ?_
                  refine mx_ior (mx_d tX12_stroke_1 36 rfl) ?_
                  refine mx_iload (mx_d tX12_stroke_1 37 rfl) rfl ?_
                  refine mx_iload (mx_d tX12_stroke_1 38 rfl) rfl ?_
                  refine mx_iadd (mx_d tX12_stroke_1 39 rfl) ?_
                  obtain ⟨r39, h_r39, h⟩ := Option.bind_eq_some_iff.mp h
                  refine mx_cVv (mx_d tX12_stroke_1 40 rfl) iX12_407 rfl vX12_stroke ⟨_, rfl, rfl⟩ (ly12_o g0) (hrec g0 h_r39) (by omega) rfl rfl (Nat.le_of_ble_eq_true rfl) ?_
                  obtain ⟨v40, e_v40, h⟩ := mx_letE h
                  refine mx_iinc v40 (L2 := [.ref q0, .int y1, .int y2, .int y3, .int y4, .int y5, .int y6, .int y7, .int v40, .float 0, .int v12]) (mx_d tX12_stroke_1 41 rfl) rfl (by rw [e_v40]; rfl) (by decide) rfl ?_
                  refine mx_goto (tgt := 44) (mx_d tX12_stroke_1 42 rfl) (by decide) ?_
                  refine mx_forget (L' := [.ref q0, .int y1, .int y2, .int y3, .int y4, .int y5, .int y6, .int y7, .int v40, .float 0, .float 0]) ⟨rfl, rfl, rfl, rfl, rfl, rfl, rfl, rfl, rfl, trivial⟩ ?_
                  exact ih h hex
            refine mx_icmp_ne (tgt := 152) (mx_d tX12_stroke_0 58 rfl) (by decide) (fun hc30 => ?_) (fun hc30 => ?_)
            · rw [if_neg hc30] at h
              refine mx_forget (L' := [.ref q0, .int y1, .int y2, .int y3, .int y4, .int y5, .int y6, .int y7, .int y8, .float 0, .int v12]) ⟨rfl, rfl, rfl, rfl, rfl, rfl, rfl, rfl, rfl, rfl, trivial⟩ ?_
              exact j_k32 h
            · rw [if_pos hc30] at h
              refine mx_iload_n (mx_d tX12_stroke_0 59 rfl) rfl rfl ?_
              refine mx_iconst (2) (mx_d tX12_stroke_1 0 rfl) (by decide) ?_
              refine mx_icmp_le (tgt := 152) (mx_d tX12_stroke_1 1 rfl) (by decide) (fun hc41 => ?_) (fun hc41 => ?_)
              · rw [if_pos hc41] at h
                refine mx_forget (L' := [.ref q0, .int y1, .int y2, .int y3, .int y4, .int y5, .int y6, .int y7, .int y8, .float 0, .int v12]) ⟨rfl, rfl, rfl, rfl, rfl, rfl, rfl, rfl, rfl, rfl, trivial⟩ ?_
                exact j_k32 h
              · rw [if_neg hc41] at h
                refine mx_iload (mx_d tX12_stroke_1 2 rfl) rfl ?_
                refine mx_iload (mx_d tX12_stroke_1 3 rfl) rfl ?_
                refine mx_icmp_ne (tgt := 152) (mx_d tX12_stroke_1 4 rfl) (by decide) (fun hc42 => ?_) (fun hc42 => ?_)
                · rw [if_neg hc42] at h
                  refine mx_forget (L' := [.ref q0, .int y1, .int y2, .int y3, .int y4, .int y5, .int y6, .int y7, .int y8, .float 0, .int v12]) ⟨rfl, rfl, rfl, rfl, rfl, rfl, rfl, rfl, rfl, rfl, trivial⟩ ?_
                  exact j_k32 h
                · rw [if_pos hc42] at h
                  refine mx_iload (mx_d tX12_stroke_1 5 rfl) rfl ?_
                  refine mx_iload (mx_d tX12_stroke_1 6 rfl) rfl ?_
                  refine mx_iadd (mx_d tX12_stroke_1 7 rfl) ?_
                  refine mx_aload_n (mx_d tX12_stroke_1 8 rfl) rfl rfl ?_
                  refine mx_getI (mx_d tX12_stroke_1 9 rfl) fX12_404 rfl (Or.inl rfl) (ly12_o g0) ?_
                  refine mx_icmp_le (tgt := 152) (mx_d tX12_stroke_1 10 rfl) (by decide) (fun hc43 => ?_) (fun hc43 => ?_)
                  · rw [if_pos hc43] at h
                    refine mx_forget (L' := [.ref q0, .int y1, .int y2, .int y3, .int y4, .int y5, .int y6, .int y7, .int y8, .float 0, .int v12]) ⟨rfl, rfl, rfl, rfl, rfl, rfl, rfl, rfl, rfl, rfl, trivial⟩ ?_
                    exact j_k32 h
                  · rw [if_neg hc43] at h
                    refine mx_aload_n (mx_d tX12_stroke_1 11 rfl) rfl rfl ?_
                    refine mx_iload (mx_d tX12_stroke_1 12 rfl) rfl ?_
                    refine mx_iload (mx_d tX12_stroke_1 13 rfl) rfl ?_
                    refine mx_iadd (mx_d tX12_stroke_1 14 rfl) ?_
                    obtain ⟨m44, e_m44, h⟩ := mx_letE h
                    refine mx_putI (mx_d tX12_stroke_1 15 rfl) fX12_404 rfl ⟨_, rfl, rfl⟩ rfl (ly12_o g0) (mx_eqz (z' := (e, m44)) (by rw [e_m44]) ?_)
                    refine mx_forget (L' := [.ref q0, .int y1, .int y2, .int y3, .int y4, .int y5, .int y6, .int y7, .int y8, .float 0, .int v12]) ⟨rfl, rfl, rfl, rfl, rfl, rfl, rfl, rfl, rfl, rfl, trivial⟩ ?_
                    exact j_k32 h
        · rw [if_pos hc9] at h
          refine mx_goto (tgt := 196) (mx_d tX12_stroke_0 38 rfl) (by decide) ?_
          obtain ⟨v45, e_v45, h⟩ := mx_letE h
          refine mx_iinc v45 (L2 := [.ref q0, .int y1, .int y2, .int y3, .int y4, .int y5, .int y6, .int y7, .int v45, .float 0, .float 0]) (mx_d tX12_stroke_1 41 rfl) rfl (by rw [e_v45]; rfl) (by decide) rfl ?_
          refine mx_goto (tgt := 44) (mx_d tX12_stroke_1 42 rfl) (by decide) ?_
          exact ih h hex
def FX12_stroke_B (rec : Nat → Int32 → Int32 → Int32 → Int32 → Int32 → Int32 → Int32 → mB → Option mB) (a : Nat) (x0 : Int32) (x1 : Int32) (x2 : Int32) (x3 : Int32) (x4 : Int32) (x5 : Int32) (x6 : Int32) (m : mB) : Option mB := mx_let (fun (m2 : mB) => Option.bind (FX12_stroke_L44 rec a x0 x1 x2 x3 x4 x5 x6 mx_FU 0 m2) (fun q46 => (some q46))) (fun k3 => mx_let (mx_let ((if x6 ≤ (m.1 a 49) then (k3 m) else mx_let (mx_up m.1 a 49 x6, m.2) (fun m51 => (k3 m51)))) (fun k49 => (if x4 = 0 then Option.bind (FX12_isLone a x1 m) (fun r52 => (if r52 = 0 then (k3 m) else k49)) else k49))) (fun k47 => (if x3 = 0 then Option.bind (FX12_isLone a x0 m) (fun r54 => (if r54 = 0 then (k3 m) else k47)) else k47)))
def FX12_stroke : Nat → Nat → Int32 → Int32 → Int32 → Int32 → Int32 → Int32 → Int32 → mB → Option mB
  | 0, _, _, _, _, _, _, _, _, _ => none
  | D + 1, a, x0, x1, x2, x3, x4, x5, x6, m => FX12_stroke_B (FX12_stroke D) a x0 x1 x2 x3 x4 x5 x6 m
set_option maxRecDepth 20000 in
theorem CX12_stroke_B {G : mG} {l : Launch} {e : mE} {rec : Nat → Int32 → Int32 → Int32 → Int32 → Int32 → Int32 → Int32 → mB → Option mB} {D : Nat} {a : Nat} {x0 : Int32} {x1 : Int32} {x2 : Int32} {x3 : Int32} {x4 : Int32} {x5 : Int32} {x6 : Int32} {m : mB} {r : mB} (hrec : ∀ {a : Nat} {x0 : Int32} {x1 : Int32} {x2 : Int32} {x3 : Int32} {x4 : Int32} {x5 : Int32} {x6 : Int32} {m : mB} {r : mB}, ly12 e a → rec a x0 x1 x2 x3 x4 x5 x6 m = some r → mx_Call G l MX12_stroke D 0 0 [.ref a, .int x0, .int x1, .int x2, .int x3, .int x4, .int x5, .int x6] (e, m) (fun v z => v = none ∧ z = (e, r))) (h0 : ly12 e a) (h : FX12_stroke_B rec a x0 x1 x2 x3 x4 x5 x6 m = some r) : mx_Call G l MX12_stroke (D + 4) 0 0 [.ref a, .int x0, .int x1, .int x2, .int x3, .int x4, .int x5, .int x6] (e, m) (fun v z => v = none ∧ z = (e, r)) := by
  refine mx_entry (L := [.ref a, .int x0, .int x1, .int x2, .int x3, .int x4, .int x5, .int x6, .float 0, .float 0, .float 0]) (by decide +kernel) (Nat.le_of_ble_eq_true rfl) rfl ?_
  unfold FX12_stroke_B at h
  refine mx_iload (mx_d tX12_stroke_0 0 rfl) rfl ?_
  refine mx_letK (J := fun k3 => ∀ {m2 : mB}, k3 m2 = some r → mx_Fr G l MX12_stroke (D + 4) 0 0 (fun v z => v = none ∧ z = (e, r)) 41 [.ref a, .int x0, .int x1, .int x2, .int x3, .int x4, .int x5, .int x6, .float 0, .float 0, .float 0] [] (e, m2)) h ?_ (fun k3 j_k3 h => ?_)
  · intro m2 h
    dsimp only at h
    refine mx_iconst (0) (mx_d tX12_stroke_0 19 rfl) (by decide) ?_
    refine mx_istore (L2 := [.ref a, .int x0, .int x1, .int x2, .int x3, .int x4, .int x5, .int x6, .int 0, .float 0, .float 0]) (mx_d tX12_stroke_0 20 rfl) (by decide) (by rfl) ?_
    obtain ⟨q46, h_q46, h⟩ := Option.bind_eq_some_iff.mp h
    refine CX12_stroke_L44 hrec h0 mx_FU h_q46 ?_
    obtain rfl := Option.some.inj h
    exact mx_return (mx_d tX12_stroke_1 43 rfl) rfl ⟨rfl, rfl⟩
  refine mx_letK (J := fun k47 => k47 = some r → mx_Fr G l MX12_stroke (D + 4) 0 0 (fun v z => v = none ∧ z = (e, r)) 13 [.ref a, .int x0, .int x1, .int x2, .int x3, .int x4, .int x5, .int x6, .float 0, .float 0, .float 0] [] (e, m)) h ?_ (fun k47 j_k47 h => ?_)
  · intro h
    refine mx_iload (mx_d tX12_stroke_0 6 rfl) rfl ?_
    refine mx_letK (J := fun k49 => k49 = some r → mx_Fr G l MX12_stroke (D + 4) 0 0 (fun v z => v = none ∧ z = (e, r)) 26 [.ref a, .int x0, .int x1, .int x2, .int x3, .int x4, .int x5, .int x6, .float 0, .float 0, .float 0] [] (e, m)) h ?_ (fun k49 j_k49 h => ?_)
    · intro h
      refine mx_iload (mx_d tX12_stroke_0 12 rfl) rfl ?_
      refine mx_aload_n (mx_d tX12_stroke_0 13 rfl) rfl rfl ?_
      refine mx_getI (mx_d tX12_stroke_0 14 rfl) fX12_404 rfl (Or.inl rfl) (ly12_o h0) ?_
      refine mx_icmp_le (tgt := 41) (mx_d tX12_stroke_0 15 rfl) (by decide) (fun hc50 => ?_) (fun hc50 => ?_)
      · rw [if_pos hc50] at h
        exact j_k3 h
      · rw [if_neg hc50] at h
        refine mx_aload_n (mx_d tX12_stroke_0 16 rfl) rfl rfl ?_
        refine mx_iload (mx_d tX12_stroke_0 17 rfl) rfl ?_
        obtain ⟨m51, e_m51, h⟩ := mx_letE h
        refine mx_putI (mx_d tX12_stroke_0 18 rfl) fX12_404 rfl ⟨_, rfl, rfl⟩ rfl (ly12_o h0) (mx_eqz (z' := (e, m51)) (by rw [e_m51]) ?_)
        exact j_k3 h
    refine mx_if_ne (tgt := 26) (mx_d tX12_stroke_0 7 rfl) (by decide) (fun hc48 => ?_) (fun hc48 => ?_)
    · rw [if_neg hc48] at h
      exact j_k49 h
    · rw [if_pos hc48] at h
      refine mx_aload_n (mx_d tX12_stroke_0 8 rfl) rfl rfl ?_
      refine mx_iload_n (mx_d tX12_stroke_0 9 rfl) rfl rfl ?_
      obtain ⟨r52, h_r52, h⟩ := Option.bind_eq_some_iff.mp h
      refine mx_cVi (mx_d tX12_stroke_0 10 rfl) iX12_294 rfl vX12_isLone ⟨_, rfl, rfl⟩ (ly12_o h0) (CX12_isLone h0 h_r52) (by omega) rfl rfl (Nat.le_of_ble_eq_true rfl) ?_
      refine mx_if_eq (tgt := 41) (mx_d tX12_stroke_0 11 rfl) (by decide) (fun hc53 => ?_) (fun hc53 => ?_)
      · rw [if_pos hc53] at h
        exact j_k3 h
      · rw [if_neg hc53] at h
        exact j_k49 h
  refine mx_if_ne (tgt := 13) (mx_d tX12_stroke_0 1 rfl) (by decide) (fun hc1 => ?_) (fun hc1 => ?_)
  · rw [if_neg hc1] at h
    exact j_k47 h
  · rw [if_pos hc1] at h
    refine mx_aload_n (mx_d tX12_stroke_0 2 rfl) rfl rfl ?_
    refine mx_iload_n (mx_d tX12_stroke_0 3 rfl) rfl rfl ?_
    obtain ⟨r54, h_r54, h⟩ := Option.bind_eq_some_iff.mp h
    refine mx_cVi (mx_d tX12_stroke_0 4 rfl) iX12_294 rfl vX12_isLone ⟨_, rfl, rfl⟩ (ly12_o h0) (CX12_isLone h0 h_r54) (by omega) rfl rfl (Nat.le_of_ble_eq_true rfl) ?_
    refine mx_if_eq (tgt := 41) (mx_d tX12_stroke_0 5 rfl) (by decide) (fun hc55 => ?_) (fun hc55 => ?_)
    · rw [if_pos hc55] at h
      exact j_k3 h
    · rw [if_neg hc55] at h
      exact j_k47 h
theorem CX12_stroke {G : mG} {l : Launch} {e : mE} : ∀ (D : Nat) {a : Nat} {x0 : Int32} {x1 : Int32} {x2 : Int32} {x3 : Int32} {x4 : Int32} {x5 : Int32} {x6 : Int32} {m : mB} {r : mB}, ly12 e a → FX12_stroke D a x0 x1 x2 x3 x4 x5 x6 m = some r → mx_Call G l MX12_stroke (4 * D) 0 0 [.ref a, .int x0, .int x1, .int x2, .int x3, .int x4, .int x5, .int x6] (e, m) (fun v z => v = none ∧ z = (e, r)) := by
  intro D
  induction D with
  | zero => intro _ _ _ _ _ _ _ _ _ _ _ h; cases h
  | succ D ih =>
    intro a x0 x1 x2 x3 x4 x5 x6 m r h0 h
    rw [FX12_stroke] at h
    have hh := CX12_stroke_B (rec := FX12_stroke D) (D := 4 * D) (fun {_ _ _ _ _ _ _ _} {_} {_} zh0 hz => ih zh0 hz) h0 h
    rw [show 4 * (D + 1) = 4 * D + 4 by omega]
    exact hh
def FX12_gain_L24 (q0 : Nat) (y1 : Int32) : Nat → Int32 → mB → Option (mB)
  | 0, _, _ => none
  | f + 1, y2, m => (if (m.1 (q0 + 2) 0) ≤ y2 then (some (m)) else Option.bind (FX12_areLinked q0 y1 y2 m) (fun r5 => (if r5 = 0 then mx_let (y2 + 1) (fun v16 => (FX12_gain_L24 q0 y1 f v16 m)) else Option.bind (FX12_arePaired q0 y1 y2 m) (fun r7 => Option.bind (FX12_between q0 y1 y2 m) (fun r8 => mx_chk (mx_inb (128 + r8) 432) (mx_let (m.1 (q0 + 2) (Int32.toNatClampNeg (128 + r8))) (fun v10 => (if r7 = 0 then Option.bind (FX12_stroke 64 q0 y1 y2 1 r7 r7 (((1 : Int32) <<< (y1 &&& 31)) ||| ((1 : Int32) <<< (y2 &&& 31))) v10 m) (fun r12 => mx_let (y2 + 1) (fun v13 => (FX12_gain_L24 q0 y1 f v13 r12))) else Option.bind (FX12_stroke 64 q0 y1 y2 1 r7 r7 (((1 : Int32) <<< (y1 &&& 31)) ||| ((1 : Int32) <<< (y2 &&& 31))) (-v10) m) (fun r14 => mx_let (y2 + 1) (fun v15 => (FX12_gain_L24 q0 y1 f v15 r14)))))))))))
set_option maxRecDepth 20000 in
theorem CX12_gain_L24 {G : mG} {l : Launch} {e : mE} {Post : Option Value → mS → Prop} {q0 : Nat} {y1 : Int32} (g0 : ly12 e q0) : ∀ (f : Nat) {y2 : Int32} {m : mB} {q : (mB)}, FX12_gain_L24 q0 y1 f y2 m = some q → (mx_Fr G l MX12_gain 257 0 0 Post 104 [.ref q0, .int y1, .float 0, .float 0, .float 0] [] (e, q)) → mx_Fr G l MX12_gain 257 0 0 Post 24 [.ref q0, .int y1, .int y2, .float 0, .float 0] [] (e, m) := by
  intro f
  induction f with
  | zero => intro _ _ _ h; cases h
  | succ f ih =>
    intro y2 m q h hex
    rw [FX12_gain_L24] at h
    refine mx_iload_n (mx_d tX12_gain_0 16 rfl) rfl rfl ?_
    refine mx_aload_n (mx_d tX12_gain_0 17 rfl) rfl rfl ?_
    refine mx_getR (mx_d tX12_gain_0 18 rfl) fX12_98 rfl rfl (ly12_o g0) (ly12_r14 g0) ?_
    refine mx_iconst (0) (mx_d tX12_gain_0 19 rfl) (by decide) ?_
    refine mx_ialoadC 0 (mx_d tX12_gain_0 20 rfl) (ly12_s14 g0) (by decide) (mx_inbE (by decide)) ?_
    refine mx_icmp_ge (tgt := 104) (mx_d tX12_gain_0 21 rfl) (by decide) (fun hc4 => ?_) (fun hc4 => ?_)
    · rw [if_pos hc4] at h
      obtain rfl := Option.some.inj h
      refine mx_forget (L' := [.ref q0, .int y1, .float 0, .float 0, .float 0]) ⟨rfl, rfl, trivial⟩ ?_
      exact hex
    · rw [if_neg hc4] at h
      refine mx_aload_n (mx_d tX12_gain_0 22 rfl) rfl rfl ?_
      refine mx_iload_n (mx_d tX12_gain_0 23 rfl) rfl rfl ?_
      refine mx_iload_n (mx_d tX12_gain_0 24 rfl) rfl rfl ?_
      obtain ⟨r5, h_r5, h⟩ := Option.bind_eq_some_iff.mp h
      refine mx_cVi (mx_d tX12_gain_0 25 rfl) iX12_300 rfl vX12_areLinked ⟨_, rfl, rfl⟩ (ly12_o g0) (CX12_areLinked g0 h_r5) (by decide) rfl rfl (Nat.le_of_ble_eq_true rfl) ?_
      refine mx_if_ne (tgt := 46) (mx_d tX12_gain_0 26 rfl) (by decide) (fun hc6 => ?_) (fun hc6 => ?_)
      · rw [if_neg hc6] at h
        refine mx_aload_n (mx_d tX12_gain_0 28 rfl) rfl rfl ?_
        refine mx_iload_n (mx_d tX12_gain_0 29 rfl) rfl rfl ?_
        refine mx_iload_n (mx_d tX12_gain_0 30 rfl) rfl rfl ?_
        obtain ⟨r7, h_r7, h⟩ := Option.bind_eq_some_iff.mp h
        refine mx_cVi (mx_d tX12_gain_0 31 rfl) iX12_254 rfl vX12_arePaired ⟨_, rfl, rfl⟩ (ly12_o g0) (CX12_arePaired g0 h_r7) (by decide) rfl rfl (Nat.le_of_ble_eq_true rfl) ?_
        refine mx_istore_n (L2 := [.ref q0, .int y1, .int y2, .int r7, .float 0]) (mx_d tX12_gain_0 32 rfl) rfl (by decide) (by rfl) ?_
        refine mx_aload_n (mx_d tX12_gain_0 33 rfl) rfl rfl ?_
        refine mx_getR (mx_d tX12_gain_0 34 rfl) fX12_98 rfl rfl (ly12_o g0) (ly12_r14 g0) ?_
        refine mx_sipush (128) (mx_d tX12_gain_0 35 rfl) (by decide) ?_
        refine mx_aload_n (mx_d tX12_gain_0 36 rfl) rfl rfl ?_
        refine mx_iload_n (mx_d tX12_gain_0 37 rfl) rfl rfl ?_
        refine mx_iload_n (mx_d tX12_gain_0 38 rfl) rfl rfl ?_
        obtain ⟨r8, h_r8, h⟩ := Option.bind_eq_some_iff.mp h
        refine mx_cVi (mx_d tX12_gain_0 39 rfl) iX12_250 rfl vX12_between ⟨_, rfl, rfl⟩ (ly12_o g0) (CX12_between g0 h_r8) (by decide) rfl rfl (Nat.le_of_ble_eq_true rfl) ?_
        refine mx_iadd (mx_d tX12_gain_0 40 rfl) ?_
        obtain ⟨hi9, h⟩ := mx_chkE h
        refine mx_iaload (mx_d tX12_gain_0 41 rfl) (ly12_s14 g0) (mx_inbE hi9) ?_
        obtain ⟨v10, e_v10, h⟩ := mx_letE h
        refine mx_istore (L2 := [.ref q0, .int y1, .int y2, .int r7, .int v10]) (mx_d tX12_gain_0 42 rfl) (by decide) (by rw [e_v10]; rfl) ?_
        refine mx_aload_n (mx_d tX12_gain_0 43 rfl) rfl rfl ?_
        refine mx_iload_n (mx_d tX12_gain_0 44 rfl) rfl rfl ?_
        refine mx_iload_n (mx_d tX12_gain_0 45 rfl) rfl rfl ?_
        refine mx_iconst (1) (mx_d tX12_gain_0 46 rfl) (by decide) ?_
        refine mx_iload_n (mx_d tX12_gain_0 47 rfl) rfl rfl ?_
        refine mx_iload_n (mx_d tX12_gain_0 48 rfl) rfl rfl ?_
        refine mx_iconst (1) (mx_d tX12_gain_0 49 rfl) (by decide) ?_
        refine mx_iload_n (mx_d tX12_gain_0 50 rfl) rfl rfl ?_
        refine mx_ishl (mx_d tX12_gain_0 51 rfl) ?_
        refine mx_iconst (1) (mx_d tX12_gain_0 52 rfl) (by decide) ?_
        refine mx_iload_n (mx_d tX12_gain_0 53 rfl) rfl rfl ?_
        refine mx_ishl (mx_d tX12_gain_0 54 rfl) ?_
        refine mx_ior (mx_d tX12_gain_0 55 rfl) ?_
        refine mx_iload_n (mx_d tX12_gain_0 56 rfl) rfl rfl ?_
        refine mx_if_eq (tgt := 93) (mx_d tX12_gain_0 57 rfl) (by decide) (fun hc11 => ?_) (fun hc11 => ?_)
        · rw [if_pos hc11] at h
          refine mx_iload (mx_d tX12_gain_1 1 rfl) rfl ?_
          obtain ⟨r12, h_r12, h⟩ := Option.bind_eq_some_iff.mp h
          refine mx_cVv (mx_d tX12_gain_1 2 rfl) iX12_407 rfl vX12_stroke ⟨_, rfl, rfl⟩ (ly12_o g0) (CX12_stroke 64 g0 h_r12) (by decide) rfl rfl (Nat.le_of_ble_eq_true rfl) ?_
          obtain ⟨v13, e_v13, h⟩ := mx_letE h
          refine mx_iinc v13 (L2 := [.ref q0, .int y1, .int v13, .int r7, .int v10]) (mx_d tX12_gain_1 3 rfl) rfl (by rw [e_v13]; rfl) (by decide) rfl ?_
          refine mx_goto (tgt := 24) (mx_d tX12_gain_1 4 rfl) (by decide) ?_
          refine mx_forget (L' := [.ref q0, .int y1, .int v13, .float 0, .float 0]) ⟨rfl, rfl, rfl, trivial⟩ ?_
          exact ih h hex
        · rw [if_neg hc11] at h
          refine mx_iload (mx_d tX12_gain_0 58 rfl) rfl ?_
          refine mx_ineg (mx_d tX12_gain_0 59 rfl) ?_
          refine mx_goto (tgt := 95) (mx_d tX12_gain_1 0 rfl) (by decide) ?_
          obtain ⟨r14, h_r14, h⟩ := Option.bind_eq_some_iff.mp h
          refine mx_cVv (mx_d tX12_gain_1 2 rfl) iX12_407 rfl vX12_stroke ⟨_, rfl, rfl⟩ (ly12_o g0) (CX12_stroke 64 g0 h_r14) (by decide) rfl rfl (Nat.le_of_ble_eq_true rfl) ?_
          obtain ⟨v15, e_v15, h⟩ := mx_letE h
          refine mx_iinc v15 (L2 := [.ref q0, .int y1, .int v15, .int r7, .int v10]) (mx_d tX12_gain_1 3 rfl) rfl (by rw [e_v15]; rfl) (by decide) rfl ?_
          refine mx_goto (tgt := 24) (mx_d tX12_gain_1 4 rfl) (by decide) ?_
          refine mx_forget (L' := [.ref q0, .int y1, .int v15, .float 0, .float 0]) ⟨rfl, rfl, rfl, trivial⟩ ?_
          exact ih h hex
      · rw [if_pos hc6] at h
        refine mx_goto (tgt := 98) (mx_d tX12_gain_0 27 rfl) (by decide) ?_
        obtain ⟨v16, e_v16, h⟩ := mx_letE h
        refine mx_iinc v16 (L2 := [.ref q0, .int y1, .int v16, .float 0, .float 0]) (mx_d tX12_gain_1 3 rfl) rfl (by rw [e_v16]; rfl) (by decide) rfl ?_
        refine mx_goto (tgt := 24) (mx_d tX12_gain_1 4 rfl) (by decide) ?_
        exact ih h hex
def FX12_gain_L12 (q0 : Nat) : Nat → Int32 → mB → Option (mB)
  | 0, _, _ => none
  | f + 1, y1, m => (if (m.1 (q0 + 2) 0) ≤ y1 then (some (m)) else Option.bind (FX12_gain_L24 q0 y1 mx_FU 0 m) (fun q17 => mx_let (y1 + 1) (fun v18 => (FX12_gain_L12 q0 f v18 q17))))
set_option maxRecDepth 20000 in
theorem CX12_gain_L12 {G : mG} {l : Launch} {e : mE} {Post : Option Value → mS → Prop} {q0 : Nat} (g0 : ly12 e q0) : ∀ (f : Nat) {y1 : Int32} {m : mB} {q : (mB)}, FX12_gain_L12 q0 f y1 m = some q → (mx_Fr G l MX12_gain 257 0 0 Post 110 [.ref q0, .float 0, .float 0, .float 0, .float 0] [] (e, q)) → mx_Fr G l MX12_gain 257 0 0 Post 12 [.ref q0, .int y1, .float 0, .float 0, .float 0] [] (e, m) := by
  intro f
  induction f with
  | zero => intro _ _ _ h; cases h
  | succ f ih =>
    intro y1 m q h hex
    rw [FX12_gain_L12] at h
    refine mx_iload_n (mx_d tX12_gain_0 8 rfl) rfl rfl ?_
    refine mx_aload_n (mx_d tX12_gain_0 9 rfl) rfl rfl ?_
    refine mx_getR (mx_d tX12_gain_0 10 rfl) fX12_98 rfl rfl (ly12_o g0) (ly12_r14 g0) ?_
    refine mx_iconst (0) (mx_d tX12_gain_0 11 rfl) (by decide) ?_
    refine mx_ialoadC 0 (mx_d tX12_gain_0 12 rfl) (ly12_s14 g0) (by decide) (mx_inbE (by decide)) ?_
    refine mx_icmp_ge (tgt := 110) (mx_d tX12_gain_0 13 rfl) (by decide) (fun hc3 => ?_) (fun hc3 => ?_)
    · rw [if_pos hc3] at h
      obtain rfl := Option.some.inj h
      refine mx_forget (L' := [.ref q0, .float 0, .float 0, .float 0, .float 0]) ⟨rfl, trivial⟩ ?_
      exact hex
    · rw [if_neg hc3] at h
      refine mx_iconst (0) (mx_d tX12_gain_0 14 rfl) (by decide) ?_
      refine mx_istore_n (L2 := [.ref q0, .int y1, .int 0, .float 0, .float 0]) (mx_d tX12_gain_0 15 rfl) rfl (by decide) (by rfl) ?_
      obtain ⟨q17, h_q17, h⟩ := Option.bind_eq_some_iff.mp h
      refine CX12_gain_L24 g0 mx_FU h_q17 ?_
      obtain ⟨v18, e_v18, h⟩ := mx_letE h
      refine mx_iinc v18 (L2 := [.ref q0, .int v18, .float 0, .float 0, .float 0]) (mx_d tX12_gain_1 5 rfl) rfl (by rw [e_v18]; rfl) (by decide) rfl ?_
      refine mx_goto (tgt := 12) (mx_d tX12_gain_1 6 rfl) (by decide) ?_
      exact ih h hex
def FX12_gain (a : Nat) (m : mB) : Option (Int32 × mB) := mx_let (mx_up m.1 a 0 0, m.2) (fun m1 => mx_let (mx_up m1.1 a 49 0, m1.2) (fun m2 => Option.bind (FX12_gain_L12 a mx_FU 0 m2) (fun q19 => (some ((q19.1 a 49), q19)))))
set_option maxRecDepth 20000 in
theorem CX12_gain {G : mG} {l : Launch} {e : mE} {a : Nat} {m : mB} {r : (Int32 × mB)} (h0 : ly12 e a) (h : FX12_gain a m = some r) : mx_Call G l MX12_gain 257 0 0 [.ref a] (e, m) (fun v z => v = some (.int r.1) ∧ z = (e, r.2)) := by
  refine mx_entry (L := [.ref a, .float 0, .float 0, .float 0, .float 0]) (by decide +kernel) (Nat.le_of_ble_eq_true rfl) rfl ?_
  unfold FX12_gain at h
  refine mx_aload_n (mx_d tX12_gain_0 0 rfl) rfl rfl ?_
  refine mx_iconst (0) (mx_d tX12_gain_0 1 rfl) (by decide) ?_
  obtain ⟨m1, e_m1, h⟩ := mx_letE h
  refine mx_putI (mx_d tX12_gain_0 2 rfl) fX12_1 rfl ⟨_, rfl, rfl⟩ rfl (ly12_o h0) (mx_eqz (z' := (e, m1)) (by rw [e_m1]) ?_)
  refine mx_aload_n (mx_d tX12_gain_0 3 rfl) rfl rfl ?_
  refine mx_iconst (0) (mx_d tX12_gain_0 4 rfl) (by decide) ?_
  obtain ⟨m2, e_m2, h⟩ := mx_letE h
  refine mx_putI (mx_d tX12_gain_0 5 rfl) fX12_404 rfl ⟨_, rfl, rfl⟩ rfl (ly12_o h0) (mx_eqz (z' := (e, m2)) (by rw [e_m2]) ?_)
  refine mx_iconst (0) (mx_d tX12_gain_0 6 rfl) (by decide) ?_
  refine mx_istore_n (L2 := [.ref a, .int 0, .float 0, .float 0, .float 0]) (mx_d tX12_gain_0 7 rfl) rfl (by decide) (by rfl) ?_
  obtain ⟨q19, h_q19, h⟩ := Option.bind_eq_some_iff.mp h
  refine CX12_gain_L12 h0 mx_FU h_q19 ?_
  refine mx_aload_n (mx_d tX12_gain_1 7 rfl) rfl rfl ?_
  refine mx_getI (mx_d tX12_gain_1 8 rfl) fX12_404 rfl (Or.inl rfl) (ly12_o h0) ?_
  obtain rfl := Option.some.inj h
  exact mx_ireturn (mx_d tX12_gain_1 9 rfl) rfl ⟨rfl, rfl⟩
def FX12_fraction (a : Nat) (x0 : Int32) (x1 : Int32) (x2 : Int32) (m : mB) : Option Int32 := (if x2 = 0 then Option.bind (FX12_common x0 x1 m) (fun r4 => mx_chk (mx_nz r4) ((some (x0 / r4)))) else Option.bind (FX12_common x0 x1 m) (fun r2 => mx_chk (mx_nz r2) ((some (x1 / r2)))))
set_option maxRecDepth 20000 in
theorem CX12_fraction {G : mG} {l : Launch} {e : mE} {a : Nat} {x0 : Int32} {x1 : Int32} {x2 : Int32} {m : mB} {r : Int32} (h0 : ly12 e a) (h : FX12_fraction a x0 x1 x2 m = some r) : mx_Call G l MX12_fraction 2 0 0 [.ref a, .int x0, .int x1, .int x2] (e, m) (fun v z => v = some (.int r) ∧ z = (e, m)) := by
  refine mx_entry (L := [.ref a, .int x0, .int x1, .int x2]) (by decide +kernel) (Nat.le_of_ble_eq_true rfl) rfl ?_
  unfold FX12_fraction at h
  refine mx_iload_n (mx_d tX12_fraction_0 0 rfl) rfl rfl ?_
  refine mx_if_ne (tgt := 8) (mx_d tX12_fraction_0 1 rfl) (by decide) (fun hc1 => ?_) (fun hc1 => ?_)
  · rw [if_neg hc1] at h
    refine mx_iload_n (mx_d tX12_fraction_0 4 rfl) rfl rfl ?_
    refine mx_iload_n (mx_d tX12_fraction_0 5 rfl) rfl rfl ?_
    refine mx_iload_n (mx_d tX12_fraction_0 6 rfl) rfl rfl ?_
    obtain ⟨r2, h_r2, h⟩ := Option.bind_eq_some_iff.mp h
    refine mx_cSi (mx_d tX12_fraction_0 7 rfl) iX12_411 rfl sX12_common (CX12_common  h_r2) (by decide) rfl rfl (Nat.le_of_ble_eq_true rfl) ?_
    obtain ⟨hz3, h⟩ := mx_chkE h
    refine mx_idiv (mx_d tX12_fraction_0 8 rfl) (mx_nzE hz3) ?_
    obtain rfl := Option.some.inj h
    exact mx_ireturn (mx_d tX12_fraction_0 9 rfl) rfl ⟨rfl, rfl⟩
  · rw [if_pos hc1] at h
    refine mx_iload_n (mx_d tX12_fraction_0 2 rfl) rfl rfl ?_
    refine mx_goto (tgt := 9) (mx_d tX12_fraction_0 3 rfl) (by decide) ?_
    refine mx_iload_n (mx_d tX12_fraction_0 5 rfl) rfl rfl ?_
    refine mx_iload_n (mx_d tX12_fraction_0 6 rfl) rfl rfl ?_
    obtain ⟨r4, h_r4, h⟩ := Option.bind_eq_some_iff.mp h
    refine mx_cSi (mx_d tX12_fraction_0 7 rfl) iX12_411 rfl sX12_common (CX12_common  h_r4) (by decide) rfl rfl (Nat.le_of_ble_eq_true rfl) ?_
    obtain ⟨hz5, h⟩ := mx_chkE h
    refine mx_idiv (mx_d tX12_fraction_0 8 rfl) (mx_nzE hz5) ?_
    obtain rfl := Option.some.inj h
    exact mx_ireturn (mx_d tX12_fraction_0 9 rfl) rfl ⟨rfl, rfl⟩
def FX12_mean (a : Nat) (x0 : Int32) (m : mB) : Option (Int32 × mB) := mx_let (mx_up m.1 a 0 0, m.2) (fun m1 => Option.bind (FX12_pairMany a m1) (fun r2 => (if r2 ≤ 0 then Option.bind (FX12_refuse a m1) (fun r4 => (some (r4.1, r4.2))) else Option.bind (FX12_isIn x0 0 1 m1) (fun r5 => (if r5 = 0 then Option.bind (FX12_refuse a m1) (fun r7 => (some (r7.1, r7.2))) else Option.bind (FX12_totalNow a m1) (fun r8 => Option.bind (FX12_pairMany a m1) (fun r9 => Option.bind (FX12_fraction a r8 r9 x0 m1) (fun r10 => (some (r10, m1))))))))))
set_option maxRecDepth 20000 in
theorem CX12_mean {G : mG} {l : Launch} {e : mE} {a : Nat} {x0 : Int32} {m : mB} {r : (Int32 × mB)} (h0 : ly12 e a) (h : FX12_mean a x0 m = some r) : mx_Call G l MX12_mean 4 0 0 [.ref a, .int x0] (e, m) (fun v z => v = some (.int r.1) ∧ z = (e, r.2)) := by
  refine mx_entry (L := [.ref a, .int x0]) (by decide +kernel) (Nat.le_of_ble_eq_true rfl) rfl ?_
  unfold FX12_mean at h
  refine mx_aload_n (mx_d tX12_mean_0 0 rfl) rfl rfl ?_
  refine mx_iconst (0) (mx_d tX12_mean_0 1 rfl) (by decide) ?_
  obtain ⟨m1, e_m1, h⟩ := mx_letE h
  refine mx_putI (mx_d tX12_mean_0 2 rfl) fX12_1 rfl ⟨_, rfl, rfl⟩ rfl (ly12_o h0) (mx_eqz (z' := (e, m1)) (by rw [e_m1]) ?_)
  refine mx_aload_n (mx_d tX12_mean_0 3 rfl) rfl rfl ?_
  obtain ⟨r2, h_r2, h⟩ := Option.bind_eq_some_iff.mp h
  refine mx_cVi (mx_d tX12_mean_0 4 rfl) iX12_291 rfl vX12_pairMany ⟨_, rfl, rfl⟩ (ly12_o h0) (CX12_pairMany h0 h_r2) (by decide) rfl rfl (Nat.le_of_ble_eq_true rfl) ?_
  refine mx_if_le (tgt := 37) (mx_d tX12_mean_0 5 rfl) (by decide) (fun hc3 => ?_) (fun hc3 => ?_)
  · rw [if_pos hc3] at h
    refine mx_aload_n (mx_d tX12_mean_0 19 rfl) rfl rfl ?_
    obtain ⟨r4, h_r4, h⟩ := Option.bind_eq_some_iff.mp h
    refine mx_cVi (mx_d tX12_mean_0 20 rfl) iX12_272 rfl vX12_refuse ⟨_, rfl, rfl⟩ (ly12_o h0) (CX12_refuse h0 h_r4) (by decide) rfl rfl (Nat.le_of_ble_eq_true rfl) ?_
    obtain rfl := Option.some.inj h
    exact mx_ireturn (mx_d tX12_mean_0 21 rfl) rfl ⟨rfl, rfl⟩
  · rw [if_neg hc3] at h
    refine mx_iload_n (mx_d tX12_mean_0 6 rfl) rfl rfl ?_
    refine mx_iconst (0) (mx_d tX12_mean_0 7 rfl) (by decide) ?_
    refine mx_iconst (1) (mx_d tX12_mean_0 8 rfl) (by decide) ?_
    obtain ⟨r5, h_r5, h⟩ := Option.bind_eq_some_iff.mp h
    refine mx_cSi (mx_d tX12_mean_0 9 rfl) iX12_75 rfl sX12_isIn (CX12_isIn  h_r5) (by decide) rfl rfl (Nat.le_of_ble_eq_true rfl) ?_
    refine mx_if_eq (tgt := 37) (mx_d tX12_mean_0 10 rfl) (by decide) (fun hc6 => ?_) (fun hc6 => ?_)
    · rw [if_pos hc6] at h
      refine mx_aload_n (mx_d tX12_mean_0 19 rfl) rfl rfl ?_
      obtain ⟨r7, h_r7, h⟩ := Option.bind_eq_some_iff.mp h
      refine mx_cVi (mx_d tX12_mean_0 20 rfl) iX12_272 rfl vX12_refuse ⟨_, rfl, rfl⟩ (ly12_o h0) (CX12_refuse h0 h_r7) (by decide) rfl rfl (Nat.le_of_ble_eq_true rfl) ?_
      obtain rfl := Option.some.inj h
      exact mx_ireturn (mx_d tX12_mean_0 21 rfl) rfl ⟨rfl, rfl⟩
    · rw [if_neg hc6] at h
      refine mx_aload_n (mx_d tX12_mean_0 11 rfl) rfl rfl ?_
      refine mx_aload_n (mx_d tX12_mean_0 12 rfl) rfl rfl ?_
      obtain ⟨r8, h_r8, h⟩ := Option.bind_eq_some_iff.mp h
      refine mx_cVi (mx_d tX12_mean_0 13 rfl) iX12_288 rfl vX12_totalNow ⟨_, rfl, rfl⟩ (ly12_o h0) (CX12_totalNow h0 h_r8) (by decide) rfl rfl (Nat.le_of_ble_eq_true rfl) ?_
      refine mx_aload_n (mx_d tX12_mean_0 14 rfl) rfl rfl ?_
      obtain ⟨r9, h_r9, h⟩ := Option.bind_eq_some_iff.mp h
      refine mx_cVi (mx_d tX12_mean_0 15 rfl) iX12_291 rfl vX12_pairMany ⟨_, rfl, rfl⟩ (ly12_o h0) (CX12_pairMany h0 h_r9) (by decide) rfl rfl (Nat.le_of_ble_eq_true rfl) ?_
      refine mx_iload_n (mx_d tX12_mean_0 16 rfl) rfl rfl ?_
      obtain ⟨r10, h_r10, h⟩ := Option.bind_eq_some_iff.mp h
      refine mx_cVi (mx_d tX12_mean_0 17 rfl) iX12_414 rfl vX12_fraction ⟨_, rfl, rfl⟩ (ly12_o h0) (CX12_fraction h0 h_r10) (by decide) rfl rfl (Nat.le_of_ble_eq_true rfl) ?_
      refine mx_goto (tgt := 41) (mx_d tX12_mean_0 18 rfl) (by decide) ?_
      obtain rfl := Option.some.inj h
      exact mx_ireturn (mx_d tX12_mean_0 21 rfl) rfl ⟨rfl, rfl⟩
def FX12_write (a : Nat) (x0 : Int32) (m : mB) : Option mB := mx_chk (mx_inb (m.1 a 51) 48) (mx_let (mx_up m.1 (a + 23) (Int32.toNatClampNeg (m.1 a 51)) x0, m.2) (fun m1 => mx_let (mx_up m1.1 a 51 ((m1.1 a 51) + 1), m1.2) (fun m3 => (some m3))))
set_option maxRecDepth 20000 in
theorem CX12_write {G : mG} {l : Launch} {e : mE} {a : Nat} {x0 : Int32} {m : mB} {r : mB} (h0 : ly12 e a) (h : FX12_write a x0 m = some r) : mx_Call G l MX12_write 1 0 0 [.ref a, .int x0] (e, m) (fun v z => v = none ∧ z = (e, r)) := by
  refine mx_entry (L := [.ref a, .int x0]) (by decide +kernel) (Nat.le_of_ble_eq_true rfl) rfl ?_
  unfold FX12_write at h
  refine mx_aload_n (mx_d tX12_write_0 0 rfl) rfl rfl ?_
  refine mx_getR (mx_d tX12_write_0 1 rfl) fX12_169 rfl rfl (ly12_o h0) (ly12_r50 h0) ?_
  refine mx_aload_n (mx_d tX12_write_0 2 rfl) rfl rfl ?_
  refine mx_getI (mx_d tX12_write_0 3 rfl) fX12_418 rfl (Or.inl rfl) (ly12_o h0) ?_
  refine mx_iload_n (mx_d tX12_write_0 4 rfl) rfl rfl ?_
  obtain ⟨hi2, h⟩ := mx_chkE h
  obtain ⟨m1, e_m1, h⟩ := mx_letE h
  refine mx_iastore (mx_d tX12_write_0 5 rfl) (ly12_s50 h0) (mx_inbE hi2) (mx_eqz (z' := (e, m1)) (by rw [e_m1]) ?_)
  refine mx_aload_n (mx_d tX12_write_0 6 rfl) rfl rfl ?_
  refine mx_dup (mx_d tX12_write_0 7 rfl) rfl ?_
  refine mx_getI (mx_d tX12_write_0 8 rfl) fX12_418 rfl (Or.inl rfl) (ly12_o h0) ?_
  refine mx_iconst (1) (mx_d tX12_write_0 9 rfl) (by decide) ?_
  refine mx_iadd (mx_d tX12_write_0 10 rfl) ?_
  obtain ⟨m3, e_m3, h⟩ := mx_letE h
  refine mx_putI (mx_d tX12_write_0 11 rfl) fX12_418 rfl ⟨_, rfl, rfl⟩ rfl (ly12_o h0) (mx_eqz (z' := (e, m3)) (by rw [e_m3]) ?_)
  obtain rfl := Option.some.inj h
  exact mx_return (mx_d tX12_write_0 12 rfl) rfl ⟨rfl, rfl⟩
def FX12_writeWord_B (rec : Nat → Int64 → mB → Option mB) (a : Nat) (x0 : Int64) (m : mB) : Option mB := mx_let (fun (m2 : mB) => Option.bind (FX12_write a (96 + (Int64.toInt32 (x0 - x0 / 27 * 27))) m2) (fun r4 => (some r4))) (fun k3 => (if (lg_cmp x0 27) < 0 then (k3 m) else Option.bind (rec a (x0 / 27) m) (fun r5 => (k3 r5))))
def FX12_writeWord : Nat → Nat → Int64 → mB → Option mB
  | 0, _, _, _ => none
  | D + 1, a, x0, m => FX12_writeWord_B (FX12_writeWord D) a x0 m
set_option maxRecDepth 20000 in
theorem CX12_writeWord_B {G : mG} {l : Launch} {e : mE} {rec : Nat → Int64 → mB → Option mB} {D : Nat} {a : Nat} {x0 : Int64} {m : mB} {r : mB} (hrec : ∀ {a : Nat} {x0 : Int64} {m : mB} {r : mB}, ly12 e a → rec a x0 m = some r → mx_Call G l MX12_writeWord D 0 0 [.ref a, .long x0] (e, m) (fun v z => v = none ∧ z = (e, r))) (h0 : ly12 e a) (h : FX12_writeWord_B rec a x0 m = some r) : mx_Call G l MX12_writeWord (D + 2) 0 0 [.ref a, .long x0] (e, m) (fun v z => v = none ∧ z = (e, r)) := by
  refine mx_entry (L := [.ref a, .long x0, .float 0]) (by decide +kernel) (Nat.le_of_ble_eq_true rfl) rfl ?_
  unfold FX12_writeWord_B at h
  refine mx_lload_n (mx_d tX12_writeWord_0 0 rfl) rfl rfl ?_
  refine mx_ldc2 (27) (mx_d tX12_writeWord_0 1 rfl) cX12_54 ?_
  refine mx_lcmp (mx_d tX12_writeWord_0 2 rfl) ?_
  refine mx_letK (J := fun k3 => ∀ {m2 : mB}, k3 m2 = some r → mx_Fr G l MX12_writeWord (D + 2) 0 0 (fun v z => v = none ∧ z = (e, r)) 17 [.ref a, .long x0, .float 0] [] (e, m2)) h ?_ (fun k3 j_k3 h => ?_)
  · intro m2 h
    dsimp only at h
    refine mx_aload_n (mx_d tX12_writeWord_0 9 rfl) rfl rfl ?_
    refine mx_bipush (96) (mx_d tX12_writeWord_0 10 rfl) (by decide) ?_
    refine mx_lload_n (mx_d tX12_writeWord_0 11 rfl) rfl rfl ?_
    refine mx_ldc2 (27) (mx_d tX12_writeWord_0 12 rfl) cX12_54 ?_
    refine mx_lrem (mx_d tX12_writeWord_0 13 rfl) (by decide) ?_
    refine mx_l2i (mx_d tX12_writeWord_0 14 rfl) ?_
    refine mx_iadd (mx_d tX12_writeWord_0 15 rfl) ?_
    obtain ⟨r4, h_r4, h⟩ := Option.bind_eq_some_iff.mp h
    refine mx_cVv (mx_d tX12_writeWord_0 16 rfl) iX12_425 rfl vX12_write ⟨_, rfl, rfl⟩ (ly12_o h0) (CX12_write h0 h_r4) (by omega) rfl rfl (Nat.le_of_ble_eq_true rfl) ?_
    obtain rfl := Option.some.inj h
    exact mx_return (mx_d tX12_writeWord_0 17 rfl) rfl ⟨rfl, rfl⟩
  refine mx_if_lt (tgt := 17) (mx_d tX12_writeWord_0 3 rfl) (by decide) (fun hc1 => ?_) (fun hc1 => ?_)
  · rw [if_pos hc1] at h
    exact j_k3 h
  · rw [if_neg hc1] at h
    refine mx_aload_n (mx_d tX12_writeWord_0 4 rfl) rfl rfl ?_
    refine mx_lload_n (mx_d tX12_writeWord_0 5 rfl) rfl rfl ?_
    refine mx_ldc2 (27) (mx_d tX12_writeWord_0 6 rfl) cX12_54 ?_
    refine mx_ldiv (mx_d tX12_writeWord_0 7 rfl) (by decide) ?_
    obtain ⟨r5, h_r5, h⟩ := Option.bind_eq_some_iff.mp h
    refine mx_cVv (mx_d tX12_writeWord_0 8 rfl) iX12_421 rfl vX12_writeWord ⟨_, rfl, rfl⟩ (ly12_o h0) (hrec h0 h_r5) (by omega) rfl rfl (Nat.le_of_ble_eq_true rfl) ?_
    exact j_k3 h
theorem CX12_writeWord {G : mG} {l : Launch} {e : mE} : ∀ (D : Nat) {a : Nat} {x0 : Int64} {m : mB} {r : mB}, ly12 e a → FX12_writeWord D a x0 m = some r → mx_Call G l MX12_writeWord (2 * D) 0 0 [.ref a, .long x0] (e, m) (fun v z => v = none ∧ z = (e, r)) := by
  intro D
  induction D with
  | zero => intro _ _ _ _ _ h; cases h
  | succ D ih =>
    intro a x0 m r h0 h
    rw [FX12_writeWord] at h
    have hh := CX12_writeWord_B (rec := FX12_writeWord D) (D := 2 * D) (fun {_ _} {_} {_} zh0 hz => ih zh0 hz) h0 h
    rw [show 2 * (D + 1) = 2 * D + 2 by omega]
    exact hh
def FX12_writeNext (a : Nat) (x0 : Int64) (m : mB) : Option mB := Option.bind (FX12_write a 32 m) (fun r1 => Option.bind (FX12_writeWord 64 a x0 r1) (fun r2 => (some r2)))
set_option maxRecDepth 20000 in
theorem CX12_writeNext {G : mG} {l : Launch} {e : mE} {a : Nat} {x0 : Int64} {m : mB} {r : mB} (h0 : ly12 e a) (h : FX12_writeNext a x0 m = some r) : mx_Call G l MX12_writeNext 129 0 0 [.ref a, .long x0] (e, m) (fun v z => v = none ∧ z = (e, r)) := by
  refine mx_entry (L := [.ref a, .long x0, .float 0]) (by decide +kernel) (Nat.le_of_ble_eq_true rfl) rfl ?_
  unfold FX12_writeNext at h
  refine mx_aload_n (mx_d tX12_writeNext_0 0 rfl) rfl rfl ?_
  refine mx_bipush (32) (mx_d tX12_writeNext_0 1 rfl) (by decide) ?_
  obtain ⟨r1, h_r1, h⟩ := Option.bind_eq_some_iff.mp h
  refine mx_cVv (mx_d tX12_writeNext_0 2 rfl) iX12_425 rfl vX12_write ⟨_, rfl, rfl⟩ (ly12_o h0) (CX12_write h0 h_r1) (by decide) rfl rfl (Nat.le_of_ble_eq_true rfl) ?_
  refine mx_aload_n (mx_d tX12_writeNext_0 3 rfl) rfl rfl ?_
  refine mx_lload_n (mx_d tX12_writeNext_0 4 rfl) rfl rfl ?_
  obtain ⟨r2, h_r2, h⟩ := Option.bind_eq_some_iff.mp h
  refine mx_cVv (mx_d tX12_writeNext_0 5 rfl) iX12_421 rfl vX12_writeWord ⟨_, rfl, rfl⟩ (ly12_o h0) (CX12_writeWord 64 h0 h_r2) (by decide) rfl rfl (Nat.le_of_ble_eq_true rfl) ?_
  obtain rfl := Option.some.inj h
  exact mx_return (mx_d tX12_writeNext_0 6 rfl) rfl ⟨rfl, rfl⟩
def FX12_writeNumber_B (rec : Nat → Int32 → mB → Option mB) (a : Nat) (x0 : Int32) (m : mB) : Option mB := mx_let (fun (m2 : mB) => Option.bind (FX12_write a (48 + (x0 - x0 / 10 * 10)) m2) (fun r4 => (some r4))) (fun k3 => (if x0 ≤ 9 then (k3 m) else Option.bind (rec a (x0 / 10) m) (fun r5 => (k3 r5))))
def FX12_writeNumber : Nat → Nat → Int32 → mB → Option mB
  | 0, _, _, _ => none
  | D + 1, a, x0, m => FX12_writeNumber_B (FX12_writeNumber D) a x0 m
set_option maxRecDepth 20000 in
theorem CX12_writeNumber_B {G : mG} {l : Launch} {e : mE} {rec : Nat → Int32 → mB → Option mB} {D : Nat} {a : Nat} {x0 : Int32} {m : mB} {r : mB} (hrec : ∀ {a : Nat} {x0 : Int32} {m : mB} {r : mB}, ly12 e a → rec a x0 m = some r → mx_Call G l MX12_writeNumber D 0 0 [.ref a, .int x0] (e, m) (fun v z => v = none ∧ z = (e, r))) (h0 : ly12 e a) (h : FX12_writeNumber_B rec a x0 m = some r) : mx_Call G l MX12_writeNumber (D + 2) 0 0 [.ref a, .int x0] (e, m) (fun v z => v = none ∧ z = (e, r)) := by
  refine mx_entry (L := [.ref a, .int x0]) (by decide +kernel) (Nat.le_of_ble_eq_true rfl) rfl ?_
  unfold FX12_writeNumber_B at h
  refine mx_iload_n (mx_d tX12_writeNumber_0 0 rfl) rfl rfl ?_
  refine mx_bipush (9) (mx_d tX12_writeNumber_0 1 rfl) (by decide) ?_
  refine mx_letK (J := fun k3 => ∀ {m2 : mB}, k3 m2 = some r → mx_Fr G l MX12_writeNumber (D + 2) 0 0 (fun v z => v = none ∧ z = (e, r)) 14 [.ref a, .int x0] [] (e, m2)) h ?_ (fun k3 j_k3 h => ?_)
  · intro m2 h
    dsimp only at h
    refine mx_aload_n (mx_d tX12_writeNumber_0 8 rfl) rfl rfl ?_
    refine mx_bipush (48) (mx_d tX12_writeNumber_0 9 rfl) (by decide) ?_
    refine mx_iload_n (mx_d tX12_writeNumber_0 10 rfl) rfl rfl ?_
    refine mx_bipush (10) (mx_d tX12_writeNumber_0 11 rfl) (by decide) ?_
    refine mx_irem (mx_d tX12_writeNumber_0 12 rfl) (by decide) ?_
    refine mx_iadd (mx_d tX12_writeNumber_0 13 rfl) ?_
    obtain ⟨r4, h_r4, h⟩ := Option.bind_eq_some_iff.mp h
    refine mx_cVv (mx_d tX12_writeNumber_0 14 rfl) iX12_425 rfl vX12_write ⟨_, rfl, rfl⟩ (ly12_o h0) (CX12_write h0 h_r4) (by omega) rfl rfl (Nat.le_of_ble_eq_true rfl) ?_
    obtain rfl := Option.some.inj h
    exact mx_return (mx_d tX12_writeNumber_0 15 rfl) rfl ⟨rfl, rfl⟩
  refine mx_icmp_le (tgt := 14) (mx_d tX12_writeNumber_0 2 rfl) (by decide) (fun hc1 => ?_) (fun hc1 => ?_)
  · rw [if_pos hc1] at h
    exact j_k3 h
  · rw [if_neg hc1] at h
    refine mx_aload_n (mx_d tX12_writeNumber_0 3 rfl) rfl rfl ?_
    refine mx_iload_n (mx_d tX12_writeNumber_0 4 rfl) rfl rfl ?_
    refine mx_bipush (10) (mx_d tX12_writeNumber_0 5 rfl) (by decide) ?_
    refine mx_idiv (mx_d tX12_writeNumber_0 6 rfl) (by decide) ?_
    obtain ⟨r5, h_r5, h⟩ := Option.bind_eq_some_iff.mp h
    refine mx_cVv (mx_d tX12_writeNumber_0 7 rfl) iX12_428 rfl vX12_writeNumber ⟨_, rfl, rfl⟩ (ly12_o h0) (hrec h0 h_r5) (by omega) rfl rfl (Nat.le_of_ble_eq_true rfl) ?_
    exact j_k3 h
theorem CX12_writeNumber {G : mG} {l : Launch} {e : mE} : ∀ (D : Nat) {a : Nat} {x0 : Int32} {m : mB} {r : mB}, ly12 e a → FX12_writeNumber D a x0 m = some r → mx_Call G l MX12_writeNumber (2 * D) 0 0 [.ref a, .int x0] (e, m) (fun v z => v = none ∧ z = (e, r)) := by
  intro D
  induction D with
  | zero => intro _ _ _ _ _ h; cases h
  | succ D ih =>
    intro a x0 m r h0 h
    rw [FX12_writeNumber] at h
    have hh := CX12_writeNumber_B (rec := FX12_writeNumber D) (D := 2 * D) (fun {_ _} {_} {_} zh0 hz => ih zh0 hz) h0 h
    rw [show 2 * (D + 1) = 2 * D + 2 by omega]
    exact hh
def FX12_tag (a : Nat) (x0 : Int32) (m : mB) : Option (Int32 × mB) := mx_let (mx_up m.1 a 0 0, m.2) (fun m1 => Option.bind (FX12_isPoint a x0 m1) (fun r2 => (if r2 = 0 then (some ((-1), m1)) else mx_let (mx_up m1.1 a 51 0, m1.2) (fun m4 => mx_chk (mx_inb x0 10) (Option.bind (FX12_writeWord 64 a (m4.2 (a + 8) (Int32.toNatClampNeg x0)) m4) (fun r6 => Option.bind (FX12_isLone a x0 r6) (fun r7 => mx_let (fun (m9 : mB) => Option.bind (FX12_spelt 97 116 0 0 0 0 m9) (fun r11 => Option.bind (FX12_writeNext a r11 m9) (fun r12 => Option.bind (FX12_write a 32 r12) (fun r13 => mx_chk (mx_inb (168 + x0) 432) (Option.bind (FX12_writeNumber 64 a (r13.1 (a + 2) (Int32.toNatClampNeg (168 + x0))) r13) (fun r15 => (some ((r15.1 a 51), r15)))))))) (fun k10 => (if r7 = 0 then Option.bind (FX12_wordOf 15 r6) (fun r16 => Option.bind (FX12_writeNext a r16 r6) (fun r17 => mx_chk (mx_inb (158 + x0) 432) (mx_chk (mx_inb (r17.1 (a + 2) (Int32.toNatClampNeg (158 + x0))) 10) (Option.bind (FX12_writeNext a (r17.2 (a + 8) (Int32.toNatClampNeg (r17.1 (a + 2) (Int32.toNatClampNeg (158 + x0))))) r17) (fun r20 => (k10 r20)))))) else Option.bind (FX12_wordOf 13 r6) (fun r21 => Option.bind (FX12_writeNext a r21 r6) (fun r22 => (k10 r22))))))))))))
set_option maxRecDepth 20000 in
theorem CX12_tag {G : mG} {l : Launch} {e : mE} {a : Nat} {x0 : Int32} {m : mB} {r : (Int32 × mB)} (h0 : ly12 e a) (h : FX12_tag a x0 m = some r) : mx_Call G l MX12_tag 130 0 0 [.ref a, .int x0] (e, m) (fun v z => v = some (.int r.1) ∧ z = (e, r.2)) := by
  refine mx_entry (L := [.ref a, .int x0]) (by decide +kernel) (Nat.le_of_ble_eq_true rfl) rfl ?_
  unfold FX12_tag at h
  refine mx_aload_n (mx_d tX12_tag_0 0 rfl) rfl rfl ?_
  refine mx_iconst (0) (mx_d tX12_tag_0 1 rfl) (by decide) ?_
  obtain ⟨m1, e_m1, h⟩ := mx_letE h
  refine mx_putI (mx_d tX12_tag_0 2 rfl) fX12_1 rfl ⟨_, rfl, rfl⟩ rfl (ly12_o h0) (mx_eqz (z' := (e, m1)) (by rw [e_m1]) ?_)
  refine mx_aload_n (mx_d tX12_tag_0 3 rfl) rfl rfl ?_
  refine mx_iload_n (mx_d tX12_tag_0 4 rfl) rfl rfl ?_
  obtain ⟨r2, h_r2, h⟩ := Option.bind_eq_some_iff.mp h
  refine mx_cVi (mx_d tX12_tag_0 5 rfl) iX12_247 rfl vX12_isPoint ⟨_, rfl, rfl⟩ (ly12_o h0) (CX12_isPoint h0 h_r2) (by decide) rfl rfl (Nat.le_of_ble_eq_true rfl) ?_
  refine mx_if_ne (tgt := 15) (mx_d tX12_tag_0 6 rfl) (by decide) (fun hc3 => ?_) (fun hc3 => ?_)
  · rw [if_neg hc3] at h
    refine mx_aload_n (mx_d tX12_tag_0 9 rfl) rfl rfl ?_
    refine mx_iconst (0) (mx_d tX12_tag_0 10 rfl) (by decide) ?_
    obtain ⟨m4, e_m4, h⟩ := mx_letE h
    refine mx_putI (mx_d tX12_tag_0 11 rfl) fX12_418 rfl ⟨_, rfl, rfl⟩ rfl (ly12_o h0) (mx_eqz (z' := (e, m4)) (by rw [e_m4]) ?_)
    refine mx_aload_n (mx_d tX12_tag_0 12 rfl) rfl rfl ?_
    refine mx_aload_n (mx_d tX12_tag_0 13 rfl) rfl rfl ?_
    refine mx_getR (mx_d tX12_tag_0 14 rfl) fX12_116 rfl rfl (ly12_o h0) (ly12_r20 h0) ?_
    refine mx_iload_n (mx_d tX12_tag_0 15 rfl) rfl rfl ?_
    obtain ⟨hi5, h⟩ := mx_chkE h
    refine mx_laload (mx_d tX12_tag_0 16 rfl) (ly12_s20 h0) (mx_inbE hi5) ?_
    obtain ⟨r6, h_r6, h⟩ := Option.bind_eq_some_iff.mp h
    refine mx_cVv (mx_d tX12_tag_0 17 rfl) iX12_421 rfl vX12_writeWord ⟨_, rfl, rfl⟩ (ly12_o h0) (CX12_writeWord 64 h0 h_r6) (by decide) rfl rfl (Nat.le_of_ble_eq_true rfl) ?_
    refine mx_aload_n (mx_d tX12_tag_0 18 rfl) rfl rfl ?_
    refine mx_iload_n (mx_d tX12_tag_0 19 rfl) rfl rfl ?_
    obtain ⟨r7, h_r7, h⟩ := Option.bind_eq_some_iff.mp h
    refine mx_cVi (mx_d tX12_tag_0 20 rfl) iX12_294 rfl vX12_isLone ⟨_, rfl, rfl⟩ (ly12_o h0) (CX12_isLone h0 h_r7) (by decide) rfl rfl (Nat.le_of_ble_eq_true rfl) ?_
    refine mx_letK (J := fun k10 => ∀ {m9 : mB}, k10 m9 = some r → mx_Fr G l MX12_tag 130 0 0 (fun v z => v = some (.int r.1) ∧ z = (e, r.2)) 78 [.ref a, .int x0] [] (e, m9)) h ?_ (fun k10 j_k10 h => ?_)
    · intro m9 h
      dsimp only at h
      refine mx_aload_n (mx_d tX12_tag_0 42 rfl) rfl rfl ?_
      refine mx_bipush (97) (mx_d tX12_tag_0 43 rfl) (by decide) ?_
      refine mx_bipush (116) (mx_d tX12_tag_0 44 rfl) (by decide) ?_
      refine mx_iconst (0) (mx_d tX12_tag_0 45 rfl) (by decide) ?_
      refine mx_iconst (0) (mx_d tX12_tag_0 46 rfl) (by decide) ?_
      refine mx_iconst (0) (mx_d tX12_tag_0 47 rfl) (by decide) ?_
      refine mx_iconst (0) (mx_d tX12_tag_0 48 rfl) (by decide) ?_
      obtain ⟨r11, h_r11, h⟩ := Option.bind_eq_some_iff.mp h
      refine mx_cSj (mx_d tX12_tag_0 49 rfl) iX12_58 rfl sX12_spelt (CX12_spelt  h_r11) (by decide) rfl rfl (Nat.le_of_ble_eq_true rfl) ?_
      obtain ⟨r12, h_r12, h⟩ := Option.bind_eq_some_iff.mp h
      refine mx_cVv (mx_d tX12_tag_0 50 rfl) iX12_431 rfl vX12_writeNext ⟨_, rfl, rfl⟩ (ly12_o h0) (CX12_writeNext h0 h_r12) (by decide) rfl rfl (Nat.le_of_ble_eq_true rfl) ?_
      refine mx_aload_n (mx_d tX12_tag_0 51 rfl) rfl rfl ?_
      refine mx_bipush (32) (mx_d tX12_tag_0 52 rfl) (by decide) ?_
      obtain ⟨r13, h_r13, h⟩ := Option.bind_eq_some_iff.mp h
      refine mx_cVv (mx_d tX12_tag_0 53 rfl) iX12_425 rfl vX12_write ⟨_, rfl, rfl⟩ (ly12_o h0) (CX12_write h0 h_r13) (by decide) rfl rfl (Nat.le_of_ble_eq_true rfl) ?_
      refine mx_aload_n (mx_d tX12_tag_0 54 rfl) rfl rfl ?_
      refine mx_aload_n (mx_d tX12_tag_0 55 rfl) rfl rfl ?_
      refine mx_getR (mx_d tX12_tag_0 56 rfl) fX12_98 rfl rfl (ly12_o h0) (ly12_r14 h0) ?_
      refine mx_sipush (168) (mx_d tX12_tag_0 57 rfl) (by decide) ?_
      refine mx_iload_n (mx_d tX12_tag_0 58 rfl) rfl rfl ?_
      refine mx_iadd (mx_d tX12_tag_0 59 rfl) ?_
      obtain ⟨hi14, h⟩ := mx_chkE h
      refine mx_iaload (mx_d tX12_tag_1 0 rfl) (ly12_s14 h0) (mx_inbE hi14) ?_
      obtain ⟨r15, h_r15, h⟩ := Option.bind_eq_some_iff.mp h
      refine mx_cVv (mx_d tX12_tag_1 1 rfl) iX12_428 rfl vX12_writeNumber ⟨_, rfl, rfl⟩ (ly12_o h0) (CX12_writeNumber 64 h0 h_r15) (by decide) rfl rfl (Nat.le_of_ble_eq_true rfl) ?_
      refine mx_aload_n (mx_d tX12_tag_1 2 rfl) rfl rfl ?_
      refine mx_getI (mx_d tX12_tag_1 3 rfl) fX12_418 rfl (Or.inl rfl) (ly12_o h0) ?_
      obtain rfl := Option.some.inj h
      exact mx_ireturn (mx_d tX12_tag_1 4 rfl) rfl ⟨rfl, rfl⟩
    refine mx_if_eq (tgt := 50) (mx_d tX12_tag_0 21 rfl) (by decide) (fun hc8 => ?_) (fun hc8 => ?_)
    · rw [if_pos hc8] at h
      refine mx_aload_n (mx_d tX12_tag_0 27 rfl) rfl rfl ?_
      refine mx_bipush (15) (mx_d tX12_tag_0 28 rfl) (by decide) ?_
      obtain ⟨r16, h_r16, h⟩ := Option.bind_eq_some_iff.mp h
      refine mx_cSj (mx_d tX12_tag_0 29 rfl) iX12_62 rfl sX12_wordOf (CX12_wordOf  h_r16) (by decide) rfl rfl (Nat.le_of_ble_eq_true rfl) ?_
      obtain ⟨r17, h_r17, h⟩ := Option.bind_eq_some_iff.mp h
      refine mx_cVv (mx_d tX12_tag_0 30 rfl) iX12_431 rfl vX12_writeNext ⟨_, rfl, rfl⟩ (ly12_o h0) (CX12_writeNext h0 h_r17) (by decide) rfl rfl (Nat.le_of_ble_eq_true rfl) ?_
      refine mx_aload_n (mx_d tX12_tag_0 31 rfl) rfl rfl ?_
      refine mx_aload_n (mx_d tX12_tag_0 32 rfl) rfl rfl ?_
      refine mx_getR (mx_d tX12_tag_0 33 rfl) fX12_116 rfl rfl (ly12_o h0) (ly12_r20 h0) ?_
      refine mx_aload_n (mx_d tX12_tag_0 34 rfl) rfl rfl ?_
      refine mx_getR (mx_d tX12_tag_0 35 rfl) fX12_98 rfl rfl (ly12_o h0) (ly12_r14 h0) ?_
      refine mx_sipush (158) (mx_d tX12_tag_0 36 rfl) (by decide) ?_
      refine mx_iload_n (mx_d tX12_tag_0 37 rfl) rfl rfl ?_
      refine mx_iadd (mx_d tX12_tag_0 38 rfl) ?_
      obtain ⟨hi18, h⟩ := mx_chkE h
      refine mx_iaload (mx_d tX12_tag_0 39 rfl) (ly12_s14 h0) (mx_inbE hi18) ?_
      obtain ⟨hi19, h⟩ := mx_chkE h
      refine mx_laload (mx_d tX12_tag_0 40 rfl) (ly12_s20 h0) (mx_inbE hi19) ?_
      obtain ⟨r20, h_r20, h⟩ := Option.bind_eq_some_iff.mp h
      refine mx_cVv (mx_d tX12_tag_0 41 rfl) iX12_431 rfl vX12_writeNext ⟨_, rfl, rfl⟩ (ly12_o h0) (CX12_writeNext h0 h_r20) (by decide) rfl rfl (Nat.le_of_ble_eq_true rfl) ?_
      exact j_k10 h
    · rw [if_neg hc8] at h
      refine mx_aload_n (mx_d tX12_tag_0 22 rfl) rfl rfl ?_
      refine mx_bipush (13) (mx_d tX12_tag_0 23 rfl) (by decide) ?_
      obtain ⟨r21, h_r21, h⟩ := Option.bind_eq_some_iff.mp h
      refine mx_cSj (mx_d tX12_tag_0 24 rfl) iX12_62 rfl sX12_wordOf (CX12_wordOf  h_r21) (by decide) rfl rfl (Nat.le_of_ble_eq_true rfl) ?_
      obtain ⟨r22, h_r22, h⟩ := Option.bind_eq_some_iff.mp h
      refine mx_cVv (mx_d tX12_tag_0 25 rfl) iX12_431 rfl vX12_writeNext ⟨_, rfl, rfl⟩ (ly12_o h0) (CX12_writeNext h0 h_r22) (by decide) rfl rfl (Nat.le_of_ble_eq_true rfl) ?_
      refine mx_goto (tgt := 78) (mx_d tX12_tag_0 26 rfl) (by decide) ?_
      exact j_k10 h
  · rw [if_pos hc3] at h
    refine mx_iconst ((-1)) (mx_d tX12_tag_0 7 rfl) (by decide) ?_
    obtain rfl := Option.some.inj h
    exact mx_ireturn (mx_d tX12_tag_0 8 rfl) rfl ⟨rfl, rfl⟩
def FX12_byteAt (a : Nat) (x0 : Int32) (m : mB) : Option (Int32 × mB) := mx_let (mx_up m.1 a 0 0, m.2) (fun m1 => Option.bind (FX12_isIn x0 0 ((m1.1 a 51) - 1) m1) (fun r2 => (if r2 = 0 then (some ((-1), m1)) else mx_chk (mx_inb x0 48) ((some ((m1.1 (a + 23) (Int32.toNatClampNeg x0)), m1))))))
set_option maxRecDepth 20000 in
theorem CX12_byteAt {G : mG} {l : Launch} {e : mE} {a : Nat} {x0 : Int32} {m : mB} {r : (Int32 × mB)} (h0 : ly12 e a) (h : FX12_byteAt a x0 m = some r) : mx_Call G l MX12_byteAt 2 0 0 [.ref a, .int x0] (e, m) (fun v z => v = some (.int r.1) ∧ z = (e, r.2)) := by
  refine mx_entry (L := [.ref a, .int x0]) (by decide +kernel) (Nat.le_of_ble_eq_true rfl) rfl ?_
  unfold FX12_byteAt at h
  refine mx_aload_n (mx_d tX12_byteAt_0 0 rfl) rfl rfl ?_
  refine mx_iconst (0) (mx_d tX12_byteAt_0 1 rfl) (by decide) ?_
  obtain ⟨m1, e_m1, h⟩ := mx_letE h
  refine mx_putI (mx_d tX12_byteAt_0 2 rfl) fX12_1 rfl ⟨_, rfl, rfl⟩ rfl (ly12_o h0) (mx_eqz (z' := (e, m1)) (by rw [e_m1]) ?_)
  refine mx_iload_n (mx_d tX12_byteAt_0 3 rfl) rfl rfl ?_
  refine mx_iconst (0) (mx_d tX12_byteAt_0 4 rfl) (by decide) ?_
  refine mx_aload_n (mx_d tX12_byteAt_0 5 rfl) rfl rfl ?_
  refine mx_getI (mx_d tX12_byteAt_0 6 rfl) fX12_418 rfl (Or.inl rfl) (ly12_o h0) ?_
  refine mx_iconst (1) (mx_d tX12_byteAt_0 7 rfl) (by decide) ?_
  refine mx_isub (mx_d tX12_byteAt_0 8 rfl) ?_
  obtain ⟨r2, h_r2, h⟩ := Option.bind_eq_some_iff.mp h
  refine mx_cSi (mx_d tX12_byteAt_0 9 rfl) iX12_75 rfl sX12_isIn (CX12_isIn  h_r2) (by decide) rfl rfl (Nat.le_of_ble_eq_true rfl) ?_
  refine mx_if_eq (tgt := 28) (mx_d tX12_byteAt_0 10 rfl) (by decide) (fun hc3 => ?_) (fun hc3 => ?_)
  · rw [if_pos hc3] at h
    refine mx_iconst ((-1)) (mx_d tX12_byteAt_0 16 rfl) (by decide) ?_
    obtain rfl := Option.some.inj h
    exact mx_ireturn (mx_d tX12_byteAt_0 17 rfl) rfl ⟨rfl, rfl⟩
  · rw [if_neg hc3] at h
    refine mx_aload_n (mx_d tX12_byteAt_0 11 rfl) rfl rfl ?_
    refine mx_getR (mx_d tX12_byteAt_0 12 rfl) fX12_169 rfl rfl (ly12_o h0) (ly12_r50 h0) ?_
    refine mx_iload_n (mx_d tX12_byteAt_0 13 rfl) rfl rfl ?_
    obtain ⟨hi4, h⟩ := mx_chkE h
    refine mx_iaload (mx_d tX12_byteAt_0 14 rfl) (ly12_s50 h0) (mx_inbE hi4) ?_
    refine mx_goto (tgt := 29) (mx_d tX12_byteAt_0 15 rfl) (by decide) ?_
    obtain rfl := Option.some.inj h
    exact mx_ireturn (mx_d tX12_byteAt_0 17 rfl) rfl ⟨rfl, rfl⟩
def FX12_draw (a : Nat) (x0 : Int32) (m : mB) : Option (Int32 × mB) := mx_let (mx_up m.1 a 52 (((m.1 a 52) * 1103515245) + 12345), m.2) (fun m1 => mx_chk (mx_nz x0) ((some (((UInt32.toInt32 (Int32.toUInt32 (m1.1 a 52) >>> (Int32.toUInt32 8 &&& Int32.toUInt32 31))) - (UInt32.toInt32 (Int32.toUInt32 (m1.1 a 52) >>> (Int32.toUInt32 8 &&& Int32.toUInt32 31))) / x0 * x0), m1))))
set_option maxRecDepth 20000 in
theorem CX12_draw {G : mG} {l : Launch} {e : mE} {a : Nat} {x0 : Int32} {m : mB} {r : (Int32 × mB)} (h0 : ly12 e a) (h : FX12_draw a x0 m = some r) : mx_Call G l MX12_draw 1 0 0 [.ref a, .int x0] (e, m) (fun v z => v = some (.int r.1) ∧ z = (e, r.2)) := by
  refine mx_entry (L := [.ref a, .int x0]) (by decide +kernel) (Nat.le_of_ble_eq_true rfl) rfl ?_
  unfold FX12_draw at h
  refine mx_aload_n (mx_d tX12_draw_0 0 rfl) rfl rfl ?_
  refine mx_aload_n (mx_d tX12_draw_0 1 rfl) rfl rfl ?_
  refine mx_getI (mx_d tX12_draw_0 2 rfl) fX12_434 rfl (Or.inl rfl) (ly12_o h0) ?_
  refine mx_ldcw (1103515245) (mx_d tX12_draw_0 3 rfl) cX12_437 ?_
  refine mx_imul (mx_d tX12_draw_0 4 rfl) ?_
  refine mx_sipush (12345) (mx_d tX12_draw_0 5 rfl) (by decide) ?_
  refine mx_iadd (mx_d tX12_draw_0 6 rfl) ?_
  obtain ⟨m1, e_m1, h⟩ := mx_letE h
  refine mx_putI (mx_d tX12_draw_0 7 rfl) fX12_434 rfl ⟨_, rfl, rfl⟩ rfl (ly12_o h0) (mx_eqz (z' := (e, m1)) (by rw [e_m1]) ?_)
  refine mx_aload_n (mx_d tX12_draw_0 8 rfl) rfl rfl ?_
  refine mx_getI (mx_d tX12_draw_0 9 rfl) fX12_434 rfl (Or.inl rfl) (ly12_o h0) ?_
  refine mx_bipush (8) (mx_d tX12_draw_0 10 rfl) (by decide) ?_
  refine mx_iushr (mx_d tX12_draw_0 11 rfl) ?_
  refine mx_iload_n (mx_d tX12_draw_0 12 rfl) rfl rfl ?_
  obtain ⟨hz2, h⟩ := mx_chkE h
  refine mx_irem (mx_d tX12_draw_0 13 rfl) (mx_nzE hz2) ?_
  obtain rfl := Option.some.inj h
  exact mx_ireturn (mx_d tX12_draw_0 14 rfl) rfl ⟨rfl, rfl⟩
def FX12_drawPoint (a : Nat) (m : mB) : Option (Int32 × mB) := Option.bind (FX12_draw a (m.1 (a + 2) 0) m) (fun r1 => (some (r1.1, r1.2)))
set_option maxRecDepth 20000 in
theorem CX12_drawPoint {G : mG} {l : Launch} {e : mE} {a : Nat} {m : mB} {r : (Int32 × mB)} (h0 : ly12 e a) (h : FX12_drawPoint a m = some r) : mx_Call G l MX12_drawPoint 2 0 0 [.ref a] (e, m) (fun v z => v = some (.int r.1) ∧ z = (e, r.2)) := by
  refine mx_entry (L := [.ref a]) (by decide +kernel) (Nat.le_of_ble_eq_true rfl) rfl ?_
  unfold FX12_drawPoint at h
  refine mx_aload_n (mx_d tX12_drawPoint_0 0 rfl) rfl rfl ?_
  refine mx_aload_n (mx_d tX12_drawPoint_0 1 rfl) rfl rfl ?_
  refine mx_getR (mx_d tX12_drawPoint_0 2 rfl) fX12_98 rfl rfl (ly12_o h0) (ly12_r14 h0) ?_
  refine mx_iconst (0) (mx_d tX12_drawPoint_0 3 rfl) (by decide) ?_
  refine mx_ialoadC 0 (mx_d tX12_drawPoint_0 4 rfl) (ly12_s14 h0) (by decide) (mx_inbE (by decide)) ?_
  obtain ⟨r1, h_r1, h⟩ := Option.bind_eq_some_iff.mp h
  refine mx_cVi (mx_d tX12_drawPoint_0 5 rfl) iX12_438 rfl vX12_draw ⟨_, rfl, rfl⟩ (ly12_o h0) (CX12_draw h0 h_r1) (by decide) rfl rfl (Nat.le_of_ble_eq_true rfl) ?_
  obtain rfl := Option.some.inj h
  exact mx_ireturn (mx_d tX12_drawPoint_0 6 rfl) rfl ⟨rfl, rfl⟩
def FX12_doIf (a : Nat) (x0 : Int32) (x1 : Int32) (x2 : Int32) (x3 : Int32) (m : mB) : Option (Int32 × mB) := Option.bind (FX12_refusal a x0 x1 x2 x3 m) (fun r1 => (if r1.1 = 0 then Option.bind (FX12_live a x0 x1 x2 x3 r1.2) (fun r3 => (some (1, r3))) else (some (0, r1.2))))
set_option maxRecDepth 20000 in
theorem CX12_doIf {G : mG} {l : Launch} {e : mE} {a : Nat} {x0 : Int32} {x1 : Int32} {x2 : Int32} {x3 : Int32} {m : mB} {r : (Int32 × mB)} (h0 : ly12 e a) (h : FX12_doIf a x0 x1 x2 x3 m = some r) : mx_Call G l MX12_doIf 259 0 0 [.ref a, .int x0, .int x1, .int x2, .int x3] (e, m) (fun v z => v = some (.int r.1) ∧ z = (e, r.2)) := by
  refine mx_entry (L := [.ref a, .int x0, .int x1, .int x2, .int x3]) (by decide +kernel) (Nat.le_of_ble_eq_true rfl) rfl ?_
  unfold FX12_doIf at h
  refine mx_aload_n (mx_d tX12_doIf_0 0 rfl) rfl rfl ?_
  refine mx_iload_n (mx_d tX12_doIf_0 1 rfl) rfl rfl ?_
  refine mx_iload_n (mx_d tX12_doIf_0 2 rfl) rfl rfl ?_
  refine mx_iload_n (mx_d tX12_doIf_0 3 rfl) rfl rfl ?_
  refine mx_iload (mx_d tX12_doIf_0 4 rfl) rfl ?_
  obtain ⟨r1, h_r1, h⟩ := Option.bind_eq_some_iff.mp h
  refine mx_cVi (mx_d tX12_doIf_0 5 rfl) iX12_328 rfl vX12_refusal ⟨_, rfl, rfl⟩ (ly12_o h0) (CX12_refusal h0 h_r1) (by decide) rfl rfl (Nat.le_of_ble_eq_true rfl) ?_
  refine mx_if_eq (tgt := 14) (mx_d tX12_doIf_0 6 rfl) (by decide) (fun hc2 => ?_) (fun hc2 => ?_)
  · rw [if_pos hc2] at h
    refine mx_aload_n (mx_d tX12_doIf_0 9 rfl) rfl rfl ?_
    refine mx_iload_n (mx_d tX12_doIf_0 10 rfl) rfl rfl ?_
    refine mx_iload_n (mx_d tX12_doIf_0 11 rfl) rfl rfl ?_
    refine mx_iload_n (mx_d tX12_doIf_0 12 rfl) rfl rfl ?_
    refine mx_iload (mx_d tX12_doIf_0 13 rfl) rfl ?_
    obtain ⟨r3, h_r3, h⟩ := Option.bind_eq_some_iff.mp h
    refine mx_cVv (mx_d tX12_doIf_0 14 rfl) iX12_335 rfl vX12_live ⟨_, rfl, rfl⟩ (ly12_o h0) (CX12_live h0 h_r3) (by decide) rfl rfl (Nat.le_of_ble_eq_true rfl) ?_
    refine mx_iconst (1) (mx_d tX12_doIf_0 15 rfl) (by decide) ?_
    obtain rfl := Option.some.inj h
    exact mx_zreturn (mx_d tX12_doIf_0 16 rfl) rfl rfl ⟨rfl, rfl⟩
  · rw [if_neg hc2] at h
    refine mx_iconst (0) (mx_d tX12_doIf_0 7 rfl) (by decide) ?_
    obtain rfl := Option.some.inj h
    exact mx_zreturn (mx_d tX12_doIf_0 8 rfl) rfl rfl ⟨rfl, rfl⟩
def FX12_drawsDeed (a : Nat) (m : mB) : Option (Int32 × mB) := Option.bind (FX12_draw a 7 m) (fun r1 => (if r1.1 = 0 then Option.bind (FX12_drawPoint a r1.2) (fun r29 => Option.bind (FX12_drawPoint a r29.2) (fun r30 => (if r29.1 = r30.1 then (some (0, r30.2)) else Option.bind (FX12_doIf a 0 r29.1 r30.1 0 r30.2) (fun r32 => (if r32.1 = 0 then (some (0, r32.2)) else (some (1, r32.2))))))) else (if r1.1 = 1 then Option.bind (FX12_drawPoint a r1.2) (fun r26 => Option.bind (FX12_doIf a 1 r26.1 0 0 r26.2) (fun r27 => mx_chk (mx_b01 r27.1) ((some (r27.1, r27.2))))) else (if r1.1 = 2 then (if (r1.2.1 (a + 2) 1) = 0 then (some (0, r1.2)) else Option.bind (FX12_draw a (r1.2.1 (a + 2) 1) r1.2) (fun r20 => mx_chk (mx_inb (3 + r20.1) 432) (mx_chk (mx_inb (33 + r20.1) 432) (Option.bind (FX12_draw a 30 r20.2) (fun r23 => Option.bind (FX12_doIf a 2 (r20.2.1 (a + 2) (Int32.toNatClampNeg (3 + r20.1))) (r20.2.1 (a + 2) (Int32.toNatClampNeg (33 + r20.1))) (r23.1 + 1) r23.2) (fun r24 => mx_chk (mx_b01 r24.1) ((some (r24.1, r24.2))))))))) else (if r1.1 = 3 then Option.bind (FX12_drawPoint a r1.2) (fun r15 => Option.bind (FX12_draw a 60 r15.2) (fun r16 => Option.bind (FX12_doIf a 3 r15.1 0 r16.1 r16.2) (fun r17 => mx_chk (mx_b01 r17.1) ((some (r17.1, r17.2)))))) else (if 6 ≤ r1.1 then (if (r1.2.1 (a + 2) 125) = 0 then (some (0, r1.2)) else Option.bind (FX12_draw a (r1.2.1 (a + 2) 125) r1.2) (fun r8 => Option.bind (FX12_draw a 20 r8.2) (fun r9 => Option.bind (FX12_doIf a 4 r8.1 0 r9.1 r9.2) (fun r10 => mx_chk (mx_b01 r10.1) ((some (r10.1, r10.2))))))) else Option.bind (FX12_drawPoint a r1.2) (fun r12 => Option.bind (FX12_doIf a 6 r12.1 0 0 r12.2) (fun r13 => mx_chk (mx_b01 r13.1) ((some (r13.1, r13.2)))))))))))
set_option maxRecDepth 20000 in
theorem CX12_drawsDeed {G : mG} {l : Launch} {e : mE} {a : Nat} {m : mB} {r : (Int32 × mB)} (h0 : ly12 e a) (h : FX12_drawsDeed a m = some r) : mx_Call G l MX12_drawsDeed 260 0 0 [.ref a] (e, m) (fun v z => v = some (.int r.1) ∧ z = (e, r.2)) := by
  refine mx_entry (L := [.ref a, .float 0, .float 0, .float 0]) (by decide +kernel) (Nat.le_of_ble_eq_true rfl) rfl ?_
  unfold FX12_drawsDeed at h
  refine mx_aload_n (mx_d tX12_drawsDeed_0 0 rfl) rfl rfl ?_
  refine mx_bipush (7) (mx_d tX12_drawsDeed_0 1 rfl) (by decide) ?_
  obtain ⟨r1, h_r1, h⟩ := Option.bind_eq_some_iff.mp h
  refine mx_cVi (mx_d tX12_drawsDeed_0 2 rfl) iX12_438 rfl vX12_draw ⟨_, rfl, rfl⟩ (ly12_o h0) (CX12_draw h0 h_r1) (by decide) rfl rfl (Nat.le_of_ble_eq_true rfl) ?_
  refine mx_istore_n (L2 := [.ref a, .int r1.1, .float 0, .float 0]) (mx_d tX12_drawsDeed_0 3 rfl) rfl (by decide) (by rfl) ?_
  refine mx_iload_n (mx_d tX12_drawsDeed_0 4 rfl) rfl rfl ?_
  refine mx_if_ne (tgt := 43) (mx_d tX12_drawsDeed_0 5 rfl) (by decide) (fun hc2 => ?_) (fun hc2 => ?_)
  · rw [if_neg hc2] at h
    refine mx_iload_n (mx_d tX12_drawsDeed_0 26 rfl) rfl rfl ?_
    refine mx_iconst (1) (mx_d tX12_drawsDeed_0 27 rfl) (by decide) ?_
    refine mx_icmp_ne (tgt := 60) (mx_d tX12_drawsDeed_0 28 rfl) (by decide) (fun hc3 => ?_) (fun hc3 => ?_)
    · rw [if_neg hc3] at h
      refine mx_iload_n (mx_d tX12_drawsDeed_0 37 rfl) rfl rfl ?_
      refine mx_iconst (2) (mx_d tX12_drawsDeed_0 38 rfl) (by decide) ?_
      refine mx_icmp_ne (tgt := 118) (mx_d tX12_drawsDeed_0 39 rfl) (by decide) (fun hc4 => ?_) (fun hc4 => ?_)
      · rw [if_neg hc4] at h
        refine mx_iload_n (mx_d tX12_drawsDeed_1 15 rfl) rfl rfl ?_
        refine mx_iconst (3) (mx_d tX12_drawsDeed_1 16 rfl) (by decide) ?_
        refine mx_icmp_ne (tgt := 142) (mx_d tX12_drawsDeed_1 17 rfl) (by decide) (fun hc5 => ?_) (fun hc5 => ?_)
        · rw [if_neg hc5] at h
          refine mx_iload_n (mx_d tX12_drawsDeed_1 30 rfl) rfl rfl ?_
          refine mx_bipush (6) (mx_d tX12_drawsDeed_1 31 rfl) (by decide) ?_
          refine mx_icmp_ge (tgt := 161) (mx_d tX12_drawsDeed_1 32 rfl) (by decide) (fun hc6 => ?_) (fun hc6 => ?_)
          · rw [if_pos hc6] at h
            refine mx_aload_n (mx_d tX12_drawsDeed_1 41 rfl) rfl rfl ?_
            refine mx_getR (mx_d tX12_drawsDeed_1 42 rfl) fX12_98 rfl rfl (ly12_o h0) (ly12_r14 h0) ?_
            refine mx_bipush (125) (mx_d tX12_drawsDeed_1 43 rfl) (by decide) ?_
            refine mx_ialoadC 125 (mx_d tX12_drawsDeed_1 44 rfl) (ly12_s14 h0) (by decide) (mx_inbE (by decide)) ?_
            refine mx_if_ne (tgt := 173) (mx_d tX12_drawsDeed_1 45 rfl) (by decide) (fun hc7 => ?_) (fun hc7 => ?_)
            · rw [if_neg hc7] at h
              refine mx_aload_n (mx_d tX12_drawsDeed_1 48 rfl) rfl rfl ?_
              refine mx_aload_n (mx_d tX12_drawsDeed_1 49 rfl) rfl rfl ?_
              refine mx_getR (mx_d tX12_drawsDeed_1 50 rfl) fX12_98 rfl rfl (ly12_o h0) (ly12_r14 h0) ?_
              refine mx_bipush (125) (mx_d tX12_drawsDeed_1 51 rfl) (by decide) ?_
              refine mx_ialoadC 125 (mx_d tX12_drawsDeed_1 52 rfl) (ly12_s14 h0) (by decide) (mx_inbE (by decide)) ?_
              obtain ⟨r8, h_r8, h⟩ := Option.bind_eq_some_iff.mp h
              refine mx_cVi (mx_d tX12_drawsDeed_1 53 rfl) iX12_438 rfl vX12_draw ⟨_, rfl, rfl⟩ (ly12_o h0) (CX12_draw h0 h_r8) (by decide) rfl rfl (Nat.le_of_ble_eq_true rfl) ?_
              refine mx_istore_n (L2 := [.ref a, .int r1.1, .int r8.1, .float 0]) (mx_d tX12_drawsDeed_1 54 rfl) rfl (by decide) (by rfl) ?_
              refine mx_aload_n (mx_d tX12_drawsDeed_1 55 rfl) rfl rfl ?_
              refine mx_iconst (4) (mx_d tX12_drawsDeed_1 56 rfl) (by decide) ?_
              refine mx_iload_n (mx_d tX12_drawsDeed_1 57 rfl) rfl rfl ?_
              refine mx_iconst (0) (mx_d tX12_drawsDeed_1 58 rfl) (by decide) ?_
              refine mx_aload_n (mx_d tX12_drawsDeed_1 59 rfl) rfl rfl ?_
              refine mx_bipush (20) (mx_d tX12_drawsDeed_2 0 rfl) (by decide) ?_
              obtain ⟨r9, h_r9, h⟩ := Option.bind_eq_some_iff.mp h
              refine mx_cVi (mx_d tX12_drawsDeed_2 1 rfl) iX12_438 rfl vX12_draw ⟨_, rfl, rfl⟩ (ly12_o h0) (CX12_draw h0 h_r9) (by decide) rfl rfl (Nat.le_of_ble_eq_true rfl) ?_
              obtain ⟨r10, h_r10, h⟩ := Option.bind_eq_some_iff.mp h
              refine mx_cVi (mx_d tX12_drawsDeed_2 2 rfl) iX12_444 rfl vX12_doIf ⟨_, rfl, rfl⟩ (ly12_o h0) (CX12_doIf h0 h_r10) (by decide) rfl rfl (Nat.le_of_ble_eq_true rfl) ?_
              obtain ⟨hb11, h⟩ := mx_chkE h
              obtain rfl := Option.some.inj h
              exact mx_zreturn (mx_d tX12_drawsDeed_2 3 rfl) rfl (mx_nb (mx_b01E hb11)) ⟨rfl, rfl⟩
            · rw [if_pos hc7] at h
              refine mx_iconst (0) (mx_d tX12_drawsDeed_1 46 rfl) (by decide) ?_
              obtain rfl := Option.some.inj h
              exact mx_zreturn (mx_d tX12_drawsDeed_1 47 rfl) rfl rfl ⟨rfl, rfl⟩
          · rw [if_neg hc6] at h
            refine mx_aload_n (mx_d tX12_drawsDeed_1 33 rfl) rfl rfl ?_
            refine mx_bipush (6) (mx_d tX12_drawsDeed_1 34 rfl) (by decide) ?_
            refine mx_aload_n (mx_d tX12_drawsDeed_1 35 rfl) rfl rfl ?_
            obtain ⟨r12, h_r12, h⟩ := Option.bind_eq_some_iff.mp h
            refine mx_cVi (mx_d tX12_drawsDeed_1 36 rfl) iX12_441 rfl vX12_drawPoint ⟨_, rfl, rfl⟩ (ly12_o h0) (CX12_drawPoint h0 h_r12) (by decide) rfl rfl (Nat.le_of_ble_eq_true rfl) ?_
            refine mx_iconst (0) (mx_d tX12_drawsDeed_1 37 rfl) (by decide) ?_
            refine mx_iconst (0) (mx_d tX12_drawsDeed_1 38 rfl) (by decide) ?_
            obtain ⟨r13, h_r13, h⟩ := Option.bind_eq_some_iff.mp h
            refine mx_cVi (mx_d tX12_drawsDeed_1 39 rfl) iX12_444 rfl vX12_doIf ⟨_, rfl, rfl⟩ (ly12_o h0) (CX12_doIf h0 h_r13) (by decide) rfl rfl (Nat.le_of_ble_eq_true rfl) ?_
            obtain ⟨hb14, h⟩ := mx_chkE h
            obtain rfl := Option.some.inj h
            exact mx_zreturn (mx_d tX12_drawsDeed_1 40 rfl) rfl (mx_nb (mx_b01E hb14)) ⟨rfl, rfl⟩
        · rw [if_pos hc5] at h
          refine mx_aload_n (mx_d tX12_drawsDeed_1 18 rfl) rfl rfl ?_
          obtain ⟨r15, h_r15, h⟩ := Option.bind_eq_some_iff.mp h
          refine mx_cVi (mx_d tX12_drawsDeed_1 19 rfl) iX12_441 rfl vX12_drawPoint ⟨_, rfl, rfl⟩ (ly12_o h0) (CX12_drawPoint h0 h_r15) (by decide) rfl rfl (Nat.le_of_ble_eq_true rfl) ?_
          refine mx_istore_n (L2 := [.ref a, .int r1.1, .int r15.1, .float 0]) (mx_d tX12_drawsDeed_1 20 rfl) rfl (by decide) (by rfl) ?_
          refine mx_aload_n (mx_d tX12_drawsDeed_1 21 rfl) rfl rfl ?_
          refine mx_iconst (3) (mx_d tX12_drawsDeed_1 22 rfl) (by decide) ?_
          refine mx_iload_n (mx_d tX12_drawsDeed_1 23 rfl) rfl rfl ?_
          refine mx_iconst (0) (mx_d tX12_drawsDeed_1 24 rfl) (by decide) ?_
          refine mx_aload_n (mx_d tX12_drawsDeed_1 25 rfl) rfl rfl ?_
          refine mx_bipush (60) (mx_d tX12_drawsDeed_1 26 rfl) (by decide) ?_
          obtain ⟨r16, h_r16, h⟩ := Option.bind_eq_some_iff.mp h
          refine mx_cVi (mx_d tX12_drawsDeed_1 27 rfl) iX12_438 rfl vX12_draw ⟨_, rfl, rfl⟩ (ly12_o h0) (CX12_draw h0 h_r16) (by decide) rfl rfl (Nat.le_of_ble_eq_true rfl) ?_
          obtain ⟨r17, h_r17, h⟩ := Option.bind_eq_some_iff.mp h
          refine mx_cVi (mx_d tX12_drawsDeed_1 28 rfl) iX12_444 rfl vX12_doIf ⟨_, rfl, rfl⟩ (ly12_o h0) (CX12_doIf h0 h_r17) (by decide) rfl rfl (Nat.le_of_ble_eq_true rfl) ?_
          obtain ⟨hb18, h⟩ := mx_chkE h
          obtain rfl := Option.some.inj h
          exact mx_zreturn (mx_d tX12_drawsDeed_1 29 rfl) rfl (mx_nb (mx_b01E hb18)) ⟨rfl, rfl⟩
      · rw [if_pos hc4] at h
        refine mx_aload_n (mx_d tX12_drawsDeed_0 40 rfl) rfl rfl ?_
        refine mx_getR (mx_d tX12_drawsDeed_0 41 rfl) fX12_98 rfl rfl (ly12_o h0) (ly12_r14 h0) ?_
        refine mx_iconst (1) (mx_d tX12_drawsDeed_0 42 rfl) (by decide) ?_
        refine mx_ialoadC 1 (mx_d tX12_drawsDeed_0 43 rfl) (ly12_s14 h0) (by decide) (mx_inbE (by decide)) ?_
        refine mx_if_ne (tgt := 76) (mx_d tX12_drawsDeed_0 44 rfl) (by decide) (fun hc19 => ?_) (fun hc19 => ?_)
        · rw [if_neg hc19] at h
          refine mx_aload_n (mx_d tX12_drawsDeed_0 47 rfl) rfl rfl ?_
          refine mx_aload_n (mx_d tX12_drawsDeed_0 48 rfl) rfl rfl ?_
          refine mx_getR (mx_d tX12_drawsDeed_0 49 rfl) fX12_98 rfl rfl (ly12_o h0) (ly12_r14 h0) ?_
          refine mx_iconst (1) (mx_d tX12_drawsDeed_0 50 rfl) (by decide) ?_
          refine mx_ialoadC 1 (mx_d tX12_drawsDeed_0 51 rfl) (ly12_s14 h0) (by decide) (mx_inbE (by decide)) ?_
          obtain ⟨r20, h_r20, h⟩ := Option.bind_eq_some_iff.mp h
          refine mx_cVi (mx_d tX12_drawsDeed_0 52 rfl) iX12_438 rfl vX12_draw ⟨_, rfl, rfl⟩ (ly12_o h0) (CX12_draw h0 h_r20) (by decide) rfl rfl (Nat.le_of_ble_eq_true rfl) ?_
          refine mx_istore_n (L2 := [.ref a, .int r1.1, .int r20.1, .float 0]) (mx_d tX12_drawsDeed_0 53 rfl) rfl (by decide) (by rfl) ?_
          refine mx_aload_n (mx_d tX12_drawsDeed_0 54 rfl) rfl rfl ?_
          refine mx_iconst (2) (mx_d tX12_drawsDeed_0 55 rfl) (by decide) ?_
          refine mx_aload_n (mx_d tX12_drawsDeed_0 56 rfl) rfl rfl ?_
          refine mx_getR (mx_d tX12_drawsDeed_0 57 rfl) fX12_98 rfl rfl (ly12_o h0) (ly12_r14 h0) ?_
          refine mx_iconst (3) (mx_d tX12_drawsDeed_0 58 rfl) (by decide) ?_
          refine mx_iload_n (mx_d tX12_drawsDeed_0 59 rfl) rfl rfl ?_
          refine mx_iadd (mx_d tX12_drawsDeed_1 0 rfl) ?_
          obtain ⟨hi21, h⟩ := mx_chkE h
          refine mx_iaload (mx_d tX12_drawsDeed_1 1 rfl) (ly12_s14 h0) (mx_inbE hi21) ?_
          refine mx_aload_n (mx_d tX12_drawsDeed_1 2 rfl) rfl rfl ?_
          refine mx_getR (mx_d tX12_drawsDeed_1 3 rfl) fX12_98 rfl rfl (ly12_o h0) (ly12_r14 h0) ?_
          refine mx_bipush (33) (mx_d tX12_drawsDeed_1 4 rfl) (by decide) ?_
          refine mx_iload_n (mx_d tX12_drawsDeed_1 5 rfl) rfl rfl ?_
          refine mx_iadd (mx_d tX12_drawsDeed_1 6 rfl) ?_
          obtain ⟨hi22, h⟩ := mx_chkE h
          refine mx_iaload (mx_d tX12_drawsDeed_1 7 rfl) (ly12_s14 h0) (mx_inbE hi22) ?_
          refine mx_aload_n (mx_d tX12_drawsDeed_1 8 rfl) rfl rfl ?_
          refine mx_bipush (30) (mx_d tX12_drawsDeed_1 9 rfl) (by decide) ?_
          obtain ⟨r23, h_r23, h⟩ := Option.bind_eq_some_iff.mp h
          refine mx_cVi (mx_d tX12_drawsDeed_1 10 rfl) iX12_438 rfl vX12_draw ⟨_, rfl, rfl⟩ (ly12_o h0) (CX12_draw h0 h_r23) (by decide) rfl rfl (Nat.le_of_ble_eq_true rfl) ?_
          refine mx_iconst (1) (mx_d tX12_drawsDeed_1 11 rfl) (by decide) ?_
          refine mx_iadd (mx_d tX12_drawsDeed_1 12 rfl) ?_
          obtain ⟨r24, h_r24, h⟩ := Option.bind_eq_some_iff.mp h
          refine mx_cVi (mx_d tX12_drawsDeed_1 13 rfl) iX12_444 rfl vX12_doIf ⟨_, rfl, rfl⟩ (ly12_o h0) (CX12_doIf h0 h_r24) (by decide) rfl rfl (Nat.le_of_ble_eq_true rfl) ?_
          obtain ⟨hb25, h⟩ := mx_chkE h
          obtain rfl := Option.some.inj h
          exact mx_zreturn (mx_d tX12_drawsDeed_1 14 rfl) rfl (mx_nb (mx_b01E hb25)) ⟨rfl, rfl⟩
        · rw [if_pos hc19] at h
          refine mx_iconst (0) (mx_d tX12_drawsDeed_0 45 rfl) (by decide) ?_
          obtain rfl := Option.some.inj h
          exact mx_zreturn (mx_d tX12_drawsDeed_0 46 rfl) rfl rfl ⟨rfl, rfl⟩
    · rw [if_pos hc3] at h
      refine mx_aload_n (mx_d tX12_drawsDeed_0 29 rfl) rfl rfl ?_
      refine mx_iconst (1) (mx_d tX12_drawsDeed_0 30 rfl) (by decide) ?_
      refine mx_aload_n (mx_d tX12_drawsDeed_0 31 rfl) rfl rfl ?_
      obtain ⟨r26, h_r26, h⟩ := Option.bind_eq_some_iff.mp h
      refine mx_cVi (mx_d tX12_drawsDeed_0 32 rfl) iX12_441 rfl vX12_drawPoint ⟨_, rfl, rfl⟩ (ly12_o h0) (CX12_drawPoint h0 h_r26) (by decide) rfl rfl (Nat.le_of_ble_eq_true rfl) ?_
      refine mx_iconst (0) (mx_d tX12_drawsDeed_0 33 rfl) (by decide) ?_
      refine mx_iconst (0) (mx_d tX12_drawsDeed_0 34 rfl) (by decide) ?_
      obtain ⟨r27, h_r27, h⟩ := Option.bind_eq_some_iff.mp h
      refine mx_cVi (mx_d tX12_drawsDeed_0 35 rfl) iX12_444 rfl vX12_doIf ⟨_, rfl, rfl⟩ (ly12_o h0) (CX12_doIf h0 h_r27) (by decide) rfl rfl (Nat.le_of_ble_eq_true rfl) ?_
      obtain ⟨hb28, h⟩ := mx_chkE h
      obtain rfl := Option.some.inj h
      exact mx_zreturn (mx_d tX12_drawsDeed_0 36 rfl) rfl (mx_nb (mx_b01E hb28)) ⟨rfl, rfl⟩
  · rw [if_pos hc2] at h
    refine mx_aload_n (mx_d tX12_drawsDeed_0 6 rfl) rfl rfl ?_
    obtain ⟨r29, h_r29, h⟩ := Option.bind_eq_some_iff.mp h
    refine mx_cVi (mx_d tX12_drawsDeed_0 7 rfl) iX12_441 rfl vX12_drawPoint ⟨_, rfl, rfl⟩ (ly12_o h0) (CX12_drawPoint h0 h_r29) (by decide) rfl rfl (Nat.le_of_ble_eq_true rfl) ?_
    refine mx_istore_n (L2 := [.ref a, .int r1.1, .int r29.1, .float 0]) (mx_d tX12_drawsDeed_0 8 rfl) rfl (by decide) (by rfl) ?_
    refine mx_aload_n (mx_d tX12_drawsDeed_0 9 rfl) rfl rfl ?_
    obtain ⟨r30, h_r30, h⟩ := Option.bind_eq_some_iff.mp h
    refine mx_cVi (mx_d tX12_drawsDeed_0 10 rfl) iX12_441 rfl vX12_drawPoint ⟨_, rfl, rfl⟩ (ly12_o h0) (CX12_drawPoint h0 h_r30) (by decide) rfl rfl (Nat.le_of_ble_eq_true rfl) ?_
    refine mx_istore_n (L2 := [.ref a, .int r1.1, .int r29.1, .int r30.1]) (mx_d tX12_drawsDeed_0 11 rfl) rfl (by decide) (by rfl) ?_
    refine mx_iload_n (mx_d tX12_drawsDeed_0 12 rfl) rfl rfl ?_
    refine mx_iload_n (mx_d tX12_drawsDeed_0 13 rfl) rfl rfl ?_
    refine mx_icmp_eq (tgt := 41) (mx_d tX12_drawsDeed_0 14 rfl) (by decide) (fun hc31 => ?_) (fun hc31 => ?_)
    · rw [if_pos hc31] at h
      refine mx_iconst (0) (mx_d tX12_drawsDeed_0 24 rfl) (by decide) ?_
      obtain rfl := Option.some.inj h
      exact mx_zreturn (mx_d tX12_drawsDeed_0 25 rfl) rfl rfl ⟨rfl, rfl⟩
    · rw [if_neg hc31] at h
      refine mx_aload_n (mx_d tX12_drawsDeed_0 15 rfl) rfl rfl ?_
      refine mx_iconst (0) (mx_d tX12_drawsDeed_0 16 rfl) (by decide) ?_
      refine mx_iload_n (mx_d tX12_drawsDeed_0 17 rfl) rfl rfl ?_
      refine mx_iload_n (mx_d tX12_drawsDeed_0 18 rfl) rfl rfl ?_
      refine mx_iconst (0) (mx_d tX12_drawsDeed_0 19 rfl) (by decide) ?_
      obtain ⟨r32, h_r32, h⟩ := Option.bind_eq_some_iff.mp h
      refine mx_cVi (mx_d tX12_drawsDeed_0 20 rfl) iX12_444 rfl vX12_doIf ⟨_, rfl, rfl⟩ (ly12_o h0) (CX12_doIf h0 h_r32) (by decide) rfl rfl (Nat.le_of_ble_eq_true rfl) ?_
      refine mx_if_eq (tgt := 41) (mx_d tX12_drawsDeed_0 21 rfl) (by decide) (fun hc33 => ?_) (fun hc33 => ?_)
      · rw [if_pos hc33] at h
        refine mx_iconst (0) (mx_d tX12_drawsDeed_0 24 rfl) (by decide) ?_
        obtain rfl := Option.some.inj h
        exact mx_zreturn (mx_d tX12_drawsDeed_0 25 rfl) rfl rfl ⟨rfl, rfl⟩
      · rw [if_neg hc33] at h
        refine mx_iconst (1) (mx_d tX12_drawsDeed_0 22 rfl) (by decide) ?_
        refine mx_goto (tgt := 42) (mx_d tX12_drawsDeed_0 23 rfl) (by decide) ?_
        obtain rfl := Option.some.inj h
        exact mx_zreturn (mx_d tX12_drawsDeed_0 25 rfl) rfl rfl ⟨rfl, rfl⟩
def FX12_drawDeeds_L10 (q0 : Nat) (y1 : Int32) : Nat → Int32 → Int32 → mB → Option (Int32 × mB)
  | 0, _, _, _ => none
  | f + 1, y3, y4, m => (if y1 ≤ y4 then (some ((y3, m))) else (if (m.1 (q0 + 2) 0) ≤ 0 then (some ((y3, m))) else Option.bind (FX12_drawsDeed q0 m) (fun r4 => (if r4.1 = 0 then mx_let (y4 + 1) (fun v6 => (FX12_drawDeeds_L10 q0 y1 f y3 v6 r4.2)) else mx_let (y3 + 1) (fun v7 => mx_let (y4 + 1) (fun v8 => (FX12_drawDeeds_L10 q0 y1 f v7 v8 r4.2)))))))
set_option maxRecDepth 20000 in
theorem CX12_drawDeeds_L10 {G : mG} {l : Launch} {e : mE} {Post : Option Value → mS → Prop} {q0 : Nat} {y1 : Int32} (g0 : ly12 e q0) : ∀ (f : Nat) {y3 : Int32} {y4 : Int32} {m : mB} {q : (Int32 × mB)}, FX12_drawDeeds_L10 q0 y1 f y3 y4 m = some q → (mx_Fr G l MX12_drawDeeds 261 0 0 Post 41 [.float 0, .float 0, .float 0, .int q.1, .float 0] [] (e, q.2)) → mx_Fr G l MX12_drawDeeds 261 0 0 Post 10 [.ref q0, .int y1, .float 0, .int y3, .int y4] [] (e, m) := by
  intro f
  induction f with
  | zero => intro _ _ _ _ h; cases h
  | succ f ih =>
    intro y3 y4 m q h hex
    rw [FX12_drawDeeds_L10] at h
    refine mx_iload (mx_d tX12_drawDeeds_0 7 rfl) rfl ?_
    refine mx_iload_n (mx_d tX12_drawDeeds_0 8 rfl) rfl rfl ?_
    refine mx_icmp_ge (tgt := 41) (mx_d tX12_drawDeeds_0 9 rfl) (by decide) (fun hc2 => ?_) (fun hc2 => ?_)
    · rw [if_pos hc2] at h
      obtain rfl := Option.some.inj h
      refine mx_forget (L' := [.float 0, .float 0, .float 0, .int y3, .float 0]) ⟨rfl, trivial⟩ ?_
      exact hex
    · rw [if_neg hc2] at h
      refine mx_aload_n (mx_d tX12_drawDeeds_0 10 rfl) rfl rfl ?_
      refine mx_getR (mx_d tX12_drawDeeds_0 11 rfl) fX12_98 rfl rfl (ly12_o g0) (ly12_r14 g0) ?_
      refine mx_iconst (0) (mx_d tX12_drawDeeds_0 12 rfl) (by decide) ?_
      refine mx_ialoadC 0 (mx_d tX12_drawDeeds_0 13 rfl) (ly12_s14 g0) (by decide) (mx_inbE (by decide)) ?_
      refine mx_if_le (tgt := 41) (mx_d tX12_drawDeeds_0 14 rfl) (by decide) (fun hc3 => ?_) (fun hc3 => ?_)
      · rw [if_pos hc3] at h
        obtain rfl := Option.some.inj h
        refine mx_forget (L' := [.float 0, .float 0, .float 0, .int y3, .float 0]) ⟨rfl, trivial⟩ ?_
        exact hex
      · rw [if_neg hc3] at h
        refine mx_aload_n (mx_d tX12_drawDeeds_0 15 rfl) rfl rfl ?_
        obtain ⟨r4, h_r4, h⟩ := Option.bind_eq_some_iff.mp h
        refine mx_cVi (mx_d tX12_drawDeeds_0 16 rfl) iX12_448 rfl vX12_drawsDeed ⟨_, rfl, rfl⟩ (ly12_o g0) (CX12_drawsDeed g0 h_r4) (by decide) rfl rfl (Nat.le_of_ble_eq_true rfl) ?_
        refine mx_if_eq (tgt := 35) (mx_d tX12_drawDeeds_0 17 rfl) (by decide) (fun hc5 => ?_) (fun hc5 => ?_)
        · rw [if_pos hc5] at h
          obtain ⟨v6, e_v6, h⟩ := mx_letE h
          refine mx_iinc v6 (L2 := [.ref q0, .int y1, .float 0, .int y3, .int v6]) (mx_d tX12_drawDeeds_0 19 rfl) rfl (by rw [e_v6]; rfl) (by decide) rfl ?_
          refine mx_goto (tgt := 10) (mx_d tX12_drawDeeds_0 20 rfl) (by decide) ?_
          exact ih h hex
        · rw [if_neg hc5] at h
          obtain ⟨v7, e_v7, h⟩ := mx_letE h
          refine mx_iinc v7 (L2 := [.ref q0, .int y1, .float 0, .int v7, .int y4]) (mx_d tX12_drawDeeds_0 18 rfl) rfl (by rw [e_v7]; rfl) (by decide) rfl ?_
          obtain ⟨v8, e_v8, h⟩ := mx_letE h
          refine mx_iinc v8 (L2 := [.ref q0, .int y1, .float 0, .int v7, .int v8]) (mx_d tX12_drawDeeds_0 19 rfl) rfl (by rw [e_v8]; rfl) (by decide) rfl ?_
          refine mx_goto (tgt := 10) (mx_d tX12_drawDeeds_0 20 rfl) (by decide) ?_
          exact ih h hex
def FX12_drawDeeds (a : Nat) (x0 : Int32) (x1 : Int32) (m : mB) : Option (Int32 × mB) := mx_let (mx_up m.1 a 52 x1, m.2) (fun m1 => Option.bind (FX12_drawDeeds_L10 a x0 mx_FU 0 0 m1) (fun q9 => (some (q9.1, q9.2))))
set_option maxRecDepth 20000 in
theorem CX12_drawDeeds {G : mG} {l : Launch} {e : mE} {a : Nat} {x0 : Int32} {x1 : Int32} {m : mB} {r : (Int32 × mB)} (h0 : ly12 e a) (h : FX12_drawDeeds a x0 x1 m = some r) : mx_Call G l MX12_drawDeeds 261 0 0 [.ref a, .int x0, .int x1] (e, m) (fun v z => v = some (.int r.1) ∧ z = (e, r.2)) := by
  refine mx_entry (L := [.ref a, .int x0, .int x1, .float 0, .float 0]) (by decide +kernel) (Nat.le_of_ble_eq_true rfl) rfl ?_
  unfold FX12_drawDeeds at h
  refine mx_aload_n (mx_d tX12_drawDeeds_0 0 rfl) rfl rfl ?_
  refine mx_iload_n (mx_d tX12_drawDeeds_0 1 rfl) rfl rfl ?_
  obtain ⟨m1, e_m1, h⟩ := mx_letE h
  refine mx_putI (mx_d tX12_drawDeeds_0 2 rfl) fX12_434 rfl ⟨_, rfl, rfl⟩ rfl (ly12_o h0) (mx_eqz (z' := (e, m1)) (by rw [e_m1]) ?_)
  refine mx_iconst (0) (mx_d tX12_drawDeeds_0 3 rfl) (by decide) ?_
  refine mx_istore_n (L2 := [.ref a, .int x0, .int x1, .int 0, .float 0]) (mx_d tX12_drawDeeds_0 4 rfl) rfl (by decide) (by rfl) ?_
  refine mx_iconst (0) (mx_d tX12_drawDeeds_0 5 rfl) (by decide) ?_
  refine mx_istore (L2 := [.ref a, .int x0, .int x1, .int 0, .int 0]) (mx_d tX12_drawDeeds_0 6 rfl) (by decide) (by rfl) ?_
  obtain ⟨q9, h_q9, h⟩ := Option.bind_eq_some_iff.mp h
  refine mx_forget (L' := [.ref a, .int x0, .float 0, .int 0, .int 0]) ⟨rfl, rfl, rfl, rfl, trivial⟩ ?_
  refine CX12_drawDeeds_L10 h0 mx_FU h_q9 ?_
  refine mx_iload_n (mx_d tX12_drawDeeds_0 21 rfl) rfl rfl ?_
  obtain rfl := Option.some.inj h
  exact mx_ireturn (mx_d tX12_drawDeeds_0 22 rfl) rfl ⟨rfl, rfl⟩
def FX12_stay (a : Nat) (x0 : Int32) (m : mB) : Option mB := Option.bind (FX12_save a (a + 6) 65 0 m) (fun r1 => Option.bind (FX12_comeBack a (a + 7) 65 0 r1) (fun r2 => (if x0 = 0 then (some r2) else Option.bind (FX12_snap a r2) (fun r4 => Option.bind (FX12_comeBack a (a + 6) 65 0 r4) (fun r5 => (some r5))))))
set_option maxRecDepth 20000 in
theorem CX12_stay {G : mG} {l : Launch} {e : mE} {a : Nat} {x0 : Int32} {m : mB} {r : mB} (h0 : ly12 e a) (h : FX12_stay a x0 m = some r) : mx_Call G l MX12_stay 3 0 0 [.ref a, .int x0] (e, m) (fun v z => v = none ∧ z = (e, r)) := by
  refine mx_entry (L := [.ref a, .int x0]) (by decide +kernel) (Nat.le_of_ble_eq_true rfl) rfl ?_
  unfold FX12_stay at h
  refine mx_aload_n (mx_d tX12_stay_0 0 rfl) rfl rfl ?_
  refine mx_aload_n (mx_d tX12_stay_0 1 rfl) rfl rfl ?_
  refine mx_getR (mx_d tX12_stay_0 2 rfl) fX12_110 rfl rfl (ly12_o h0) (ly12_r18 h0) ?_
  refine mx_iconst (0) (mx_d tX12_stay_0 3 rfl) (by decide) ?_
  obtain ⟨r1, h_r1, h⟩ := Option.bind_eq_some_iff.mp h
  refine mx_cVv (mx_d tX12_stay_0 4 rfl) iX12_318 rfl vX12_save ⟨_, rfl, rfl⟩ (ly12_o h0) (CX12_save h0 (ly12_s18 h0) h_r1) (by decide) rfl rfl (Nat.le_of_ble_eq_true rfl) ?_
  refine mx_aload_n (mx_d tX12_stay_0 5 rfl) rfl rfl ?_
  refine mx_aload_n (mx_d tX12_stay_0 6 rfl) rfl rfl ?_
  refine mx_getR (mx_d tX12_stay_0 7 rfl) fX12_113 rfl rfl (ly12_o h0) (ly12_r19 h0) ?_
  refine mx_iconst (0) (mx_d tX12_stay_0 8 rfl) (by decide) ?_
  obtain ⟨r2, h_r2, h⟩ := Option.bind_eq_some_iff.mp h
  refine mx_cVv (mx_d tX12_stay_0 9 rfl) iX12_353 rfl vX12_comeBack ⟨_, rfl, rfl⟩ (ly12_o h0) (CX12_comeBack h0 (ly12_s19 h0) h_r2) (by decide) rfl rfl (Nat.le_of_ble_eq_true rfl) ?_
  refine mx_iload_n (mx_d tX12_stay_0 10 rfl) rfl rfl ?_
  refine mx_if_ne (tgt := 23) (mx_d tX12_stay_0 11 rfl) (by decide) (fun hc3 => ?_) (fun hc3 => ?_)
  · rw [if_neg hc3] at h
    refine mx_aload_n (mx_d tX12_stay_0 13 rfl) rfl rfl ?_
    obtain ⟨r4, h_r4, h⟩ := Option.bind_eq_some_iff.mp h
    refine mx_cVv (mx_d tX12_stay_0 14 rfl) iX12_332 rfl vX12_snap ⟨_, rfl, rfl⟩ (ly12_o h0) (CX12_snap h0 h_r4) (by decide) rfl rfl (Nat.le_of_ble_eq_true rfl) ?_
    refine mx_aload_n (mx_d tX12_stay_0 15 rfl) rfl rfl ?_
    refine mx_aload_n (mx_d tX12_stay_0 16 rfl) rfl rfl ?_
    refine mx_getR (mx_d tX12_stay_0 17 rfl) fX12_110 rfl rfl (ly12_o h0) (ly12_r18 h0) ?_
    refine mx_iconst (0) (mx_d tX12_stay_0 18 rfl) (by decide) ?_
    obtain ⟨r5, h_r5, h⟩ := Option.bind_eq_some_iff.mp h
    refine mx_cVv (mx_d tX12_stay_0 19 rfl) iX12_353 rfl vX12_comeBack ⟨_, rfl, rfl⟩ (ly12_o h0) (CX12_comeBack h0 (ly12_s18 h0) h_r5) (by decide) rfl rfl (Nat.le_of_ble_eq_true rfl) ?_
    obtain rfl := Option.some.inj h
    exact mx_return (mx_d tX12_stay_0 20 rfl) rfl ⟨rfl, rfl⟩
  · rw [if_pos hc3] at h
    obtain rfl := Option.some.inj h
    exact mx_return (mx_d tX12_stay_0 12 rfl) rfl ⟨rfl, rfl⟩
def FX12_drawn (a : Nat) (x0 : Int32) (x1 : Int32) (m : mB) : Option (Int32 × mB) := mx_let (mx_up m.1 a 0 0, m.2) (fun m1 => Option.bind (FX12_isIn x0 1 60 m1) (fun r2 => (if r2 = 0 then (some ((-1), m1)) else Option.bind (FX12_save a (a + 7) 65 0 m1) (fun r4 => Option.bind (FX12_drawDeeds a x0 x1 r4) (fun r5 => (if r5.1 ≤ 0 then Option.bind (FX12_stay a 0 r5.2) (fun r7 => (some (r5.1, r7))) else Option.bind (FX12_stay a 1 r5.2) (fun r8 => (some (r5.1, r8)))))))))
set_option maxRecDepth 20000 in
theorem CX12_drawn {G : mG} {l : Launch} {e : mE} {a : Nat} {x0 : Int32} {x1 : Int32} {m : mB} {r : (Int32 × mB)} (h0 : ly12 e a) (h : FX12_drawn a x0 x1 m = some r) : mx_Call G l MX12_drawn 262 0 0 [.ref a, .int x0, .int x1] (e, m) (fun v z => v = some (.int r.1) ∧ z = (e, r.2)) := by
  refine mx_entry (L := [.ref a, .int x0, .int x1, .float 0]) (by decide +kernel) (Nat.le_of_ble_eq_true rfl) rfl ?_
  unfold FX12_drawn at h
  refine mx_aload_n (mx_d tX12_drawn_0 0 rfl) rfl rfl ?_
  refine mx_iconst (0) (mx_d tX12_drawn_0 1 rfl) (by decide) ?_
  obtain ⟨m1, e_m1, h⟩ := mx_letE h
  refine mx_putI (mx_d tX12_drawn_0 2 rfl) fX12_1 rfl ⟨_, rfl, rfl⟩ rfl (ly12_o h0) (mx_eqz (z' := (e, m1)) (by rw [e_m1]) ?_)
  refine mx_iload_n (mx_d tX12_drawn_0 3 rfl) rfl rfl ?_
  refine mx_iconst (1) (mx_d tX12_drawn_0 4 rfl) (by decide) ?_
  refine mx_bipush (60) (mx_d tX12_drawn_0 5 rfl) (by decide) ?_
  obtain ⟨r2, h_r2, h⟩ := Option.bind_eq_some_iff.mp h
  refine mx_cSi (mx_d tX12_drawn_0 6 rfl) iX12_75 rfl sX12_isIn (CX12_isIn  h_r2) (by decide) rfl rfl (Nat.le_of_ble_eq_true rfl) ?_
  refine mx_if_ne (tgt := 17) (mx_d tX12_drawn_0 7 rfl) (by decide) (fun hc3 => ?_) (fun hc3 => ?_)
  · rw [if_neg hc3] at h
    refine mx_aload_n (mx_d tX12_drawn_0 10 rfl) rfl rfl ?_
    refine mx_aload_n (mx_d tX12_drawn_0 11 rfl) rfl rfl ?_
    refine mx_getR (mx_d tX12_drawn_0 12 rfl) fX12_113 rfl rfl (ly12_o h0) (ly12_r19 h0) ?_
    refine mx_iconst (0) (mx_d tX12_drawn_0 13 rfl) (by decide) ?_
    obtain ⟨r4, h_r4, h⟩ := Option.bind_eq_some_iff.mp h
    refine mx_cVv (mx_d tX12_drawn_0 14 rfl) iX12_318 rfl vX12_save ⟨_, rfl, rfl⟩ (ly12_o h0) (CX12_save h0 (ly12_s19 h0) h_r4) (by decide) rfl rfl (Nat.le_of_ble_eq_true rfl) ?_
    refine mx_aload_n (mx_d tX12_drawn_0 15 rfl) rfl rfl ?_
    refine mx_iload_n (mx_d tX12_drawn_0 16 rfl) rfl rfl ?_
    refine mx_iload_n (mx_d tX12_drawn_0 17 rfl) rfl rfl ?_
    obtain ⟨r5, h_r5, h⟩ := Option.bind_eq_some_iff.mp h
    refine mx_cVi (mx_d tX12_drawn_0 18 rfl) iX12_451 rfl vX12_drawDeeds ⟨_, rfl, rfl⟩ (ly12_o h0) (CX12_drawDeeds h0 h_r5) (by decide) rfl rfl (Nat.le_of_ble_eq_true rfl) ?_
    refine mx_istore_n (L2 := [.ref a, .int x0, .int x1, .int r5.1]) (mx_d tX12_drawn_0 19 rfl) rfl (by decide) (by rfl) ?_
    refine mx_aload_n (mx_d tX12_drawn_0 20 rfl) rfl rfl ?_
    refine mx_iload_n (mx_d tX12_drawn_0 21 rfl) rfl rfl ?_
    refine mx_if_le (tgt := 42) (mx_d tX12_drawn_0 22 rfl) (by decide) (fun hc6 => ?_) (fun hc6 => ?_)
    · rw [if_pos hc6] at h
      refine mx_iconst (0) (mx_d tX12_drawn_0 25 rfl) (by decide) ?_
      obtain ⟨r7, h_r7, h⟩ := Option.bind_eq_some_iff.mp h
      refine mx_cVv (mx_d tX12_drawn_0 26 rfl) iX12_454 rfl vX12_stay ⟨_, rfl, rfl⟩ (ly12_o h0) (CX12_stay h0 h_r7) (by decide) rfl rfl (Nat.le_of_ble_eq_true rfl) ?_
      refine mx_iload_n (mx_d tX12_drawn_0 27 rfl) rfl rfl ?_
      obtain rfl := Option.some.inj h
      exact mx_ireturn (mx_d tX12_drawn_0 28 rfl) rfl ⟨rfl, rfl⟩
    · rw [if_neg hc6] at h
      refine mx_iconst (1) (mx_d tX12_drawn_0 23 rfl) (by decide) ?_
      refine mx_goto (tgt := 43) (mx_d tX12_drawn_0 24 rfl) (by decide) ?_
      obtain ⟨r8, h_r8, h⟩ := Option.bind_eq_some_iff.mp h
      refine mx_cVv (mx_d tX12_drawn_0 26 rfl) iX12_454 rfl vX12_stay ⟨_, rfl, rfl⟩ (ly12_o h0) (CX12_stay h0 h_r8) (by decide) rfl rfl (Nat.le_of_ble_eq_true rfl) ?_
      refine mx_iload_n (mx_d tX12_drawn_0 27 rfl) rfl rfl ?_
      obtain rfl := Option.some.inj h
      exact mx_ireturn (mx_d tX12_drawn_0 28 rfl) rfl ⟨rfl, rfl⟩
  · rw [if_pos hc3] at h
    refine mx_iconst ((-1)) (mx_d tX12_drawn_0 8 rfl) (by decide) ?_
    obtain rfl := Option.some.inj h
    exact mx_ireturn (mx_d tX12_drawn_0 9 rfl) rfl ⟨rfl, rfl⟩
def FX12_odds_L40 (q0 : Nat) (y1 : Int32) (y2 : Int32) (y3 : Int32) : Nat → Int32 → Int32 → mB → Option (Int32 × mB)
  | 0, _, _, _ => none
  | f + 1, y4, y5, m => (if y2 ≤ y5 then (some ((y4, m))) else Option.bind (FX12_drawDeeds q0 12 (y3 + y5) m) (fun r8 => Option.bind (FX12_isLone q0 y1 r8.2) (fun r9 => (if r9 = 0 then mx_let (y4 + 1) (fun v13 => Option.bind (FX12_comeBack q0 (q0 + 7) 65 0 r8.2) (fun r14 => mx_let (y5 + 1) (fun v15 => (FX12_odds_L40 q0 y1 y2 y3 f v13 v15 r14)))) else Option.bind (FX12_comeBack q0 (q0 + 7) 65 0 r8.2) (fun r11 => mx_let (y5 + 1) (fun v12 => (FX12_odds_L40 q0 y1 y2 y3 f y4 v12 r11)))))))
set_option maxRecDepth 20000 in
theorem CX12_odds_L40 {G : mG} {l : Launch} {e : mE} {Post : Option Value → mS → Prop} {q0 : Nat} {y1 : Int32} {y2 : Int32} {y3 : Int32} (g0 : ly12 e q0) : ∀ (f : Nat) {y4 : Int32} {y5 : Int32} {m : mB} {q : (Int32 × mB)}, FX12_odds_L40 q0 y1 y2 y3 f y4 y5 m = some q → (mx_Fr G l MX12_odds 262 0 0 Post 83 [.float 0, .float 0, .float 0, .float 0, .int q.1, .float 0] [] (e, q.2)) → mx_Fr G l MX12_odds 262 0 0 Post 40 [.ref q0, .int y1, .int y2, .int y3, .int y4, .int y5] [] (e, m) := by
  intro f
  induction f with
  | zero => intro _ _ _ _ h; cases h
  | succ f ih =>
    intro y4 y5 m q h hex
    rw [FX12_odds_L40] at h
    refine mx_iload (mx_d tX12_odds_0 23 rfl) rfl ?_
    refine mx_iload_n (mx_d tX12_odds_0 24 rfl) rfl rfl ?_
    refine mx_icmp_ge (tgt := 83) (mx_d tX12_odds_0 25 rfl) (by decide) (fun hc7 => ?_) (fun hc7 => ?_)
    · rw [if_pos hc7] at h
      obtain rfl := Option.some.inj h
      refine mx_forget (L' := [.float 0, .float 0, .float 0, .float 0, .int y4, .float 0]) ⟨rfl, trivial⟩ ?_
      exact hex
    · rw [if_neg hc7] at h
      refine mx_aload_n (mx_d tX12_odds_0 26 rfl) rfl rfl ?_
      refine mx_bipush (12) (mx_d tX12_odds_0 27 rfl) (by decide) ?_
      refine mx_iload_n (mx_d tX12_odds_0 28 rfl) rfl rfl ?_
      refine mx_iload (mx_d tX12_odds_0 29 rfl) rfl ?_
      refine mx_iadd (mx_d tX12_odds_0 30 rfl) ?_
      obtain ⟨r8, h_r8, h⟩ := Option.bind_eq_some_iff.mp h
      refine mx_cVi (mx_d tX12_odds_0 31 rfl) iX12_451 rfl vX12_drawDeeds ⟨_, rfl, rfl⟩ (ly12_o g0) (CX12_drawDeeds g0 h_r8) (by decide) rfl rfl (Nat.le_of_ble_eq_true rfl) ?_
      refine mx_pop (mx_d tX12_odds_0 32 rfl) rfl ?_
      refine mx_aload_n (mx_d tX12_odds_0 33 rfl) rfl rfl ?_
      refine mx_iload_n (mx_d tX12_odds_0 34 rfl) rfl rfl ?_
      obtain ⟨r9, h_r9, h⟩ := Option.bind_eq_some_iff.mp h
      refine mx_cVi (mx_d tX12_odds_0 35 rfl) iX12_294 rfl vX12_isLone ⟨_, rfl, rfl⟩ (ly12_o g0) (CX12_isLone g0 h_r9) (by decide) rfl rfl (Nat.le_of_ble_eq_true rfl) ?_
      refine mx_if_ne (tgt := 68) (mx_d tX12_odds_0 36 rfl) (by decide) (fun hc10 => ?_) (fun hc10 => ?_)
      · rw [if_neg hc10] at h
        refine mx_aload_n (mx_d tX12_odds_0 38 rfl) rfl rfl ?_
        refine mx_aload_n (mx_d tX12_odds_0 39 rfl) rfl rfl ?_
        refine mx_getR (mx_d tX12_odds_0 40 rfl) fX12_113 rfl rfl (ly12_o g0) (ly12_r19 g0) ?_
        refine mx_iconst (0) (mx_d tX12_odds_0 41 rfl) (by decide) ?_
        obtain ⟨r11, h_r11, h⟩ := Option.bind_eq_some_iff.mp h
        refine mx_cVv (mx_d tX12_odds_0 42 rfl) iX12_353 rfl vX12_comeBack ⟨_, rfl, rfl⟩ (ly12_o g0) (CX12_comeBack g0 (ly12_s19 g0) h_r11) (by decide) rfl rfl (Nat.le_of_ble_eq_true rfl) ?_
        obtain ⟨v12, e_v12, h⟩ := mx_letE h
        refine mx_iinc v12 (L2 := [.ref q0, .int y1, .int y2, .int y3, .int y4, .int v12]) (mx_d tX12_odds_0 43 rfl) rfl (by rw [e_v12]; rfl) (by decide) rfl ?_
        refine mx_goto (tgt := 40) (mx_d tX12_odds_0 44 rfl) (by decide) ?_
        exact ih h hex
      · rw [if_pos hc10] at h
        obtain ⟨v13, e_v13, h⟩ := mx_letE h
        refine mx_iinc v13 (L2 := [.ref q0, .int y1, .int y2, .int y3, .int v13, .int y5]) (mx_d tX12_odds_0 37 rfl) rfl (by rw [e_v13]; rfl) (by decide) rfl ?_
        refine mx_aload_n (mx_d tX12_odds_0 38 rfl) rfl rfl ?_
        refine mx_aload_n (mx_d tX12_odds_0 39 rfl) rfl rfl ?_
        refine mx_getR (mx_d tX12_odds_0 40 rfl) fX12_113 rfl rfl (ly12_o g0) (ly12_r19 g0) ?_
        refine mx_iconst (0) (mx_d tX12_odds_0 41 rfl) (by decide) ?_
        obtain ⟨r14, h_r14, h⟩ := Option.bind_eq_some_iff.mp h
        refine mx_cVv (mx_d tX12_odds_0 42 rfl) iX12_353 rfl vX12_comeBack ⟨_, rfl, rfl⟩ (ly12_o g0) (CX12_comeBack g0 (ly12_s19 g0) h_r14) (by decide) rfl rfl (Nat.le_of_ble_eq_true rfl) ?_
        obtain ⟨v15, e_v15, h⟩ := mx_letE h
        refine mx_iinc v15 (L2 := [.ref q0, .int y1, .int y2, .int y3, .int v13, .int v15]) (mx_d tX12_odds_0 43 rfl) rfl (by rw [e_v15]; rfl) (by decide) rfl ?_
        refine mx_goto (tgt := 40) (mx_d tX12_odds_0 44 rfl) (by decide) ?_
        exact ih h hex
def FX12_odds (a : Nat) (x0 : Int32) (x1 : Int32) (x2 : Int32) (m : mB) : Option (Int32 × mB) := mx_let (mx_up m.1 a 0 0, m.2) (fun m1 => Option.bind (FX12_isPoint a x0 m1) (fun r2 => (if r2 = 0 then (some ((-1), m1)) else Option.bind (FX12_isIn x1 1 20 m1) (fun r4 => (if r4 = 0 then (some ((-1), m1)) else Option.bind (FX12_save a (a + 7) 65 0 m1) (fun r6 => Option.bind (FX12_odds_L40 a x0 x1 x2 mx_FU 0 0 r6) (fun q16 => (some (q16.1, q16.2)))))))))
set_option maxRecDepth 20000 in
theorem CX12_odds {G : mG} {l : Launch} {e : mE} {a : Nat} {x0 : Int32} {x1 : Int32} {x2 : Int32} {m : mB} {r : (Int32 × mB)} (h0 : ly12 e a) (h : FX12_odds a x0 x1 x2 m = some r) : mx_Call G l MX12_odds 262 0 0 [.ref a, .int x0, .int x1, .int x2] (e, m) (fun v z => v = some (.int r.1) ∧ z = (e, r.2)) := by
  refine mx_entry (L := [.ref a, .int x0, .int x1, .int x2, .float 0, .float 0]) (by decide +kernel) (Nat.le_of_ble_eq_true rfl) rfl ?_
  unfold FX12_odds at h
  refine mx_aload_n (mx_d tX12_odds_0 0 rfl) rfl rfl ?_
  refine mx_iconst (0) (mx_d tX12_odds_0 1 rfl) (by decide) ?_
  obtain ⟨m1, e_m1, h⟩ := mx_letE h
  refine mx_putI (mx_d tX12_odds_0 2 rfl) fX12_1 rfl ⟨_, rfl, rfl⟩ rfl (ly12_o h0) (mx_eqz (z' := (e, m1)) (by rw [e_m1]) ?_)
  refine mx_aload_n (mx_d tX12_odds_0 3 rfl) rfl rfl ?_
  refine mx_iload_n (mx_d tX12_odds_0 4 rfl) rfl rfl ?_
  obtain ⟨r2, h_r2, h⟩ := Option.bind_eq_some_iff.mp h
  refine mx_cVi (mx_d tX12_odds_0 5 rfl) iX12_247 rfl vX12_isPoint ⟨_, rfl, rfl⟩ (ly12_o h0) (CX12_isPoint h0 h_r2) (by decide) rfl rfl (Nat.le_of_ble_eq_true rfl) ?_
  refine mx_if_eq (tgt := 23) (mx_d tX12_odds_0 6 rfl) (by decide) (fun hc3 => ?_) (fun hc3 => ?_)
  · rw [if_pos hc3] at h
    refine mx_iconst ((-1)) (mx_d tX12_odds_0 12 rfl) (by decide) ?_
    obtain rfl := Option.some.inj h
    exact mx_ireturn (mx_d tX12_odds_0 13 rfl) rfl ⟨rfl, rfl⟩
  · rw [if_neg hc3] at h
    refine mx_iload_n (mx_d tX12_odds_0 7 rfl) rfl rfl ?_
    refine mx_iconst (1) (mx_d tX12_odds_0 8 rfl) (by decide) ?_
    refine mx_bipush (20) (mx_d tX12_odds_0 9 rfl) (by decide) ?_
    obtain ⟨r4, h_r4, h⟩ := Option.bind_eq_some_iff.mp h
    refine mx_cSi (mx_d tX12_odds_0 10 rfl) iX12_75 rfl sX12_isIn (CX12_isIn  h_r4) (by decide) rfl rfl (Nat.le_of_ble_eq_true rfl) ?_
    refine mx_if_ne (tgt := 25) (mx_d tX12_odds_0 11 rfl) (by decide) (fun hc5 => ?_) (fun hc5 => ?_)
    · rw [if_neg hc5] at h
      refine mx_aload_n (mx_d tX12_odds_0 14 rfl) rfl rfl ?_
      refine mx_aload_n (mx_d tX12_odds_0 15 rfl) rfl rfl ?_
      refine mx_getR (mx_d tX12_odds_0 16 rfl) fX12_113 rfl rfl (ly12_o h0) (ly12_r19 h0) ?_
      refine mx_iconst (0) (mx_d tX12_odds_0 17 rfl) (by decide) ?_
      obtain ⟨r6, h_r6, h⟩ := Option.bind_eq_some_iff.mp h
      refine mx_cVv (mx_d tX12_odds_0 18 rfl) iX12_318 rfl vX12_save ⟨_, rfl, rfl⟩ (ly12_o h0) (CX12_save h0 (ly12_s19 h0) h_r6) (by decide) rfl rfl (Nat.le_of_ble_eq_true rfl) ?_
      refine mx_iconst (0) (mx_d tX12_odds_0 19 rfl) (by decide) ?_
      refine mx_istore (L2 := [.ref a, .int x0, .int x1, .int x2, .int 0, .float 0]) (mx_d tX12_odds_0 20 rfl) (by decide) (by rfl) ?_
      refine mx_iconst (0) (mx_d tX12_odds_0 21 rfl) (by decide) ?_
      refine mx_istore (L2 := [.ref a, .int x0, .int x1, .int x2, .int 0, .int 0]) (mx_d tX12_odds_0 22 rfl) (by decide) (by rfl) ?_
      obtain ⟨q16, h_q16, h⟩ := Option.bind_eq_some_iff.mp h
      refine CX12_odds_L40 h0 mx_FU h_q16 ?_
      refine mx_iload (mx_d tX12_odds_0 45 rfl) rfl ?_
      obtain rfl := Option.some.inj h
      exact mx_ireturn (mx_d tX12_odds_0 46 rfl) rfl ⟨rfl, rfl⟩
    · rw [if_pos hc5] at h
      refine mx_iconst ((-1)) (mx_d tX12_odds_0 12 rfl) (by decide) ?_
      obtain rfl := Option.some.inj h
      exact mx_ireturn (mx_d tX12_odds_0 13 rfl) rfl ⟨rfl, rfl⟩
def FX12_keep (a : Nat) (x0 : Int32) (x1 : Int32) (m : mB) : Option (Int32 × mB) := (if x1 = 0 then mx_chk (mx_b01 x1) ((some (x1, m))) else mx_chk (mx_inb x0 160) (mx_let (mx_up m.1 (a + 24) (Int32.toNatClampNeg x0) (m.1 a 13), m.2) (fun m3 => mx_chk (mx_b01 x1) ((some (x1, m3))))))
set_option maxRecDepth 20000 in
theorem CX12_keep {G : mG} {l : Launch} {e : mE} {a : Nat} {x0 : Int32} {x1 : Int32} {m : mB} {r : (Int32 × mB)} (h0 : ly12 e a) (h : FX12_keep a x0 x1 m = some r) : mx_Call G l MX12_keep 1 0 0 [.ref a, .int x0, .int x1] (e, m) (fun v z => v = some (.int r.1) ∧ z = (e, r.2)) := by
  refine mx_entry (L := [.ref a, .int x0, .int x1]) (by decide +kernel) (Nat.le_of_ble_eq_true rfl) rfl ?_
  unfold FX12_keep at h
  refine mx_iload_n (mx_d tX12_keep_0 0 rfl) rfl rfl ?_
  refine mx_if_eq (tgt := 14) (mx_d tX12_keep_0 1 rfl) (by decide) (fun hc1 => ?_) (fun hc1 => ?_)
  · rw [if_pos hc1] at h
    refine mx_iload_n (mx_d tX12_keep_0 8 rfl) rfl rfl ?_
    obtain ⟨hb2, h⟩ := mx_chkE h
    obtain rfl := Option.some.inj h
    exact mx_zreturn (mx_d tX12_keep_0 9 rfl) rfl (mx_nb (mx_b01E hb2)) ⟨rfl, rfl⟩
  · rw [if_neg hc1] at h
    refine mx_aload_n (mx_d tX12_keep_0 2 rfl) rfl rfl ?_
    refine mx_getR (mx_d tX12_keep_0 3 rfl) fX12_172 rfl rfl (ly12_o h0) (ly12_r53 h0) ?_
    refine mx_iload_n (mx_d tX12_keep_0 4 rfl) rfl rfl ?_
    refine mx_aload_n (mx_d tX12_keep_0 5 rfl) rfl rfl ?_
    refine mx_getI (mx_d tX12_keep_0 6 rfl) fX12_79 rfl (Or.inl rfl) (ly12_o h0) ?_
    obtain ⟨hi4, h⟩ := mx_chkE h
    obtain ⟨m3, e_m3, h⟩ := mx_letE h
    refine mx_iastore (mx_d tX12_keep_0 7 rfl) (ly12_s53 h0) (mx_inbE hi4) (mx_eqz (z' := (e, m3)) (by rw [e_m3]) ?_)
    refine mx_iload_n (mx_d tX12_keep_0 8 rfl) rfl rfl ?_
    obtain ⟨hb5, h⟩ := mx_chkE h
    obtain rfl := Option.some.inj h
    exact mx_zreturn (mx_d tX12_keep_0 9 rfl) rfl (mx_nb (mx_b01E hb5)) ⟨rfl, rfl⟩
def FX12_readPointName (a : Nat) (m : mB) : Option (Int32 × mB) := Option.bind (FX12_isName a m) (fun r1 => (if r1 = 0 then Option.bind (FX12_bad a 1 m) (fun r9 => mx_chk (mx_b01 r9.1) ((some (r9.1, r9.2)))) else Option.bind (FX12_findIn (a + 8) 10 0 (m.1 (a + 2) 0) (m.2 a 12) m) (fun r3 => mx_let (mx_up m.1 a 13 r3, m.2) (fun m4 => (if (m4.1 a 13) = (-1) then Option.bind (FX12_bad a 3 m4) (fun r7 => mx_chk (mx_b01 r7.1) ((some (r7.1, r7.2)))) else Option.bind (FX12_go a m4) (fun r6 => (some (1, r6))))))))
set_option maxRecDepth 20000 in
theorem CX12_readPointName {G : mG} {l : Launch} {e : mE} {a : Nat} {m : mB} {r : (Int32 × mB)} (h0 : ly12 e a) (h : FX12_readPointName a m = some r) : mx_Call G l MX12_readPointName 4 0 0 [.ref a] (e, m) (fun v z => v = some (.int r.1) ∧ z = (e, r.2)) := by
  refine mx_entry (L := [.ref a]) (by decide +kernel) (Nat.le_of_ble_eq_true rfl) rfl ?_
  unfold FX12_readPointName at h
  refine mx_aload_n (mx_d tX12_readPointName_0 0 rfl) rfl rfl ?_
  obtain ⟨r1, h_r1, h⟩ := Option.bind_eq_some_iff.mp h
  refine mx_cVi (mx_d tX12_readPointName_0 1 rfl) iX12_188 rfl vX12_isName ⟨_, rfl, rfl⟩ (ly12_o h0) (CX12_isName h0 h_r1) (by decide) rfl rfl (Nat.le_of_ble_eq_true rfl) ?_
  refine mx_if_ne (tgt := 13) (mx_d tX12_readPointName_0 2 rfl) (by decide) (fun hc2 => ?_) (fun hc2 => ?_)
  · rw [if_neg hc2] at h
    refine mx_aload_n (mx_d tX12_readPointName_0 7 rfl) rfl rfl ?_
    refine mx_aload_n (mx_d tX12_readPointName_0 8 rfl) rfl rfl ?_
    refine mx_getR (mx_d tX12_readPointName_0 9 rfl) fX12_116 rfl rfl (ly12_o h0) (ly12_r20 h0) ?_
    refine mx_iconst (0) (mx_d tX12_readPointName_0 10 rfl) (by decide) ?_
    refine mx_aload_n (mx_d tX12_readPointName_0 11 rfl) rfl rfl ?_
    refine mx_getR (mx_d tX12_readPointName_0 12 rfl) fX12_98 rfl rfl (ly12_o h0) (ly12_r14 h0) ?_
    refine mx_iconst (0) (mx_d tX12_readPointName_0 13 rfl) (by decide) ?_
    refine mx_ialoadC 0 (mx_d tX12_readPointName_0 14 rfl) (ly12_s14 h0) (by decide) (mx_inbE (by decide)) ?_
    refine mx_aload_n (mx_d tX12_readPointName_0 15 rfl) rfl rfl ?_
    refine mx_getJ (mx_d tX12_readPointName_0 16 rfl) fX12_43 rfl rfl (ly12_o h0) ?_
    obtain ⟨r3, h_r3, h⟩ := Option.bind_eq_some_iff.mp h
    refine mx_cSi (mx_d tX12_readPointName_0 17 rfl) iX12_192 rfl sX12_findIn (CX12_findIn (ly12_s20 h0) h_r3) (by decide) rfl rfl (Nat.le_of_ble_eq_true rfl) ?_
    obtain ⟨m4, e_m4, h⟩ := mx_letE h
    refine mx_putI (mx_d tX12_readPointName_0 18 rfl) fX12_79 rfl ⟨_, rfl, rfl⟩ rfl (ly12_o h0) (mx_eqz (z' := (e, m4)) (by rw [e_m4]) ?_)
    refine mx_aload_n (mx_d tX12_readPointName_0 19 rfl) rfl rfl ?_
    refine mx_getI (mx_d tX12_readPointName_0 20 rfl) fX12_79 rfl (Or.inl rfl) (ly12_o h0) ?_
    refine mx_iconst ((-1)) (mx_d tX12_readPointName_0 21 rfl) (by decide) ?_
    refine mx_icmp_ne (tgt := 49) (mx_d tX12_readPointName_0 22 rfl) (by decide) (fun hc5 => ?_) (fun hc5 => ?_)
    · rw [if_neg hc5] at h
      refine mx_aload_n (mx_d tX12_readPointName_0 27 rfl) rfl rfl ?_
      obtain ⟨r6, h_r6, h⟩ := Option.bind_eq_some_iff.mp h
      refine mx_cVv (mx_d tX12_readPointName_0 28 rfl) iX12_82 rfl vX12_go ⟨_, rfl, rfl⟩ (ly12_o h0) (CX12_go h0 h_r6) (by decide) rfl rfl (Nat.le_of_ble_eq_true rfl) ?_
      refine mx_iconst (1) (mx_d tX12_readPointName_0 29 rfl) (by decide) ?_
      obtain rfl := Option.some.inj h
      exact mx_zreturn (mx_d tX12_readPointName_0 30 rfl) rfl rfl ⟨rfl, rfl⟩
    · rw [if_pos hc5] at h
      refine mx_aload_n (mx_d tX12_readPointName_0 23 rfl) rfl rfl ?_
      refine mx_iconst (3) (mx_d tX12_readPointName_0 24 rfl) (by decide) ?_
      obtain ⟨r7, h_r7, h⟩ := Option.bind_eq_some_iff.mp h
      refine mx_cVi (mx_d tX12_readPointName_0 25 rfl) iX12_72 rfl vX12_bad ⟨_, rfl, rfl⟩ (ly12_o h0) (CX12_bad h0 h_r7) (by decide) rfl rfl (Nat.le_of_ble_eq_true rfl) ?_
      obtain ⟨hb8, h⟩ := mx_chkE h
      obtain rfl := Option.some.inj h
      exact mx_zreturn (mx_d tX12_readPointName_0 26 rfl) rfl (mx_nb (mx_b01E hb8)) ⟨rfl, rfl⟩
  · rw [if_pos hc2] at h
    refine mx_aload_n (mx_d tX12_readPointName_0 3 rfl) rfl rfl ?_
    refine mx_iconst (1) (mx_d tX12_readPointName_0 4 rfl) (by decide) ?_
    obtain ⟨r9, h_r9, h⟩ := Option.bind_eq_some_iff.mp h
    refine mx_cVi (mx_d tX12_readPointName_0 5 rfl) iX12_72 rfl vX12_bad ⟨_, rfl, rfl⟩ (ly12_o h0) (CX12_bad h0 h_r9) (by decide) rfl rfl (Nat.le_of_ble_eq_true rfl) ?_
    obtain ⟨hb10, h⟩ := mx_chkE h
    obtain rfl := Option.some.inj h
    exact mx_zreturn (mx_d tX12_readPointName_0 6 rfl) rfl (mx_nb (mx_b01E hb10)) ⟨rfl, rfl⟩
def FX12_readOther (a : Nat) (x0 : Int32) (m : mB) : Option (Int32 × mB) := Option.bind (FX12_isName a m) (fun r1 => (if r1 = 0 then Option.bind (FX12_bad a 1 m) (fun r14 => mx_chk (mx_b01 r14.1) ((some (r14.1, r14.2)))) else Option.bind (FX12_findIn (a + 8) 10 0 (m.1 (a + 2) 0) (m.2 a 12) m) (fun r3 => mx_chk (mx_inb (x0 + 1) 160) (mx_let (mx_up m.1 (a + 24) (Int32.toNatClampNeg (x0 + 1)) r3, m.2) (fun m4 => (if (m4.1 (a + 24) (Int32.toNatClampNeg (x0 + 1))) = (-1) then Option.bind (FX12_bad a 3 m4) (fun r7 => mx_chk (mx_b01 r7.1) ((some (r7.1, r7.2)))) else mx_chk (mx_inb x0 160) ((if (m4.1 (a + 24) (Int32.toNatClampNeg (x0 + 1))) = (m4.1 (a + 24) (Int32.toNatClampNeg x0)) then Option.bind (FX12_bad a 3 m4) (fun r12 => mx_chk (mx_b01 r12.1) ((some (r12.1, r12.2)))) else Option.bind (FX12_go a m4) (fun r11 => (some (1, r11)))))))))))
set_option maxRecDepth 20000 in
theorem CX12_readOther {G : mG} {l : Launch} {e : mE} {a : Nat} {x0 : Int32} {m : mB} {r : (Int32 × mB)} (h0 : ly12 e a) (h : FX12_readOther a x0 m = some r) : mx_Call G l MX12_readOther 4 0 0 [.ref a, .int x0] (e, m) (fun v z => v = some (.int r.1) ∧ z = (e, r.2)) := by
  refine mx_entry (L := [.ref a, .int x0]) (by decide +kernel) (Nat.le_of_ble_eq_true rfl) rfl ?_
  unfold FX12_readOther at h
  refine mx_aload_n (mx_d tX12_readOther_0 0 rfl) rfl rfl ?_
  obtain ⟨r1, h_r1, h⟩ := Option.bind_eq_some_iff.mp h
  refine mx_cVi (mx_d tX12_readOther_0 1 rfl) iX12_188 rfl vX12_isName ⟨_, rfl, rfl⟩ (ly12_o h0) (CX12_isName h0 h_r1) (by decide) rfl rfl (Nat.le_of_ble_eq_true rfl) ?_
  refine mx_if_ne (tgt := 13) (mx_d tX12_readOther_0 2 rfl) (by decide) (fun hc2 => ?_) (fun hc2 => ?_)
  · rw [if_neg hc2] at h
    refine mx_aload_n (mx_d tX12_readOther_0 7 rfl) rfl rfl ?_
    refine mx_getR (mx_d tX12_readOther_0 8 rfl) fX12_172 rfl rfl (ly12_o h0) (ly12_r53 h0) ?_
    refine mx_iload_n (mx_d tX12_readOther_0 9 rfl) rfl rfl ?_
    refine mx_iconst (1) (mx_d tX12_readOther_0 10 rfl) (by decide) ?_
    refine mx_iadd (mx_d tX12_readOther_0 11 rfl) ?_
    refine mx_aload_n (mx_d tX12_readOther_0 12 rfl) rfl rfl ?_
    refine mx_getR (mx_d tX12_readOther_0 13 rfl) fX12_116 rfl rfl (ly12_o h0) (ly12_r20 h0) ?_
    refine mx_iconst (0) (mx_d tX12_readOther_0 14 rfl) (by decide) ?_
    refine mx_aload_n (mx_d tX12_readOther_0 15 rfl) rfl rfl ?_
    refine mx_getR (mx_d tX12_readOther_0 16 rfl) fX12_98 rfl rfl (ly12_o h0) (ly12_r14 h0) ?_
    refine mx_iconst (0) (mx_d tX12_readOther_0 17 rfl) (by decide) ?_
    refine mx_ialoadC 0 (mx_d tX12_readOther_0 18 rfl) (ly12_s14 h0) (by decide) (mx_inbE (by decide)) ?_
    refine mx_aload_n (mx_d tX12_readOther_0 19 rfl) rfl rfl ?_
    refine mx_getJ (mx_d tX12_readOther_0 20 rfl) fX12_43 rfl rfl (ly12_o h0) ?_
    obtain ⟨r3, h_r3, h⟩ := Option.bind_eq_some_iff.mp h
    refine mx_cSi (mx_d tX12_readOther_0 21 rfl) iX12_192 rfl sX12_findIn (CX12_findIn (ly12_s20 h0) h_r3) (by decide) rfl rfl (Nat.le_of_ble_eq_true rfl) ?_
    obtain ⟨hi5, h⟩ := mx_chkE h
    obtain ⟨m4, e_m4, h⟩ := mx_letE h
    refine mx_iastore (mx_d tX12_readOther_0 22 rfl) (ly12_s53 h0) (mx_inbE hi5) (mx_eqz (z' := (e, m4)) (by rw [e_m4]) ?_)
    refine mx_aload_n (mx_d tX12_readOther_0 23 rfl) rfl rfl ?_
    refine mx_getR (mx_d tX12_readOther_0 24 rfl) fX12_172 rfl rfl (ly12_o h0) (ly12_r53 h0) ?_
    refine mx_iload_n (mx_d tX12_readOther_0 25 rfl) rfl rfl ?_
    refine mx_iconst (1) (mx_d tX12_readOther_0 26 rfl) (by decide) ?_
    refine mx_iadd (mx_d tX12_readOther_0 27 rfl) ?_
    refine mx_iaload (mx_d tX12_readOther_0 28 rfl) (ly12_s53 h0) (mx_inbE hi5) ?_
    refine mx_iconst ((-1)) (mx_d tX12_readOther_0 29 rfl) (by decide) ?_
    refine mx_icmp_eq (tgt := 68) (mx_d tX12_readOther_0 30 rfl) (by decide) (fun hc6 => ?_) (fun hc6 => ?_)
    · rw [if_pos hc6] at h
      refine mx_aload_n (mx_d tX12_readOther_0 42 rfl) rfl rfl ?_
      refine mx_iconst (3) (mx_d tX12_readOther_0 43 rfl) (by decide) ?_
      obtain ⟨r7, h_r7, h⟩ := Option.bind_eq_some_iff.mp h
      refine mx_cVi (mx_d tX12_readOther_0 44 rfl) iX12_72 rfl vX12_bad ⟨_, rfl, rfl⟩ (ly12_o h0) (CX12_bad h0 h_r7) (by decide) rfl rfl (Nat.le_of_ble_eq_true rfl) ?_
      obtain ⟨hb8, h⟩ := mx_chkE h
      obtain rfl := Option.some.inj h
      exact mx_zreturn (mx_d tX12_readOther_0 45 rfl) rfl (mx_nb (mx_b01E hb8)) ⟨rfl, rfl⟩
    · rw [if_neg hc6] at h
      refine mx_aload_n (mx_d tX12_readOther_0 31 rfl) rfl rfl ?_
      refine mx_getR (mx_d tX12_readOther_0 32 rfl) fX12_172 rfl rfl (ly12_o h0) (ly12_r53 h0) ?_
      refine mx_iload_n (mx_d tX12_readOther_0 33 rfl) rfl rfl ?_
      refine mx_iconst (1) (mx_d tX12_readOther_0 34 rfl) (by decide) ?_
      refine mx_iadd (mx_d tX12_readOther_0 35 rfl) ?_
      refine mx_iaload (mx_d tX12_readOther_0 36 rfl) (ly12_s53 h0) (mx_inbE hi5) ?_
      refine mx_aload_n (mx_d tX12_readOther_0 37 rfl) rfl rfl ?_
      refine mx_getR (mx_d tX12_readOther_0 38 rfl) fX12_172 rfl rfl (ly12_o h0) (ly12_r53 h0) ?_
      refine mx_iload_n (mx_d tX12_readOther_0 39 rfl) rfl rfl ?_
      obtain ⟨hi9, h⟩ := mx_chkE h
      refine mx_iaload (mx_d tX12_readOther_0 40 rfl) (ly12_s53 h0) (mx_inbE hi9) ?_
      refine mx_icmp_ne (tgt := 74) (mx_d tX12_readOther_0 41 rfl) (by decide) (fun hc10 => ?_) (fun hc10 => ?_)
      · rw [if_neg hc10] at h
        refine mx_aload_n (mx_d tX12_readOther_0 46 rfl) rfl rfl ?_
        obtain ⟨r11, h_r11, h⟩ := Option.bind_eq_some_iff.mp h
        refine mx_cVv (mx_d tX12_readOther_0 47 rfl) iX12_82 rfl vX12_go ⟨_, rfl, rfl⟩ (ly12_o h0) (CX12_go h0 h_r11) (by decide) rfl rfl (Nat.le_of_ble_eq_true rfl) ?_
        refine mx_iconst (1) (mx_d tX12_readOther_0 48 rfl) (by decide) ?_
        obtain rfl := Option.some.inj h
        exact mx_zreturn (mx_d tX12_readOther_0 49 rfl) rfl rfl ⟨rfl, rfl⟩
      · rw [if_pos hc10] at h
        refine mx_aload_n (mx_d tX12_readOther_0 42 rfl) rfl rfl ?_
        refine mx_iconst (3) (mx_d tX12_readOther_0 43 rfl) (by decide) ?_
        obtain ⟨r12, h_r12, h⟩ := Option.bind_eq_some_iff.mp h
        refine mx_cVi (mx_d tX12_readOther_0 44 rfl) iX12_72 rfl vX12_bad ⟨_, rfl, rfl⟩ (ly12_o h0) (CX12_bad h0 h_r12) (by decide) rfl rfl (Nat.le_of_ble_eq_true rfl) ?_
        obtain ⟨hb13, h⟩ := mx_chkE h
        obtain rfl := Option.some.inj h
        exact mx_zreturn (mx_d tX12_readOther_0 45 rfl) rfl (mx_nb (mx_b01E hb13)) ⟨rfl, rfl⟩
  · rw [if_pos hc2] at h
    refine mx_aload_n (mx_d tX12_readOther_0 3 rfl) rfl rfl ?_
    refine mx_iconst (1) (mx_d tX12_readOther_0 4 rfl) (by decide) ?_
    obtain ⟨r14, h_r14, h⟩ := Option.bind_eq_some_iff.mp h
    refine mx_cVi (mx_d tX12_readOther_0 5 rfl) iX12_72 rfl vX12_bad ⟨_, rfl, rfl⟩ (ly12_o h0) (CX12_bad h0 h_r14) (by decide) rfl rfl (Nat.le_of_ble_eq_true rfl) ?_
    obtain ⟨hb15, h⟩ := mx_chkE h
    obtain rfl := Option.some.inj h
    exact mx_zreturn (mx_d tX12_readOther_0 6 rfl) rfl (mx_nb (mx_b01E hb15)) ⟨rfl, rfl⟩
def FX12_readBookLine_L4 (q0 : Nat) (m : mB) : Nat → Int32 → Int32 → Option (Int32)
  | 0, _, _ => none
  | f + 1, y1, y2 => (if 6 < y2 then (some (y1)) else Option.bind (FX12_isWord q0 (3 + y2) m) (fun r2 => (if r2 = 0 then mx_let (y2 + 1) (fun v4 => (FX12_readBookLine_L4 q0 m f y1 v4)) else mx_let (y2 + 1) (fun v5 => (FX12_readBookLine_L4 q0 m f y2 v5)))))
set_option maxRecDepth 20000 in
theorem CX12_readBookLine_L4 {G : mG} {l : Launch} {e : mE} {Post : Option Value → mS → Prop} {q0 : Nat} {m : mB} (g0 : ly12 e q0) : ∀ (f : Nat) {y1 : Int32} {y2 : Int32} {q : (Int32)}, FX12_readBookLine_L4 q0 m f y1 y2 = some q → (mx_Fr G l MX12_readBookLine 5 0 0 Post 28 [.ref q0, .int q, .float 0, .float 0] [] (e, m)) → mx_Fr G l MX12_readBookLine 5 0 0 Post 4 [.ref q0, .int y1, .int y2, .float 0] [] (e, m) := by
  intro f
  induction f with
  | zero => intro _ _ _ h; cases h
  | succ f ih =>
    intro y1 y2 q h hex
    rw [FX12_readBookLine_L4] at h
    refine mx_iload_n (mx_d tX12_readBookLine_0 4 rfl) rfl rfl ?_
    refine mx_bipush (6) (mx_d tX12_readBookLine_0 5 rfl) (by decide) ?_
    refine mx_icmp_gt (tgt := 28) (mx_d tX12_readBookLine_0 6 rfl) (by decide) (fun hc1 => ?_) (fun hc1 => ?_)
    · rw [if_pos hc1] at h
      obtain rfl := Option.some.inj h
      refine mx_forget (L' := [.ref q0, .int y1, .float 0, .float 0]) ⟨rfl, rfl, trivial⟩ ?_
      exact hex
    · rw [if_neg hc1] at h
      refine mx_aload_n (mx_d tX12_readBookLine_0 7 rfl) rfl rfl ?_
      refine mx_iconst (3) (mx_d tX12_readBookLine_0 8 rfl) (by decide) ?_
      refine mx_iload_n (mx_d tX12_readBookLine_0 9 rfl) rfl rfl ?_
      refine mx_iadd (mx_d tX12_readBookLine_0 10 rfl) ?_
      obtain ⟨r2, h_r2, h⟩ := Option.bind_eq_some_iff.mp h
      refine mx_cVi (mx_d tX12_readBookLine_0 11 rfl) iX12_217 rfl vX12_isWord ⟨_, rfl, rfl⟩ (ly12_o g0) (CX12_isWord g0 h_r2) (by decide) rfl rfl (Nat.le_of_ble_eq_true rfl) ?_
      refine mx_if_eq (tgt := 22) (mx_d tX12_readBookLine_0 12 rfl) (by decide) (fun hc3 => ?_) (fun hc3 => ?_)
      · rw [if_pos hc3] at h
        obtain ⟨v4, e_v4, h⟩ := mx_letE h
        refine mx_iinc v4 (L2 := [.ref q0, .int y1, .int v4, .float 0]) (mx_d tX12_readBookLine_0 15 rfl) rfl (by rw [e_v4]; rfl) (by decide) rfl ?_
        refine mx_goto (tgt := 4) (mx_d tX12_readBookLine_0 16 rfl) (by decide) ?_
        exact ih h hex
      · rw [if_neg hc3] at h
        refine mx_iload_n (mx_d tX12_readBookLine_0 13 rfl) rfl rfl ?_
        refine mx_istore_n (L2 := [.ref q0, .int y2, .int y2, .float 0]) (mx_d tX12_readBookLine_0 14 rfl) rfl (by decide) (by rfl) ?_
        obtain ⟨v5, e_v5, h⟩ := mx_letE h
        refine mx_iinc v5 (L2 := [.ref q0, .int y2, .int v5, .float 0]) (mx_d tX12_readBookLine_0 15 rfl) rfl (by rw [e_v5]; rfl) (by decide) rfl ?_
        refine mx_goto (tgt := 4) (mx_d tX12_readBookLine_0 16 rfl) (by decide) ?_
        exact ih h hex
def FX12_readBookLine (a : Nat) (m : mB) : Option (Int32 × mB) := Option.bind (FX12_readBookLine_L4 a m mx_FU (-1) 0) (fun q6 => (if q6 = (-1) then Option.bind (FX12_bad a 1 m) (fun r80 => mx_chk (mx_b01 r80.1) ((some (r80.1, r80.2)))) else (if (m.1 a 55) = 40 then Option.bind (FX12_bad a 4 m) (fun r78 => mx_chk (mx_b01 r78.1) ((some (r78.1, r78.2)))) else mx_let (4 * (m.1 a 55)) (fun v9 => mx_chk (mx_inb v9 160) (mx_let (mx_up m.1 (a + 24) (Int32.toNatClampNeg v9) q6, m.2) (fun m10 => mx_chk (mx_inb (v9 + 2) 160) (mx_let (mx_up m10.1 (a + 24) (Int32.toNatClampNeg (v9 + 2)) 0, m10.2) (fun m12 => mx_chk (mx_inb (v9 + 3) 160) (mx_let (mx_up m12.1 (a + 24) (Int32.toNatClampNeg (v9 + 3)) 0, m12.2) (fun m14 => Option.bind (FX12_go a m14) (fun r16 => mx_let (Option.bind (FX12_readNumber a 0 5 r16) (fun r19 => Option.bind (FX12_keep a (v9 + 1) r19.1 r19.2) (fun r20 => mx_let (fun (y22 : Int32) (m23 : mB) => mx_let (fun (y26 : Int32) (m27 : mB) => mx_let (fun (y30 : Int32) (m31 : mB) => (if y30 = 0 then (some (0, m31)) else Option.bind (FX12_readEnd a m31) (fun r34 => (if r34.1 = 0 then (some (0, r34.2)) else (some (1, r34.2)))))) (fun k32 => (if y26 = 0 then (k32 y26 m27) else mx_let (Option.bind (FX12_readNumber a 0 400 m27) (fun r38 => Option.bind (FX12_keep a (v9 + 3) r38.1 r38.2) (fun r39 => (k32 r39.1 r39.2)))) (fun k37 => (if q6 = 3 then k37 else (if q6 = 4 then k37 else (k32 y26 m27))))))) (fun k28 => (if y22 = 0 then (k28 y22 m23) else (if q6 = 2 then Option.bind (FX12_readNumber a 1 99 m23) (fun r42 => Option.bind (FX12_keep a (v9 + 3) r42.1 r42.2) (fun r43 => (k28 r43.1 r43.2))) else (k28 y22 m23))))) (fun k24 => (if r20.1 = 0 then (k24 r20.1 r20.2) else mx_let (Option.bind (FX12_readOther a (v9 + 1) r20.2) (fun r46 => (k24 r46.1 r46.2))) (fun k45 => (if q6 = 0 then k45 else (if q6 = 2 then k45 else (k24 r20.1 r20.2))))))))) (fun k18 => (if q6 = 4 then k18 else (if q6 = 5 then k18 else Option.bind (FX12_readPointName a r16) (fun r49 => Option.bind (FX12_keep a (v9 + 1) r49.1 r49.2) (fun r50 => mx_let (fun (y52 : Int32) (m53 : mB) => mx_let (fun (y56 : Int32) (m57 : mB) => mx_let (fun (y60 : Int32) (m61 : mB) => (if y60 = 0 then (some (0, m61)) else Option.bind (FX12_readEnd a m61) (fun r64 => (if r64.1 = 0 then (some (0, r64.2)) else (some (1, r64.2)))))) (fun k62 => (if y56 = 0 then (k62 y56 m57) else mx_let (Option.bind (FX12_readNumber a 0 400 m57) (fun r68 => Option.bind (FX12_keep a (v9 + 3) r68.1 r68.2) (fun r69 => (k62 r69.1 r69.2)))) (fun k67 => (if q6 = 3 then k67 else (if q6 = 4 then k67 else (k62 y56 m57))))))) (fun k58 => (if y52 = 0 then (k58 y52 m53) else (if q6 = 2 then Option.bind (FX12_readNumber a 1 99 m53) (fun r72 => Option.bind (FX12_keep a (v9 + 3) r72.1 r72.2) (fun r73 => (k58 r73.1 r73.2))) else (k58 y52 m53))))) (fun k54 => (if r50.1 = 0 then (k54 r50.1 r50.2) else mx_let (Option.bind (FX12_readOther a (v9 + 1) r50.2) (fun r76 => (k54 r76.1 r76.2))) (fun k75 => (if q6 = 0 then k75 else (if q6 = 2 then k75 else (k54 r50.1 r50.2))))))))))))))))))))))
set_option maxRecDepth 20000 in
theorem CX12_readBookLine {G : mG} {l : Launch} {e : mE} {a : Nat} {m : mB} {r : (Int32 × mB)} (h0 : ly12 e a) (h : FX12_readBookLine a m = some r) : mx_Call G l MX12_readBookLine 5 0 0 [.ref a] (e, m) (fun v z => v = some (.int r.1) ∧ z = (e, r.2)) := by
  refine mx_entry (L := [.ref a, .float 0, .float 0, .float 0]) (by decide +kernel) (Nat.le_of_ble_eq_true rfl) rfl ?_
  unfold FX12_readBookLine at h
  refine mx_iconst ((-1)) (mx_d tX12_readBookLine_0 0 rfl) (by decide) ?_
  refine mx_istore_n (L2 := [.ref a, .int (-1), .float 0, .float 0]) (mx_d tX12_readBookLine_0 1 rfl) rfl (by decide) (by rfl) ?_
  refine mx_iconst (0) (mx_d tX12_readBookLine_0 2 rfl) (by decide) ?_
  refine mx_istore_n (L2 := [.ref a, .int (-1), .int 0, .float 0]) (mx_d tX12_readBookLine_0 3 rfl) rfl (by decide) (by rfl) ?_
  obtain ⟨q6, h_q6, h⟩ := Option.bind_eq_some_iff.mp h
  refine CX12_readBookLine_L4 h0 mx_FU h_q6 ?_
  refine mx_iload_n (mx_d tX12_readBookLine_0 17 rfl) rfl rfl ?_
  refine mx_iconst ((-1)) (mx_d tX12_readBookLine_0 18 rfl) (by decide) ?_
  refine mx_icmp_ne (tgt := 39) (mx_d tX12_readBookLine_0 19 rfl) (by decide) (fun hc7 => ?_) (fun hc7 => ?_)
  · rw [if_neg hc7] at h
    refine mx_aload_n (mx_d tX12_readBookLine_0 24 rfl) rfl rfl ?_
    refine mx_getI (mx_d tX12_readBookLine_0 25 rfl) fX12_458 rfl (Or.inl rfl) (ly12_o h0) ?_
    refine mx_bipush (40) (mx_d tX12_readBookLine_0 26 rfl) (by decide) ?_
    refine mx_icmp_ne (tgt := 54) (mx_d tX12_readBookLine_0 27 rfl) (by decide) (fun hc8 => ?_) (fun hc8 => ?_)
    · rw [if_neg hc8] at h
      refine mx_iconst (4) (mx_d tX12_readBookLine_0 32 rfl) (by decide) ?_
      refine mx_aload_n (mx_d tX12_readBookLine_0 33 rfl) rfl rfl ?_
      refine mx_getI (mx_d tX12_readBookLine_0 34 rfl) fX12_458 rfl (Or.inl rfl) (ly12_o h0) ?_
      refine mx_imul (mx_d tX12_readBookLine_0 35 rfl) ?_
      obtain ⟨v9, e_v9, h⟩ := mx_letE h
      refine mx_istore_n (L2 := [.ref a, .int q6, .int v9, .float 0]) (mx_d tX12_readBookLine_0 36 rfl) rfl (by decide) (by rw [e_v9]; rfl) ?_
      refine mx_aload_n (mx_d tX12_readBookLine_0 37 rfl) rfl rfl ?_
      refine mx_getR (mx_d tX12_readBookLine_0 38 rfl) fX12_172 rfl rfl (ly12_o h0) (ly12_r53 h0) ?_
      refine mx_iload_n (mx_d tX12_readBookLine_0 39 rfl) rfl rfl ?_
      refine mx_iload_n (mx_d tX12_readBookLine_0 40 rfl) rfl rfl ?_
      obtain ⟨hi11, h⟩ := mx_chkE h
      obtain ⟨m10, e_m10, h⟩ := mx_letE h
      refine mx_iastore (mx_d tX12_readBookLine_0 41 rfl) (ly12_s53 h0) (mx_inbE hi11) (mx_eqz (z' := (e, m10)) (by rw [e_m10]) ?_)
      refine mx_aload_n (mx_d tX12_readBookLine_0 42 rfl) rfl rfl ?_
      refine mx_getR (mx_d tX12_readBookLine_0 43 rfl) fX12_172 rfl rfl (ly12_o h0) (ly12_r53 h0) ?_
      refine mx_iload_n (mx_d tX12_readBookLine_0 44 rfl) rfl rfl ?_
      refine mx_iconst (2) (mx_d tX12_readBookLine_0 45 rfl) (by decide) ?_
      refine mx_iadd (mx_d tX12_readBookLine_0 46 rfl) ?_
      refine mx_iconst (0) (mx_d tX12_readBookLine_0 47 rfl) (by decide) ?_
      obtain ⟨hi13, h⟩ := mx_chkE h
      obtain ⟨m12, e_m12, h⟩ := mx_letE h
      refine mx_iastore (mx_d tX12_readBookLine_0 48 rfl) (ly12_s53 h0) (mx_inbE hi13) (mx_eqz (z' := (e, m12)) (by rw [e_m12]) ?_)
      refine mx_aload_n (mx_d tX12_readBookLine_0 49 rfl) rfl rfl ?_
      refine mx_getR (mx_d tX12_readBookLine_0 50 rfl) fX12_172 rfl rfl (ly12_o h0) (ly12_r53 h0) ?_
      refine mx_iload_n (mx_d tX12_readBookLine_0 51 rfl) rfl rfl ?_
      refine mx_iconst (3) (mx_d tX12_readBookLine_0 52 rfl) (by decide) ?_
      refine mx_iadd (mx_d tX12_readBookLine_0 53 rfl) ?_
      refine mx_iconst (0) (mx_d tX12_readBookLine_0 54 rfl) (by decide) ?_
      obtain ⟨hi15, h⟩ := mx_chkE h
      obtain ⟨m14, e_m14, h⟩ := mx_letE h
      refine mx_iastore (mx_d tX12_readBookLine_0 55 rfl) (ly12_s53 h0) (mx_inbE hi15) (mx_eqz (z' := (e, m14)) (by rw [e_m14]) ?_)
      refine mx_aload_n (mx_d tX12_readBookLine_0 56 rfl) rfl rfl ?_
      obtain ⟨r16, h_r16, h⟩ := Option.bind_eq_some_iff.mp h
      refine mx_cVv (mx_d tX12_readBookLine_0 57 rfl) iX12_82 rfl vX12_go ⟨_, rfl, rfl⟩ (ly12_o h0) (CX12_go h0 h_r16) (by decide) rfl rfl (Nat.le_of_ble_eq_true rfl) ?_
      refine mx_aload_n (mx_d tX12_readBookLine_0 58 rfl) rfl rfl ?_
      refine mx_iload_n (mx_d tX12_readBookLine_0 59 rfl) rfl rfl ?_
      refine mx_iconst (1) (mx_d tX12_readBookLine_1 0 rfl) (by decide) ?_
      refine mx_iadd (mx_d tX12_readBookLine_1 1 rfl) ?_
      refine mx_iload_n (mx_d tX12_readBookLine_1 2 rfl) rfl rfl ?_
      refine mx_iconst (4) (mx_d tX12_readBookLine_1 3 rfl) (by decide) ?_
      refine mx_letK (J := fun k18 => k18 = some r → mx_Fr G l MX12_readBookLine 5 0 0 (fun v z => v = some (.int r.1) ∧ z = (e, r.2)) 104 [.ref a, .int q6, .int v9, .float 0] [.int (v9 + 1), .ref a] (e, r16)) h ?_ (fun k18 j_k18 h => ?_)
      · intro h
        refine mx_aload_n (mx_d tX12_readBookLine_1 8 rfl) rfl rfl ?_
        refine mx_iconst (0) (mx_d tX12_readBookLine_1 9 rfl) (by decide) ?_
        refine mx_iconst (5) (mx_d tX12_readBookLine_1 10 rfl) (by decide) ?_
        obtain ⟨r19, h_r19, h⟩ := Option.bind_eq_some_iff.mp h
        refine mx_cVi (mx_d tX12_readBookLine_1 11 rfl) iX12_203 rfl vX12_readNumber ⟨_, rfl, rfl⟩ (ly12_o h0) (CX12_readNumber h0 h_r19) (by decide) rfl rfl (Nat.le_of_ble_eq_true rfl) ?_
        refine mx_goto (tgt := 117) (mx_d tX12_readBookLine_1 12 rfl) (by decide) ?_
        obtain ⟨r20, h_r20, h⟩ := Option.bind_eq_some_iff.mp h
        refine mx_cVi (mx_d tX12_readBookLine_1 15 rfl) iX12_464 rfl vX12_keep ⟨_, rfl, rfl⟩ (ly12_o h0) (CX12_keep h0 h_r20) (by decide) rfl rfl (Nat.le_of_ble_eq_true rfl) ?_
        refine mx_istore_n (L2 := [.ref a, .int q6, .int v9, .int r20.1]) (mx_d tX12_readBookLine_1 16 rfl) rfl (by decide) (by rfl) ?_
        refine mx_iload_n (mx_d tX12_readBookLine_1 17 rfl) rfl rfl ?_
        refine mx_letK (J := fun k24 => ∀ {y22 : Int32} {m23 : mB}, k24 y22 m23 = some r → mx_Fr G l MX12_readBookLine 5 0 0 (fun v z => v = some (.int r.1) ∧ z = (e, r.2)) 142 [.ref a, .int q6, .int v9, .int y22] [] (e, m23)) h ?_ (fun k24 j_k24 h => ?_)
        · intro y22 m23 h
          dsimp only at h
          refine mx_iload_n (mx_d tX12_readBookLine_1 30 rfl) rfl rfl ?_
          refine mx_letK (J := fun k28 => ∀ {y26 : Int32} {m27 : mB}, k28 y26 m27 = some r → mx_Fr G l MX12_readBookLine 5 0 0 (fun v z => v = some (.int r.1) ∧ z = (e, r.2)) 166 [.ref a, .int q6, .int v9, .int y26] [] (e, m27)) h ?_ (fun k28 j_k28 h => ?_)
          · intro y26 m27 h
            dsimp only at h
            refine mx_iload_n (mx_d tX12_readBookLine_1 45 rfl) rfl rfl ?_
            refine mx_letK (J := fun k32 => ∀ {y30 : Int32} {m31 : mB}, k32 y30 m31 = some r → mx_Fr G l MX12_readBookLine 5 0 0 (fun v z => v = some (.int r.1) ∧ z = (e, r.2)) 196 [.ref a, .float 0, .float 0, .int y30] [] (e, m31)) h ?_ (fun k32 j_k32 h => ?_)
            · intro y30 m31 h
              dsimp only at h
              refine mx_iload_n (mx_d tX12_readBookLine_2 3 rfl) rfl rfl ?_
              refine mx_if_eq (tgt := 211) (mx_d tX12_readBookLine_2 4 rfl) (by decide) (fun hc33 => ?_) (fun hc33 => ?_)
              · rw [if_pos hc33] at h
                refine mx_iconst (0) (mx_d tX12_readBookLine_2 10 rfl) (by decide) ?_
                obtain rfl := Option.some.inj h
                exact mx_zreturn (mx_d tX12_readBookLine_2 11 rfl) rfl rfl ⟨rfl, rfl⟩
              · rw [if_neg hc33] at h
                refine mx_aload_n (mx_d tX12_readBookLine_2 5 rfl) rfl rfl ?_
                obtain ⟨r34, h_r34, h⟩ := Option.bind_eq_some_iff.mp h
                refine mx_cVi (mx_d tX12_readBookLine_2 6 rfl) iX12_241 rfl vX12_readEnd ⟨_, rfl, rfl⟩ (ly12_o h0) (CX12_readEnd h0 h_r34) (by decide) rfl rfl (Nat.le_of_ble_eq_true rfl) ?_
                refine mx_if_eq (tgt := 211) (mx_d tX12_readBookLine_2 7 rfl) (by decide) (fun hc35 => ?_) (fun hc35 => ?_)
                · rw [if_pos hc35] at h
                  refine mx_iconst (0) (mx_d tX12_readBookLine_2 10 rfl) (by decide) ?_
                  obtain rfl := Option.some.inj h
                  exact mx_zreturn (mx_d tX12_readBookLine_2 11 rfl) rfl rfl ⟨rfl, rfl⟩
                · rw [if_neg hc35] at h
                  refine mx_iconst (1) (mx_d tX12_readBookLine_2 8 rfl) (by decide) ?_
                  refine mx_goto (tgt := 212) (mx_d tX12_readBookLine_2 9 rfl) (by decide) ?_
                  obtain rfl := Option.some.inj h
                  exact mx_zreturn (mx_d tX12_readBookLine_2 11 rfl) rfl rfl ⟨rfl, rfl⟩
            refine mx_if_eq (tgt := 196) (mx_d tX12_readBookLine_1 46 rfl) (by decide) (fun hc29 => ?_) (fun hc29 => ?_)
            · rw [if_pos hc29] at h
              refine mx_forget (L' := [.ref a, .float 0, .float 0, .int y26]) ⟨rfl, rfl, trivial⟩ ?_
              exact j_k32 h
            · rw [if_neg hc29] at h
              refine mx_iload_n (mx_d tX12_readBookLine_1 47 rfl) rfl rfl ?_
              refine mx_iconst (3) (mx_d tX12_readBookLine_1 48 rfl) (by decide) ?_
              refine mx_letK (J := fun k37 => k37 = some r → mx_Fr G l MX12_readBookLine 5 0 0 (fun v z => v = some (.int r.1) ∧ z = (e, r.2)) 180 [.ref a, .float 0, .int v9, .float 0] [] (e, m27)) h ?_ (fun k37 j_k37 h => ?_)
              · intro h
                refine mx_aload_n (mx_d tX12_readBookLine_1 53 rfl) rfl rfl ?_
                refine mx_iload_n (mx_d tX12_readBookLine_1 54 rfl) rfl rfl ?_
                refine mx_iconst (3) (mx_d tX12_readBookLine_1 55 rfl) (by decide) ?_
                refine mx_iadd (mx_d tX12_readBookLine_1 56 rfl) ?_
                refine mx_aload_n (mx_d tX12_readBookLine_1 57 rfl) rfl rfl ?_
                refine mx_iconst (0) (mx_d tX12_readBookLine_1 58 rfl) (by decide) ?_
                refine mx_sipush (400) (mx_d tX12_readBookLine_1 59 rfl) (by decide) ?_
                obtain ⟨r38, h_r38, h⟩ := Option.bind_eq_some_iff.mp h
                refine mx_cVi (mx_d tX12_readBookLine_2 0 rfl) iX12_203 rfl vX12_readNumber ⟨_, rfl, rfl⟩ (ly12_o h0) (CX12_readNumber h0 h_r38) (by decide) rfl rfl (Nat.le_of_ble_eq_true rfl) ?_
                obtain ⟨r39, h_r39, h⟩ := Option.bind_eq_some_iff.mp h
                refine mx_cVi (mx_d tX12_readBookLine_2 1 rfl) iX12_464 rfl vX12_keep ⟨_, rfl, rfl⟩ (ly12_o h0) (CX12_keep h0 h_r39) (by decide) rfl rfl (Nat.le_of_ble_eq_true rfl) ?_
                refine mx_istore_n (L2 := [.ref a, .float 0, .int v9, .int r39.1]) (mx_d tX12_readBookLine_2 2 rfl) rfl (by decide) (by rfl) ?_
                refine mx_forget (L' := [.ref a, .float 0, .float 0, .int r39.1]) ⟨rfl, rfl, trivial⟩ ?_
                exact j_k32 h
              refine mx_icmp_eq (tgt := 180) (mx_d tX12_readBookLine_1 49 rfl) (by decide) (fun hc36 => ?_) (fun hc36 => ?_)
              · rw [if_pos hc36] at h
                refine mx_forget (L' := [.ref a, .float 0, .int v9, .float 0]) ⟨rfl, rfl, trivial⟩ ?_
                exact j_k37 h
              · rw [if_neg hc36] at h
                refine mx_iload_n (mx_d tX12_readBookLine_1 50 rfl) rfl rfl ?_
                refine mx_iconst (4) (mx_d tX12_readBookLine_1 51 rfl) (by decide) ?_
                refine mx_icmp_ne (tgt := 196) (mx_d tX12_readBookLine_1 52 rfl) (by decide) (fun hc40 => ?_) (fun hc40 => ?_)
                · rw [if_neg hc40] at h
                  refine mx_forget (L' := [.ref a, .float 0, .float 0, .int y26]) ⟨rfl, rfl, trivial⟩ ?_
                  exact j_k32 h
                · rw [if_pos hc40] at h
                  refine mx_forget (L' := [.ref a, .float 0, .int v9, .float 0]) ⟨rfl, rfl, trivial⟩ ?_
                  exact j_k37 h
          refine mx_if_eq (tgt := 166) (mx_d tX12_readBookLine_1 31 rfl) (by decide) (fun hc25 => ?_) (fun hc25 => ?_)
          · rw [if_pos hc25] at h
            exact j_k28 h
          · rw [if_neg hc25] at h
            refine mx_iload_n (mx_d tX12_readBookLine_1 32 rfl) rfl rfl ?_
            refine mx_iconst (2) (mx_d tX12_readBookLine_1 33 rfl) (by decide) ?_
            refine mx_icmp_ne (tgt := 166) (mx_d tX12_readBookLine_1 34 rfl) (by decide) (fun hc41 => ?_) (fun hc41 => ?_)
            · rw [if_neg hc41] at h
              exact j_k28 h
            · rw [if_pos hc41] at h
              refine mx_aload_n (mx_d tX12_readBookLine_1 35 rfl) rfl rfl ?_
              refine mx_iload_n (mx_d tX12_readBookLine_1 36 rfl) rfl rfl ?_
              refine mx_iconst (3) (mx_d tX12_readBookLine_1 37 rfl) (by decide) ?_
              refine mx_iadd (mx_d tX12_readBookLine_1 38 rfl) ?_
              refine mx_aload_n (mx_d tX12_readBookLine_1 39 rfl) rfl rfl ?_
              refine mx_iconst (1) (mx_d tX12_readBookLine_1 40 rfl) (by decide) ?_
              refine mx_bipush (99) (mx_d tX12_readBookLine_1 41 rfl) (by decide) ?_
              obtain ⟨r42, h_r42, h⟩ := Option.bind_eq_some_iff.mp h
              refine mx_cVi (mx_d tX12_readBookLine_1 42 rfl) iX12_203 rfl vX12_readNumber ⟨_, rfl, rfl⟩ (ly12_o h0) (CX12_readNumber h0 h_r42) (by decide) rfl rfl (Nat.le_of_ble_eq_true rfl) ?_
              obtain ⟨r43, h_r43, h⟩ := Option.bind_eq_some_iff.mp h
              refine mx_cVi (mx_d tX12_readBookLine_1 43 rfl) iX12_464 rfl vX12_keep ⟨_, rfl, rfl⟩ (ly12_o h0) (CX12_keep h0 h_r43) (by decide) rfl rfl (Nat.le_of_ble_eq_true rfl) ?_
              refine mx_istore_n (L2 := [.ref a, .int q6, .int v9, .int r43.1]) (mx_d tX12_readBookLine_1 44 rfl) rfl (by decide) (by rfl) ?_
              exact j_k28 h
        refine mx_if_eq (tgt := 142) (mx_d tX12_readBookLine_1 18 rfl) (by decide) (fun hc21 => ?_) (fun hc21 => ?_)
        · rw [if_pos hc21] at h
          exact j_k24 h
        · rw [if_neg hc21] at h
          refine mx_iload_n (mx_d tX12_readBookLine_1 19 rfl) rfl rfl ?_
          refine mx_letK (J := fun k45 => k45 = some r → mx_Fr G l MX12_readBookLine 5 0 0 (fun v z => v = some (.int r.1) ∧ z = (e, r.2)) 134 [.ref a, .int q6, .int v9, .float 0] [] (e, r20.2)) h ?_ (fun k45 j_k45 h => ?_)
          · intro h
            refine mx_aload_n (mx_d tX12_readBookLine_1 24 rfl) rfl rfl ?_
            refine mx_iload_n (mx_d tX12_readBookLine_1 25 rfl) rfl rfl ?_
            refine mx_iconst (1) (mx_d tX12_readBookLine_1 26 rfl) (by decide) ?_
            refine mx_iadd (mx_d tX12_readBookLine_1 27 rfl) ?_
            obtain ⟨r46, h_r46, h⟩ := Option.bind_eq_some_iff.mp h
            refine mx_cVi (mx_d tX12_readBookLine_1 28 rfl) iX12_467 rfl vX12_readOther ⟨_, rfl, rfl⟩ (ly12_o h0) (CX12_readOther h0 h_r46) (by decide) rfl rfl (Nat.le_of_ble_eq_true rfl) ?_
            refine mx_istore_n (L2 := [.ref a, .int q6, .int v9, .int r46.1]) (mx_d tX12_readBookLine_1 29 rfl) rfl (by decide) (by rfl) ?_
            exact j_k24 h
          refine mx_if_eq (tgt := 134) (mx_d tX12_readBookLine_1 20 rfl) (by decide) (fun hc44 => ?_) (fun hc44 => ?_)
          · rw [if_pos hc44] at h
            refine mx_forget (L' := [.ref a, .int q6, .int v9, .float 0]) ⟨rfl, rfl, rfl, trivial⟩ ?_
            exact j_k45 h
          · rw [if_neg hc44] at h
            refine mx_iload_n (mx_d tX12_readBookLine_1 21 rfl) rfl rfl ?_
            refine mx_iconst (2) (mx_d tX12_readBookLine_1 22 rfl) (by decide) ?_
            refine mx_icmp_ne (tgt := 142) (mx_d tX12_readBookLine_1 23 rfl) (by decide) (fun hc47 => ?_) (fun hc47 => ?_)
            · rw [if_neg hc47] at h
              exact j_k24 h
            · rw [if_pos hc47] at h
              refine mx_forget (L' := [.ref a, .int q6, .int v9, .float 0]) ⟨rfl, rfl, rfl, trivial⟩ ?_
              exact j_k45 h
      refine mx_icmp_eq (tgt := 104) (mx_d tX12_readBookLine_1 4 rfl) (by decide) (fun hc17 => ?_) (fun hc17 => ?_)
      · rw [if_pos hc17] at h
        exact j_k18 h
      · rw [if_neg hc17] at h
        refine mx_iload_n (mx_d tX12_readBookLine_1 5 rfl) rfl rfl ?_
        refine mx_iconst (5) (mx_d tX12_readBookLine_1 6 rfl) (by decide) ?_
        refine mx_icmp_ne (tgt := 113) (mx_d tX12_readBookLine_1 7 rfl) (by decide) (fun hc48 => ?_) (fun hc48 => ?_)
        · rw [if_neg hc48] at h
          refine mx_aload_n (mx_d tX12_readBookLine_1 13 rfl) rfl rfl ?_
          obtain ⟨r49, h_r49, h⟩ := Option.bind_eq_some_iff.mp h
          refine mx_cVi (mx_d tX12_readBookLine_1 14 rfl) iX12_461 rfl vX12_readPointName ⟨_, rfl, rfl⟩ (ly12_o h0) (CX12_readPointName h0 h_r49) (by decide) rfl rfl (Nat.le_of_ble_eq_true rfl) ?_
          obtain ⟨r50, h_r50, h⟩ := Option.bind_eq_some_iff.mp h
          refine mx_cVi (mx_d tX12_readBookLine_1 15 rfl) iX12_464 rfl vX12_keep ⟨_, rfl, rfl⟩ (ly12_o h0) (CX12_keep h0 h_r50) (by decide) rfl rfl (Nat.le_of_ble_eq_true rfl) ?_
          refine mx_istore_n (L2 := [.ref a, .int q6, .int v9, .int r50.1]) (mx_d tX12_readBookLine_1 16 rfl) rfl (by decide) (by rfl) ?_
          refine mx_iload_n (mx_d tX12_readBookLine_1 17 rfl) rfl rfl ?_
          refine mx_letK (J := fun k54 => ∀ {y52 : Int32} {m53 : mB}, k54 y52 m53 = some r → mx_Fr G l MX12_readBookLine 5 0 0 (fun v z => v = some (.int r.1) ∧ z = (e, r.2)) 142 [.ref a, .int q6, .int v9, .int y52] [] (e, m53)) h ?_ (fun k54 j_k54 h => ?_)
          · intro y52 m53 h
            dsimp only at h
            refine mx_iload_n (mx_d tX12_readBookLine_1 30 rfl) rfl rfl ?_
            refine mx_letK (J := fun k58 => ∀ {y56 : Int32} {m57 : mB}, k58 y56 m57 = some r → mx_Fr G l MX12_readBookLine 5 0 0 (fun v z => v = some (.int r.1) ∧ z = (e, r.2)) 166 [.ref a, .int q6, .int v9, .int y56] [] (e, m57)) h ?_ (fun k58 j_k58 h => ?_)
            · intro y56 m57 h
              dsimp only at h
              refine mx_iload_n (mx_d tX12_readBookLine_1 45 rfl) rfl rfl ?_
              refine mx_letK (J := fun k62 => ∀ {y60 : Int32} {m61 : mB}, k62 y60 m61 = some r → mx_Fr G l MX12_readBookLine 5 0 0 (fun v z => v = some (.int r.1) ∧ z = (e, r.2)) 196 [.ref a, .float 0, .float 0, .int y60] [] (e, m61)) h ?_ (fun k62 j_k62 h => ?_)
              · intro y60 m61 h
                dsimp only at h
                refine mx_iload_n (mx_d tX12_readBookLine_2 3 rfl) rfl rfl ?_
                refine mx_if_eq (tgt := 211) (mx_d tX12_readBookLine_2 4 rfl) (by decide) (fun hc63 => ?_) (fun hc63 => ?_)
                · rw [if_pos hc63] at h
                  refine mx_iconst (0) (mx_d tX12_readBookLine_2 10 rfl) (by decide) ?_
                  obtain rfl := Option.some.inj h
                  exact mx_zreturn (mx_d tX12_readBookLine_2 11 rfl) rfl rfl ⟨rfl, rfl⟩
                · rw [if_neg hc63] at h
                  refine mx_aload_n (mx_d tX12_readBookLine_2 5 rfl) rfl rfl ?_
                  obtain ⟨r64, h_r64, h⟩ := Option.bind_eq_some_iff.mp h
                  refine mx_cVi (mx_d tX12_readBookLine_2 6 rfl) iX12_241 rfl vX12_readEnd ⟨_, rfl, rfl⟩ (ly12_o h0) (CX12_readEnd h0 h_r64) (by decide) rfl rfl (Nat.le_of_ble_eq_true rfl) ?_
                  refine mx_if_eq (tgt := 211) (mx_d tX12_readBookLine_2 7 rfl) (by decide) (fun hc65 => ?_) (fun hc65 => ?_)
                  · rw [if_pos hc65] at h
                    refine mx_iconst (0) (mx_d tX12_readBookLine_2 10 rfl) (by decide) ?_
                    obtain rfl := Option.some.inj h
                    exact mx_zreturn (mx_d tX12_readBookLine_2 11 rfl) rfl rfl ⟨rfl, rfl⟩
                  · rw [if_neg hc65] at h
                    refine mx_iconst (1) (mx_d tX12_readBookLine_2 8 rfl) (by decide) ?_
                    refine mx_goto (tgt := 212) (mx_d tX12_readBookLine_2 9 rfl) (by decide) ?_
                    obtain rfl := Option.some.inj h
                    exact mx_zreturn (mx_d tX12_readBookLine_2 11 rfl) rfl rfl ⟨rfl, rfl⟩
              refine mx_if_eq (tgt := 196) (mx_d tX12_readBookLine_1 46 rfl) (by decide) (fun hc59 => ?_) (fun hc59 => ?_)
              · rw [if_pos hc59] at h
                refine mx_forget (L' := [.ref a, .float 0, .float 0, .int y56]) ⟨rfl, rfl, trivial⟩ ?_
                exact j_k62 h
              · rw [if_neg hc59] at h
                refine mx_iload_n (mx_d tX12_readBookLine_1 47 rfl) rfl rfl ?_
                refine mx_iconst (3) (mx_d tX12_readBookLine_1 48 rfl) (by decide) ?_
                refine mx_letK (J := fun k67 => k67 = some r → mx_Fr G l MX12_readBookLine 5 0 0 (fun v z => v = some (.int r.1) ∧ z = (e, r.2)) 180 [.ref a, .float 0, .int v9, .float 0] [] (e, m57)) h ?_ (fun k67 j_k67 h => ?_)
                · intro h
                  refine mx_aload_n (mx_d tX12_readBookLine_1 53 rfl) rfl rfl ?_
                  refine mx_iload_n (mx_d tX12_readBookLine_1 54 rfl) rfl rfl ?_
                  refine mx_iconst (3) (mx_d tX12_readBookLine_1 55 rfl) (by decide) ?_
                  refine mx_iadd (mx_d tX12_readBookLine_1 56 rfl) ?_
                  refine mx_aload_n (mx_d tX12_readBookLine_1 57 rfl) rfl rfl ?_
                  refine mx_iconst (0) (mx_d tX12_readBookLine_1 58 rfl) (by decide) ?_
                  refine mx_sipush (400) (mx_d tX12_readBookLine_1 59 rfl) (by decide) ?_
                  obtain ⟨r68, h_r68, h⟩ := Option.bind_eq_some_iff.mp h
                  refine mx_cVi (mx_d tX12_readBookLine_2 0 rfl) iX12_203 rfl vX12_readNumber ⟨_, rfl, rfl⟩ (ly12_o h0) (CX12_readNumber h0 h_r68) (by decide) rfl rfl (Nat.le_of_ble_eq_true rfl) ?_
                  obtain ⟨r69, h_r69, h⟩ := Option.bind_eq_some_iff.mp h
                  refine mx_cVi (mx_d tX12_readBookLine_2 1 rfl) iX12_464 rfl vX12_keep ⟨_, rfl, rfl⟩ (ly12_o h0) (CX12_keep h0 h_r69) (by decide) rfl rfl (Nat.le_of_ble_eq_true rfl) ?_
                  refine mx_istore_n (L2 := [.ref a, .float 0, .int v9, .int r69.1]) (mx_d tX12_readBookLine_2 2 rfl) rfl (by decide) (by rfl) ?_
                  refine mx_forget (L' := [.ref a, .float 0, .float 0, .int r69.1]) ⟨rfl, rfl, trivial⟩ ?_
                  exact j_k62 h
                refine mx_icmp_eq (tgt := 180) (mx_d tX12_readBookLine_1 49 rfl) (by decide) (fun hc66 => ?_) (fun hc66 => ?_)
                · rw [if_pos hc66] at h
                  refine mx_forget (L' := [.ref a, .float 0, .int v9, .float 0]) ⟨rfl, rfl, trivial⟩ ?_
                  exact j_k67 h
                · rw [if_neg hc66] at h
                  refine mx_iload_n (mx_d tX12_readBookLine_1 50 rfl) rfl rfl ?_
                  refine mx_iconst (4) (mx_d tX12_readBookLine_1 51 rfl) (by decide) ?_
                  refine mx_icmp_ne (tgt := 196) (mx_d tX12_readBookLine_1 52 rfl) (by decide) (fun hc70 => ?_) (fun hc70 => ?_)
                  · rw [if_neg hc70] at h
                    refine mx_forget (L' := [.ref a, .float 0, .float 0, .int y56]) ⟨rfl, rfl, trivial⟩ ?_
                    exact j_k62 h
                  · rw [if_pos hc70] at h
                    refine mx_forget (L' := [.ref a, .float 0, .int v9, .float 0]) ⟨rfl, rfl, trivial⟩ ?_
                    exact j_k67 h
            refine mx_if_eq (tgt := 166) (mx_d tX12_readBookLine_1 31 rfl) (by decide) (fun hc55 => ?_) (fun hc55 => ?_)
            · rw [if_pos hc55] at h
              exact j_k58 h
            · rw [if_neg hc55] at h
              refine mx_iload_n (mx_d tX12_readBookLine_1 32 rfl) rfl rfl ?_
              refine mx_iconst (2) (mx_d tX12_readBookLine_1 33 rfl) (by decide) ?_
              refine mx_icmp_ne (tgt := 166) (mx_d tX12_readBookLine_1 34 rfl) (by decide) (fun hc71 => ?_) (fun hc71 => ?_)
              · rw [if_neg hc71] at h
                exact j_k58 h
              · rw [if_pos hc71] at h
                refine mx_aload_n (mx_d tX12_readBookLine_1 35 rfl) rfl rfl ?_
                refine mx_iload_n (mx_d tX12_readBookLine_1 36 rfl) rfl rfl ?_
                refine mx_iconst (3) (mx_d tX12_readBookLine_1 37 rfl) (by decide) ?_
                refine mx_iadd (mx_d tX12_readBookLine_1 38 rfl) ?_
                refine mx_aload_n (mx_d tX12_readBookLine_1 39 rfl) rfl rfl ?_
                refine mx_iconst (1) (mx_d tX12_readBookLine_1 40 rfl) (by decide) ?_
                refine mx_bipush (99) (mx_d tX12_readBookLine_1 41 rfl) (by decide) ?_
                obtain ⟨r72, h_r72, h⟩ := Option.bind_eq_some_iff.mp h
                refine mx_cVi (mx_d tX12_readBookLine_1 42 rfl) iX12_203 rfl vX12_readNumber ⟨_, rfl, rfl⟩ (ly12_o h0) (CX12_readNumber h0 h_r72) (by decide) rfl rfl (Nat.le_of_ble_eq_true rfl) ?_
                obtain ⟨r73, h_r73, h⟩ := Option.bind_eq_some_iff.mp h
                refine mx_cVi (mx_d tX12_readBookLine_1 43 rfl) iX12_464 rfl vX12_keep ⟨_, rfl, rfl⟩ (ly12_o h0) (CX12_keep h0 h_r73) (by decide) rfl rfl (Nat.le_of_ble_eq_true rfl) ?_
                refine mx_istore_n (L2 := [.ref a, .int q6, .int v9, .int r73.1]) (mx_d tX12_readBookLine_1 44 rfl) rfl (by decide) (by rfl) ?_
                exact j_k58 h
          refine mx_if_eq (tgt := 142) (mx_d tX12_readBookLine_1 18 rfl) (by decide) (fun hc51 => ?_) (fun hc51 => ?_)
          · rw [if_pos hc51] at h
            exact j_k54 h
          · rw [if_neg hc51] at h
            refine mx_iload_n (mx_d tX12_readBookLine_1 19 rfl) rfl rfl ?_
            refine mx_letK (J := fun k75 => k75 = some r → mx_Fr G l MX12_readBookLine 5 0 0 (fun v z => v = some (.int r.1) ∧ z = (e, r.2)) 134 [.ref a, .int q6, .int v9, .float 0] [] (e, r50.2)) h ?_ (fun k75 j_k75 h => ?_)
            · intro h
              refine mx_aload_n (mx_d tX12_readBookLine_1 24 rfl) rfl rfl ?_
              refine mx_iload_n (mx_d tX12_readBookLine_1 25 rfl) rfl rfl ?_
              refine mx_iconst (1) (mx_d tX12_readBookLine_1 26 rfl) (by decide) ?_
              refine mx_iadd (mx_d tX12_readBookLine_1 27 rfl) ?_
              obtain ⟨r76, h_r76, h⟩ := Option.bind_eq_some_iff.mp h
              refine mx_cVi (mx_d tX12_readBookLine_1 28 rfl) iX12_467 rfl vX12_readOther ⟨_, rfl, rfl⟩ (ly12_o h0) (CX12_readOther h0 h_r76) (by decide) rfl rfl (Nat.le_of_ble_eq_true rfl) ?_
              refine mx_istore_n (L2 := [.ref a, .int q6, .int v9, .int r76.1]) (mx_d tX12_readBookLine_1 29 rfl) rfl (by decide) (by rfl) ?_
              exact j_k54 h
            refine mx_if_eq (tgt := 134) (mx_d tX12_readBookLine_1 20 rfl) (by decide) (fun hc74 => ?_) (fun hc74 => ?_)
            · rw [if_pos hc74] at h
              refine mx_forget (L' := [.ref a, .int q6, .int v9, .float 0]) ⟨rfl, rfl, rfl, trivial⟩ ?_
              exact j_k75 h
            · rw [if_neg hc74] at h
              refine mx_iload_n (mx_d tX12_readBookLine_1 21 rfl) rfl rfl ?_
              refine mx_iconst (2) (mx_d tX12_readBookLine_1 22 rfl) (by decide) ?_
              refine mx_icmp_ne (tgt := 142) (mx_d tX12_readBookLine_1 23 rfl) (by decide) (fun hc77 => ?_) (fun hc77 => ?_)
              · rw [if_neg hc77] at h
                exact j_k54 h
              · rw [if_pos hc77] at h
                refine mx_forget (L' := [.ref a, .int q6, .int v9, .float 0]) ⟨rfl, rfl, rfl, trivial⟩ ?_
                exact j_k75 h
        · rw [if_pos hc48] at h
          exact j_k18 h
    · rw [if_pos hc8] at h
      refine mx_aload_n (mx_d tX12_readBookLine_0 28 rfl) rfl rfl ?_
      refine mx_iconst (4) (mx_d tX12_readBookLine_0 29 rfl) (by decide) ?_
      obtain ⟨r78, h_r78, h⟩ := Option.bind_eq_some_iff.mp h
      refine mx_cVi (mx_d tX12_readBookLine_0 30 rfl) iX12_72 rfl vX12_bad ⟨_, rfl, rfl⟩ (ly12_o h0) (CX12_bad h0 h_r78) (by decide) rfl rfl (Nat.le_of_ble_eq_true rfl) ?_
      obtain ⟨hb79, h⟩ := mx_chkE h
      obtain rfl := Option.some.inj h
      exact mx_zreturn (mx_d tX12_readBookLine_0 31 rfl) rfl (mx_nb (mx_b01E hb79)) ⟨rfl, rfl⟩
  · rw [if_pos hc7] at h
    refine mx_aload_n (mx_d tX12_readBookLine_0 20 rfl) rfl rfl ?_
    refine mx_iconst (1) (mx_d tX12_readBookLine_0 21 rfl) (by decide) ?_
    obtain ⟨r80, h_r80, h⟩ := Option.bind_eq_some_iff.mp h
    refine mx_cVi (mx_d tX12_readBookLine_0 22 rfl) iX12_72 rfl vX12_bad ⟨_, rfl, rfl⟩ (ly12_o h0) (CX12_bad h0 h_r80) (by decide) rfl rfl (Nat.le_of_ble_eq_true rfl) ?_
    obtain ⟨hb81, h⟩ := mx_chkE h
    obtain rfl := Option.some.inj h
    exact mx_zreturn (mx_d tX12_readBookLine_0 23 rfl) rfl (mx_nb (mx_b01E hb81)) ⟨rfl, rfl⟩
def FX12_goBy (a : Nat) (x0 : Int32) (m : mB) : Option (Int32 × mB) := mx_chk (mx_inb x0 160) (mx_let (m.1 (a + 24) (Int32.toNatClampNeg x0)) (fun v2 => mx_let (mx_chk (mx_inb (x0 + 1) 160) (mx_chk (mx_inb (x0 + 2) 160) (mx_chk (mx_inb (x0 + 3) 160) (Option.bind (FX12_refusal a v2 (m.1 (a + 24) (Int32.toNatClampNeg (x0 + 1))) (m.1 (a + 24) (Int32.toNatClampNeg (x0 + 2))) (m.1 (a + 24) (Int32.toNatClampNeg (x0 + 3))) m) (fun r8 => (if r8.1 = 0 then Option.bind (FX12_live a v2 (r8.2.1 (a + 24) (Int32.toNatClampNeg (x0 + 1))) (r8.2.1 (a + 24) (Int32.toNatClampNeg (x0 + 2))) (r8.2.1 (a + 24) (Int32.toNatClampNeg (x0 + 3))) r8.2) (fun r10 => (some (0, r10))) else (some (((10 * v2) + r8.1), r8.2)))))))) (fun k4 => mx_let (mx_chk (mx_inb (x0 + 1) 160) (Option.bind (FX12_isOdd a (m.1 (a + 24) (Int32.toNatClampNeg (x0 + 1))) m) (fun r13 => (if r13 = 0 then (some (((10 * v2) + 9), m)) else k4)))) (fun k11 => (if v2 = 4 then k11 else (if v2 = 5 then k11 else k4))))))
set_option maxRecDepth 20000 in
theorem CX12_goBy {G : mG} {l : Launch} {e : mE} {a : Nat} {x0 : Int32} {m : mB} {r : (Int32 × mB)} (h0 : ly12 e a) (h : FX12_goBy a x0 m = some r) : mx_Call G l MX12_goBy 259 0 0 [.ref a, .int x0] (e, m) (fun v z => v = some (.int r.1) ∧ z = (e, r.2)) := by
  refine mx_entry (L := [.ref a, .int x0, .float 0, .float 0]) (by decide +kernel) (Nat.le_of_ble_eq_true rfl) rfl ?_
  unfold FX12_goBy at h
  refine mx_aload_n (mx_d tX12_goBy_0 0 rfl) rfl rfl ?_
  refine mx_getR (mx_d tX12_goBy_0 1 rfl) fX12_172 rfl rfl (ly12_o h0) (ly12_r53 h0) ?_
  refine mx_iload_n (mx_d tX12_goBy_0 2 rfl) rfl rfl ?_
  obtain ⟨hi1, h⟩ := mx_chkE h
  refine mx_iaload (mx_d tX12_goBy_0 3 rfl) (ly12_s53 h0) (mx_inbE hi1) ?_
  obtain ⟨v2, e_v2, h⟩ := mx_letE h
  refine mx_istore_n (L2 := [.ref a, .int x0, .int v2, .float 0]) (mx_d tX12_goBy_0 4 rfl) rfl (by decide) (by rw [e_v2]; rfl) ?_
  refine mx_iload_n (mx_d tX12_goBy_0 5 rfl) rfl rfl ?_
  refine mx_iconst (4) (mx_d tX12_goBy_0 6 rfl) (by decide) ?_
  refine mx_letK (J := fun k4 => k4 = some r → mx_Fr G l MX12_goBy 259 0 0 (fun v z => v = some (.int r.1) ∧ z = (e, r.2)) 40 [.ref a, .int x0, .int v2, .float 0] [] (e, m)) h ?_ (fun k4 j_k4 h => ?_)
  · intro h
    refine mx_aload_n (mx_d tX12_goBy_0 26 rfl) rfl rfl ?_
    refine mx_iload_n (mx_d tX12_goBy_0 27 rfl) rfl rfl ?_
    refine mx_aload_n (mx_d tX12_goBy_0 28 rfl) rfl rfl ?_
    refine mx_getR (mx_d tX12_goBy_0 29 rfl) fX12_172 rfl rfl (ly12_o h0) (ly12_r53 h0) ?_
    refine mx_iload_n (mx_d tX12_goBy_0 30 rfl) rfl rfl ?_
    refine mx_iconst (1) (mx_d tX12_goBy_0 31 rfl) (by decide) ?_
    refine mx_iadd (mx_d tX12_goBy_0 32 rfl) ?_
    obtain ⟨hi5, h⟩ := mx_chkE h
    refine mx_iaload (mx_d tX12_goBy_0 33 rfl) (ly12_s53 h0) (mx_inbE hi5) ?_
    refine mx_aload_n (mx_d tX12_goBy_0 34 rfl) rfl rfl ?_
    refine mx_getR (mx_d tX12_goBy_0 35 rfl) fX12_172 rfl rfl (ly12_o h0) (ly12_r53 h0) ?_
    refine mx_iload_n (mx_d tX12_goBy_0 36 rfl) rfl rfl ?_
    refine mx_iconst (2) (mx_d tX12_goBy_0 37 rfl) (by decide) ?_
    refine mx_iadd (mx_d tX12_goBy_0 38 rfl) ?_
    obtain ⟨hi6, h⟩ := mx_chkE h
    refine mx_iaload (mx_d tX12_goBy_0 39 rfl) (ly12_s53 h0) (mx_inbE hi6) ?_
    refine mx_aload_n (mx_d tX12_goBy_0 40 rfl) rfl rfl ?_
    refine mx_getR (mx_d tX12_goBy_0 41 rfl) fX12_172 rfl rfl (ly12_o h0) (ly12_r53 h0) ?_
    refine mx_iload_n (mx_d tX12_goBy_0 42 rfl) rfl rfl ?_
    refine mx_iconst (3) (mx_d tX12_goBy_0 43 rfl) (by decide) ?_
    refine mx_iadd (mx_d tX12_goBy_0 44 rfl) ?_
    obtain ⟨hi7, h⟩ := mx_chkE h
    refine mx_iaload (mx_d tX12_goBy_0 45 rfl) (ly12_s53 h0) (mx_inbE hi7) ?_
    obtain ⟨r8, h_r8, h⟩ := Option.bind_eq_some_iff.mp h
    refine mx_cVi (mx_d tX12_goBy_0 46 rfl) iX12_328 rfl vX12_refusal ⟨_, rfl, rfl⟩ (ly12_o h0) (CX12_refusal h0 h_r8) (by decide) rfl rfl (Nat.le_of_ble_eq_true rfl) ?_
    refine mx_istore_n (L2 := [.ref a, .int x0, .int v2, .int r8.1]) (mx_d tX12_goBy_0 47 rfl) rfl (by decide) (by rfl) ?_
    refine mx_iload_n (mx_d tX12_goBy_0 48 rfl) rfl rfl ?_
    refine mx_if_eq (tgt := 81) (mx_d tX12_goBy_0 49 rfl) (by decide) (fun hc9 => ?_) (fun hc9 => ?_)
    · rw [if_pos hc9] at h
      refine mx_aload_n (mx_d tX12_goBy_0 56 rfl) rfl rfl ?_
      refine mx_iload_n (mx_d tX12_goBy_0 57 rfl) rfl rfl ?_
      refine mx_aload_n (mx_d tX12_goBy_0 58 rfl) rfl rfl ?_
      refine mx_getR (mx_d tX12_goBy_0 59 rfl) fX12_172 rfl rfl (ly12_o h0) (ly12_r53 h0) ?_
      refine mx_iload_n (mx_d tX12_goBy_1 0 rfl) rfl rfl ?_
      refine mx_iconst (1) (mx_d tX12_goBy_1 1 rfl) (by decide) ?_
      refine mx_iadd (mx_d tX12_goBy_1 2 rfl) ?_
      refine mx_iaload (mx_d tX12_goBy_1 3 rfl) (ly12_s53 h0) (mx_inbE hi5) ?_
      refine mx_aload_n (mx_d tX12_goBy_1 4 rfl) rfl rfl ?_
      refine mx_getR (mx_d tX12_goBy_1 5 rfl) fX12_172 rfl rfl (ly12_o h0) (ly12_r53 h0) ?_
      refine mx_iload_n (mx_d tX12_goBy_1 6 rfl) rfl rfl ?_
      refine mx_iconst (2) (mx_d tX12_goBy_1 7 rfl) (by decide) ?_
      refine mx_iadd (mx_d tX12_goBy_1 8 rfl) ?_
      refine mx_iaload (mx_d tX12_goBy_1 9 rfl) (ly12_s53 h0) (mx_inbE hi6) ?_
      refine mx_aload_n (mx_d tX12_goBy_1 10 rfl) rfl rfl ?_
      refine mx_getR (mx_d tX12_goBy_1 11 rfl) fX12_172 rfl rfl (ly12_o h0) (ly12_r53 h0) ?_
      refine mx_iload_n (mx_d tX12_goBy_1 12 rfl) rfl rfl ?_
      refine mx_iconst (3) (mx_d tX12_goBy_1 13 rfl) (by decide) ?_
      refine mx_iadd (mx_d tX12_goBy_1 14 rfl) ?_
      refine mx_iaload (mx_d tX12_goBy_1 15 rfl) (ly12_s53 h0) (mx_inbE hi7) ?_
      obtain ⟨r10, h_r10, h⟩ := Option.bind_eq_some_iff.mp h
      refine mx_cVv (mx_d tX12_goBy_1 16 rfl) iX12_335 rfl vX12_live ⟨_, rfl, rfl⟩ (ly12_o h0) (CX12_live h0 h_r10) (by decide) rfl rfl (Nat.le_of_ble_eq_true rfl) ?_
      refine mx_iconst (0) (mx_d tX12_goBy_1 17 rfl) (by decide) ?_
      obtain rfl := Option.some.inj h
      exact mx_ireturn (mx_d tX12_goBy_1 18 rfl) rfl ⟨rfl, rfl⟩
    · rw [if_neg hc9] at h
      refine mx_bipush (10) (mx_d tX12_goBy_0 50 rfl) (by decide) ?_
      refine mx_iload_n (mx_d tX12_goBy_0 51 rfl) rfl rfl ?_
      refine mx_imul (mx_d tX12_goBy_0 52 rfl) ?_
      refine mx_iload_n (mx_d tX12_goBy_0 53 rfl) rfl rfl ?_
      refine mx_iadd (mx_d tX12_goBy_0 54 rfl) ?_
      obtain rfl := Option.some.inj h
      exact mx_ireturn (mx_d tX12_goBy_0 55 rfl) rfl ⟨rfl, rfl⟩
  refine mx_letK (J := fun k11 => k11 = some r → mx_Fr G l MX12_goBy 259 0 0 (fun v z => v = some (.int r.1) ∧ z = (e, r.2)) 17 [.ref a, .int x0, .int v2, .float 0] [] (e, m)) h ?_ (fun k11 j_k11 h => ?_)
  · intro h
    refine mx_aload_n (mx_d tX12_goBy_0 11 rfl) rfl rfl ?_
    refine mx_aload_n (mx_d tX12_goBy_0 12 rfl) rfl rfl ?_
    refine mx_getR (mx_d tX12_goBy_0 13 rfl) fX12_172 rfl rfl (ly12_o h0) (ly12_r53 h0) ?_
    refine mx_iload_n (mx_d tX12_goBy_0 14 rfl) rfl rfl ?_
    refine mx_iconst (1) (mx_d tX12_goBy_0 15 rfl) (by decide) ?_
    refine mx_iadd (mx_d tX12_goBy_0 16 rfl) ?_
    obtain ⟨hi12, h⟩ := mx_chkE h
    refine mx_iaload (mx_d tX12_goBy_0 17 rfl) (ly12_s53 h0) (mx_inbE hi12) ?_
    obtain ⟨r13, h_r13, h⟩ := Option.bind_eq_some_iff.mp h
    refine mx_cVi (mx_d tX12_goBy_0 18 rfl) iX12_285 rfl vX12_isOdd ⟨_, rfl, rfl⟩ (ly12_o h0) (CX12_isOdd h0 h_r13) (by decide) rfl rfl (Nat.le_of_ble_eq_true rfl) ?_
    refine mx_if_ne (tgt := 40) (mx_d tX12_goBy_0 19 rfl) (by decide) (fun hc14 => ?_) (fun hc14 => ?_)
    · rw [if_neg hc14] at h
      exact j_k4 h
    · rw [if_pos hc14] at h
      refine mx_bipush (10) (mx_d tX12_goBy_0 20 rfl) (by decide) ?_
      refine mx_iload_n (mx_d tX12_goBy_0 21 rfl) rfl rfl ?_
      refine mx_imul (mx_d tX12_goBy_0 22 rfl) ?_
      refine mx_bipush (9) (mx_d tX12_goBy_0 23 rfl) (by decide) ?_
      refine mx_iadd (mx_d tX12_goBy_0 24 rfl) ?_
      obtain rfl := Option.some.inj h
      exact mx_ireturn (mx_d tX12_goBy_0 25 rfl) rfl ⟨rfl, rfl⟩
  refine mx_icmp_eq (tgt := 17) (mx_d tX12_goBy_0 7 rfl) (by decide) (fun hc3 => ?_) (fun hc3 => ?_)
  · rw [if_pos hc3] at h
    exact j_k11 h
  · rw [if_neg hc3] at h
    refine mx_iload_n (mx_d tX12_goBy_0 8 rfl) rfl rfl ?_
    refine mx_iconst (5) (mx_d tX12_goBy_0 9 rfl) (by decide) ?_
    refine mx_icmp_ne (tgt := 40) (mx_d tX12_goBy_0 10 rfl) (by decide) (fun hc15 => ?_) (fun hc15 => ?_)
    · rw [if_neg hc15] at h
      exact j_k4 h
    · rw [if_pos hc15] at h
      exact j_k11 h
def FX12_book_L30 (q0 : Nat) (y1 : Int32) : Nat → mB → Option ((Int32 × mB) ⊕ (mB))
  | 0, _ => none
  | f + 1, m => (if (m.1 q0 7) = 0 then (some (.inr m)) else Option.bind (FX12_readBookLine q0 m) (fun r7 => (if r7.1 = 0 then (some (.inl (((-2) - (r7.2.1 q0 11)), r7.2))) else mx_let (mx_up r7.2.1 q0 55 ((r7.2.1 q0 55) + 1), r7.2.2) (fun m9 => (FX12_book_L30 q0 y1 f  m9)))))
set_option maxRecDepth 20000 in
theorem CX12_book_L30 {G : mG} {l : Launch} {e : mE} {Post : Option Value → mS → Prop} {q0 : Nat} {y1 : Int32} (g0 : ly12 e q0) : ∀ (f : Nat)  {m : mB} {q : ((Int32 × mB) ⊕ (mB))}, FX12_book_L30 q0 y1 f m = some q → (∀ rr, q = .inl rr → Post (some (.int rr.1)) (e, rr.2)) → (∀ u, q = .inr u → mx_Fr G l MX12_book 260 0 0 Post 65 [.ref q0, .int y1, .float 0, .float 0] [] (e, u)) → mx_Fr G l MX12_book 260 0 0 Post 30 [.ref q0, .int y1, .float 0, .float 0] [] (e, m) := by
  intro f
  induction f with
  | zero => intro _ _ h; cases h
  | succ f ih =>
    intro m q h hret hex
    rw [FX12_book_L30] at h
    refine mx_aload_n (mx_d tX12_book_0 16 rfl) rfl rfl ?_
    refine mx_getI (mx_d tX12_book_0 17 rfl) fX12_30 rfl (Or.inl rfl) (ly12_o g0) ?_
    refine mx_if_eq (tgt := 65) (mx_d tX12_book_0 18 rfl) (by decide) (fun hc6 => ?_) (fun hc6 => ?_)
    · rw [if_pos hc6] at h
      obtain rfl := Option.some.inj h
      exact (hex _ rfl)
    · rw [if_neg hc6] at h
      refine mx_aload_n (mx_d tX12_book_0 19 rfl) rfl rfl ?_
      obtain ⟨r7, h_r7, h⟩ := Option.bind_eq_some_iff.mp h
      refine mx_cVi (mx_d tX12_book_0 20 rfl) iX12_470 rfl vX12_readBookLine ⟨_, rfl, rfl⟩ (ly12_o g0) (CX12_readBookLine g0 h_r7) (by decide) rfl rfl (Nat.le_of_ble_eq_true rfl) ?_
      refine mx_if_ne (tgt := 52) (mx_d tX12_book_0 21 rfl) (by decide) (fun hc8 => ?_) (fun hc8 => ?_)
      · rw [if_neg hc8] at h
        refine mx_aload_n (mx_d tX12_book_0 27 rfl) rfl rfl ?_
        refine mx_dup (mx_d tX12_book_0 28 rfl) rfl ?_
        refine mx_getI (mx_d tX12_book_0 29 rfl) fX12_458 rfl (Or.inl rfl) (ly12_o g0) ?_
        refine mx_iconst (1) (mx_d tX12_book_0 30 rfl) (by decide) ?_
        refine mx_iadd (mx_d tX12_book_0 31 rfl) ?_
        obtain ⟨m9, e_m9, h⟩ := mx_letE h
        refine mx_putI (mx_d tX12_book_0 32 rfl) fX12_458 rfl ⟨_, rfl, rfl⟩ rfl (ly12_o g0) (mx_eqz (z' := (e, m9)) (by rw [e_m9]) ?_)
        refine mx_goto (tgt := 30) (mx_d tX12_book_0 33 rfl) (by decide) ?_
        exact ih h hret hex
      · rw [if_pos hc8] at h
        refine mx_bipush ((-2)) (mx_d tX12_book_0 22 rfl) (by decide) ?_
        refine mx_aload_n (mx_d tX12_book_0 23 rfl) rfl rfl ?_
        refine mx_getI (mx_d tX12_book_0 24 rfl) fX12_69 rfl (Or.inl rfl) (ly12_o g0) ?_
        refine mx_isub (mx_d tX12_book_0 25 rfl) ?_
        obtain rfl := Option.some.inj h
        exact mx_ireturn (mx_d tX12_book_0 26 rfl) rfl (hret (((-2) - (r7.2.1 q0 11)), r7.2) rfl)
def FX12_book_L78 (q0 : Nat) (y1 : Int32) : Nat → Int32 → Int32 → mB → Option (Int32 × Int32 × mB)
  | 0, _, _, _ => none
  | f + 1, y2, y3, m => (if (m.1 q0 55) ≤ y2 then (some ((y2, y3, m))) else (if y3 = 0 then Option.bind (FX12_goBy q0 (4 * y2) m) (fun r16 => (if r16.1 = 0 then mx_let (y2 + 1) (fun v18 => (FX12_book_L78 q0 y1 f v18 r16.1 r16.2)) else (FX12_book_L78 q0 y1 f y2 r16.1 r16.2))) else (some ((y2, y3, m)))))
set_option maxRecDepth 20000 in
theorem CX12_book_L78 {G : mG} {l : Launch} {e : mE} {Post : Option Value → mS → Prop} {q0 : Nat} {y1 : Int32} (g0 : ly12 e q0) : ∀ (f : Nat) {y2 : Int32} {y3 : Int32} {m : mB} {q : (Int32 × Int32 × mB)}, FX12_book_L78 q0 y1 f y2 y3 m = some q → (mx_Fr G l MX12_book 260 0 0 Post 108 [.ref q0, .int y1, .int q.1, .int q.2.1] [] (e, q.2.2)) → mx_Fr G l MX12_book 260 0 0 Post 78 [.ref q0, .int y1, .int y2, .int y3] [] (e, m) := by
  intro f
  induction f with
  | zero => intro _ _ _ _ h; cases h
  | succ f ih =>
    intro y2 y3 m q h hex
    rw [FX12_book_L78] at h
    refine mx_iload_n (mx_d tX12_book_0 43 rfl) rfl rfl ?_
    refine mx_aload_n (mx_d tX12_book_0 44 rfl) rfl rfl ?_
    refine mx_getI (mx_d tX12_book_0 45 rfl) fX12_458 rfl (Or.inl rfl) (ly12_o g0) ?_
    refine mx_icmp_ge (tgt := 108) (mx_d tX12_book_0 46 rfl) (by decide) (fun hc14 => ?_) (fun hc14 => ?_)
    · rw [if_pos hc14] at h
      obtain rfl := Option.some.inj h
      exact hex
    · rw [if_neg hc14] at h
      refine mx_iload_n (mx_d tX12_book_0 47 rfl) rfl rfl ?_
      refine mx_if_ne (tgt := 108) (mx_d tX12_book_0 48 rfl) (by decide) (fun hc15 => ?_) (fun hc15 => ?_)
      · rw [if_neg hc15] at h
        obtain rfl := Option.some.inj h
        exact hex
      · rw [if_pos hc15] at h
        refine mx_aload_n (mx_d tX12_book_0 49 rfl) rfl rfl ?_
        refine mx_iconst (4) (mx_d tX12_book_0 50 rfl) (by decide) ?_
        refine mx_iload_n (mx_d tX12_book_0 51 rfl) rfl rfl ?_
        refine mx_imul (mx_d tX12_book_0 52 rfl) ?_
        obtain ⟨r16, h_r16, h⟩ := Option.bind_eq_some_iff.mp h
        refine mx_cVi (mx_d tX12_book_0 53 rfl) iX12_473 rfl vX12_goBy ⟨_, rfl, rfl⟩ (ly12_o g0) (CX12_goBy g0 h_r16) (by decide) rfl rfl (Nat.le_of_ble_eq_true rfl) ?_
        refine mx_istore_n (L2 := [.ref q0, .int y1, .int y2, .int r16.1]) (mx_d tX12_book_0 54 rfl) rfl (by decide) (by rfl) ?_
        refine mx_iload_n (mx_d tX12_book_0 55 rfl) rfl rfl ?_
        refine mx_if_ne (tgt := 78) (mx_d tX12_book_0 56 rfl) (by decide) (fun hc17 => ?_) (fun hc17 => ?_)
        · rw [if_neg hc17] at h
          exact ih h hex
        · rw [if_pos hc17] at h
          obtain ⟨v18, e_v18, h⟩ := mx_letE h
          refine mx_iinc v18 (L2 := [.ref q0, .int y1, .int v18, .int r16.1]) (mx_d tX12_book_0 57 rfl) rfl (by rw [e_v18]; rfl) (by decide) rfl ?_
          refine mx_goto (tgt := 78) (mx_d tX12_book_0 58 rfl) (by decide) ?_
          exact ih h hex
def FX12_book (a : Nat) (x0 : Int32) (m : mB) : Option (Int32 × mB) := mx_let (mx_up m.1 a 0 0, m.2) (fun m1 => Option.bind (FX12_isIn x0 0 1 m1) (fun r2 => (if r2 = 0 then (some ((-1000), m1)) else Option.bind (FX12_begin a 400 m1) (fun r4 => mx_let (mx_up r4.1 a 55 0, r4.2) (fun m5 => Option.bind (FX12_book_L30 a x0 mx_FU  m5) (fun q10 => Sum.elim (fun rr => some rr) (fun u11 => Option.bind (FX12_save a (a + 7) 65 0 u11) (fun r13 => Option.bind (FX12_book_L78 a x0 mx_FU 0 0 r13) (fun q19 => mx_let (mx_up q19.2.2.1 (a + 25) 0 q19.2.1, q19.2.2.2) (fun m20 => mx_let (mx_up m20.1 (a + 25) 1 q19.1, m20.2) (fun m21 => Option.bind (FX12_totalNow a m21) (fun r22 => mx_let (mx_up m21.1 (a + 25) 2 r22, m21.2) (fun m23 => Option.bind (FX12_boundNow a m23) (fun r24 => mx_let (mx_up m23.1 (a + 25) 3 r24, m23.2) (fun m25 => mx_let (mx_up m25.1 a 56 1, m25.2) (fun m26 => mx_let (Option.bind (FX12_stay a 0 m26) (fun r29 => (if q19.2.1 = 0 then (some ((-1), r29)) else (some (q19.1, r29))))) (fun k28 => (if x0 = 1 then (if q19.1 ≤ 0 then k28 else Option.bind (FX12_stay a 1 m26) (fun r32 => (if q19.2.1 = 0 then (some ((-1), r32)) else (some (q19.1, r32))))) else k28)))))))))))) q10))))))
set_option maxRecDepth 20000 in
theorem CX12_book {G : mG} {l : Launch} {e : mE} {a : Nat} {x0 : Int32} {m : mB} {r : (Int32 × mB)} (h0 : ly12 e a) (h : FX12_book a x0 m = some r) : mx_Call G l MX12_book 260 0 0 [.ref a, .int x0] (e, m) (fun v z => v = some (.int r.1) ∧ z = (e, r.2)) := by
  refine mx_entry (L := [.ref a, .int x0, .float 0, .float 0]) (by decide +kernel) (Nat.le_of_ble_eq_true rfl) rfl ?_
  unfold FX12_book at h
  refine mx_aload_n (mx_d tX12_book_0 0 rfl) rfl rfl ?_
  refine mx_iconst (0) (mx_d tX12_book_0 1 rfl) (by decide) ?_
  obtain ⟨m1, e_m1, h⟩ := mx_letE h
  refine mx_putI (mx_d tX12_book_0 2 rfl) fX12_1 rfl ⟨_, rfl, rfl⟩ rfl (ly12_o h0) (mx_eqz (z' := (e, m1)) (by rw [e_m1]) ?_)
  refine mx_iload_n (mx_d tX12_book_0 3 rfl) rfl rfl ?_
  refine mx_iconst (0) (mx_d tX12_book_0 4 rfl) (by decide) ?_
  refine mx_iconst (1) (mx_d tX12_book_0 5 rfl) (by decide) ?_
  obtain ⟨r2, h_r2, h⟩ := Option.bind_eq_some_iff.mp h
  refine mx_cSi (mx_d tX12_book_0 6 rfl) iX12_75 rfl sX12_isIn (CX12_isIn  h_r2) (by decide) rfl rfl (Nat.le_of_ble_eq_true rfl) ?_
  refine mx_if_ne (tgt := 18) (mx_d tX12_book_0 7 rfl) (by decide) (fun hc3 => ?_) (fun hc3 => ?_)
  · rw [if_neg hc3] at h
    refine mx_aload_n (mx_d tX12_book_0 10 rfl) rfl rfl ?_
    refine mx_sipush (400) (mx_d tX12_book_0 11 rfl) (by decide) ?_
    obtain ⟨r4, h_r4, h⟩ := Option.bind_eq_some_iff.mp h
    refine mx_cVv (mx_d tX12_book_0 12 rfl) iX12_235 rfl vX12_begin ⟨_, rfl, rfl⟩ (ly12_o h0) (CX12_begin h0 h_r4) (by decide) rfl rfl (Nat.le_of_ble_eq_true rfl) ?_
    refine mx_aload_n (mx_d tX12_book_0 13 rfl) rfl rfl ?_
    refine mx_iconst (0) (mx_d tX12_book_0 14 rfl) (by decide) ?_
    obtain ⟨m5, e_m5, h⟩ := mx_letE h
    refine mx_putI (mx_d tX12_book_0 15 rfl) fX12_458 rfl ⟨_, rfl, rfl⟩ rfl (ly12_o h0) (mx_eqz (z' := (e, m5)) (by rw [e_m5]) ?_)
    obtain ⟨q10, h_q10, h⟩ := Option.bind_eq_some_iff.mp h
    refine CX12_book_L30 h0 mx_FU h_q10 (fun rr12 e_rr12 => ?_) (fun u11 e_u11 => ?_)
    · subst e_rr12
      rw [Sum.elim_inl] at h
      obtain rfl := Option.some.inj h
      exact ⟨rfl, rfl⟩
    · subst e_u11
      rw [Sum.elim_inr] at h
      refine mx_aload_n (mx_d tX12_book_0 34 rfl) rfl rfl ?_
      refine mx_aload_n (mx_d tX12_book_0 35 rfl) rfl rfl ?_
      refine mx_getR (mx_d tX12_book_0 36 rfl) fX12_113 rfl rfl (ly12_o h0) (ly12_r19 h0) ?_
      refine mx_iconst (0) (mx_d tX12_book_0 37 rfl) (by decide) ?_
      obtain ⟨r13, h_r13, h⟩ := Option.bind_eq_some_iff.mp h
      refine mx_cVv (mx_d tX12_book_0 38 rfl) iX12_318 rfl vX12_save ⟨_, rfl, rfl⟩ (ly12_o h0) (CX12_save h0 (ly12_s19 h0) h_r13) (by decide) rfl rfl (Nat.le_of_ble_eq_true rfl) ?_
      refine mx_iconst (0) (mx_d tX12_book_0 39 rfl) (by decide) ?_
      refine mx_istore_n (L2 := [.ref a, .int x0, .int 0, .float 0]) (mx_d tX12_book_0 40 rfl) rfl (by decide) (by rfl) ?_
      refine mx_iconst (0) (mx_d tX12_book_0 41 rfl) (by decide) ?_
      refine mx_istore_n (L2 := [.ref a, .int x0, .int 0, .int 0]) (mx_d tX12_book_0 42 rfl) rfl (by decide) (by rfl) ?_
      obtain ⟨q19, h_q19, h⟩ := Option.bind_eq_some_iff.mp h
      refine CX12_book_L78 h0 mx_FU h_q19 ?_
      refine mx_aload_n (mx_d tX12_book_0 59 rfl) rfl rfl ?_
      refine mx_getR (mx_d tX12_book_1 0 rfl) fX12_175 rfl rfl (ly12_o h0) (ly12_r54 h0) ?_
      refine mx_iconst (0) (mx_d tX12_book_1 1 rfl) (by decide) ?_
      refine mx_iload_n (mx_d tX12_book_1 2 rfl) rfl rfl ?_
      obtain ⟨m20, e_m20, h⟩ := mx_letE h
      refine mx_iastoreC 0 (mx_d tX12_book_1 3 rfl) (ly12_s54 h0) (by decide) (mx_inbE (by decide)) (mx_eqz (z' := (e, m20)) (by rw [e_m20]) ?_)
      refine mx_aload_n (mx_d tX12_book_1 4 rfl) rfl rfl ?_
      refine mx_getR (mx_d tX12_book_1 5 rfl) fX12_175 rfl rfl (ly12_o h0) (ly12_r54 h0) ?_
      refine mx_iconst (1) (mx_d tX12_book_1 6 rfl) (by decide) ?_
      refine mx_iload_n (mx_d tX12_book_1 7 rfl) rfl rfl ?_
      obtain ⟨m21, e_m21, h⟩ := mx_letE h
      refine mx_iastoreC 1 (mx_d tX12_book_1 8 rfl) (ly12_s54 h0) (by decide) (mx_inbE (by decide)) (mx_eqz (z' := (e, m21)) (by rw [e_m21]) ?_)
      refine mx_aload_n (mx_d tX12_book_1 9 rfl) rfl rfl ?_
      refine mx_getR (mx_d tX12_book_1 10 rfl) fX12_175 rfl rfl (ly12_o h0) (ly12_r54 h0) ?_
      refine mx_iconst (2) (mx_d tX12_book_1 11 rfl) (by decide) ?_
      refine mx_aload_n (mx_d tX12_book_1 12 rfl) rfl rfl ?_
      obtain ⟨r22, h_r22, h⟩ := Option.bind_eq_some_iff.mp h
      refine mx_cVi (mx_d tX12_book_1 13 rfl) iX12_288 rfl vX12_totalNow ⟨_, rfl, rfl⟩ (ly12_o h0) (CX12_totalNow h0 h_r22) (by decide) rfl rfl (Nat.le_of_ble_eq_true rfl) ?_
      obtain ⟨m23, e_m23, h⟩ := mx_letE h
      refine mx_iastoreC 2 (mx_d tX12_book_1 14 rfl) (ly12_s54 h0) (by decide) (mx_inbE (by decide)) (mx_eqz (z' := (e, m23)) (by rw [e_m23]) ?_)
      refine mx_aload_n (mx_d tX12_book_1 15 rfl) rfl rfl ?_
      refine mx_getR (mx_d tX12_book_1 16 rfl) fX12_175 rfl rfl (ly12_o h0) (ly12_r54 h0) ?_
      refine mx_iconst (3) (mx_d tX12_book_1 17 rfl) (by decide) ?_
      refine mx_aload_n (mx_d tX12_book_1 18 rfl) rfl rfl ?_
      obtain ⟨r24, h_r24, h⟩ := Option.bind_eq_some_iff.mp h
      refine mx_cVi (mx_d tX12_book_1 19 rfl) iX12_297 rfl vX12_boundNow ⟨_, rfl, rfl⟩ (ly12_o h0) (CX12_boundNow h0 h_r24) (by decide) rfl rfl (Nat.le_of_ble_eq_true rfl) ?_
      obtain ⟨m25, e_m25, h⟩ := mx_letE h
      refine mx_iastoreC 3 (mx_d tX12_book_1 20 rfl) (ly12_s54 h0) (by decide) (mx_inbE (by decide)) (mx_eqz (z' := (e, m25)) (by rw [e_m25]) ?_)
      refine mx_aload_n (mx_d tX12_book_1 21 rfl) rfl rfl ?_
      refine mx_iconst (1) (mx_d tX12_book_1 22 rfl) (by decide) ?_
      obtain ⟨m26, e_m26, h⟩ := mx_letE h
      refine mx_putZ (mx_d tX12_book_1 23 rfl) fX12_476 rfl ⟨_, rfl, rfl⟩ rfl (by decide) (ly12_o h0) (mx_eqz (z' := (e, m26)) (by rw [e_m26]) ?_)
      refine mx_aload_n (mx_d tX12_book_1 24 rfl) rfl rfl ?_
      refine mx_iload_n (mx_d tX12_book_1 25 rfl) rfl rfl ?_
      refine mx_iconst (1) (mx_d tX12_book_1 26 rfl) (by decide) ?_
      refine mx_letK (J := fun k28 => k28 = some r → mx_Fr G l MX12_book 260 0 0 (fun v z => v = some (.int r.1) ∧ z = (e, r.2)) 161 [.float 0, .float 0, .int q19.1, .int q19.2.1] [.ref a] (e, m26)) h ?_ (fun k28 j_k28 h => ?_)
      · intro h
        refine mx_iconst (0) (mx_d tX12_book_1 32 rfl) (by decide) ?_
        obtain ⟨r29, h_r29, h⟩ := Option.bind_eq_some_iff.mp h
        refine mx_cVv (mx_d tX12_book_1 33 rfl) iX12_454 rfl vX12_stay ⟨_, rfl, rfl⟩ (ly12_o h0) (CX12_stay h0 h_r29) (by decide) rfl rfl (Nat.le_of_ble_eq_true rfl) ?_
        refine mx_iload_n (mx_d tX12_book_1 34 rfl) rfl rfl ?_
        refine mx_if_ne (tgt := 173) (mx_d tX12_book_1 35 rfl) (by decide) (fun hc30 => ?_) (fun hc30 => ?_)
        · rw [if_neg hc30] at h
          refine mx_iload_n (mx_d tX12_book_1 38 rfl) rfl rfl ?_
          obtain rfl := Option.some.inj h
          exact mx_ireturn (mx_d tX12_book_1 39 rfl) rfl ⟨rfl, rfl⟩
        · rw [if_pos hc30] at h
          refine mx_iconst ((-1)) (mx_d tX12_book_1 36 rfl) (by decide) ?_
          refine mx_goto (tgt := 174) (mx_d tX12_book_1 37 rfl) (by decide) ?_
          obtain rfl := Option.some.inj h
          exact mx_ireturn (mx_d tX12_book_1 39 rfl) rfl ⟨rfl, rfl⟩
      refine mx_icmp_ne (tgt := 161) (mx_d tX12_book_1 27 rfl) (by decide) (fun hc27 => ?_) (fun hc27 => ?_)
      · rw [if_neg hc27] at h
        refine mx_forget (L' := [.float 0, .float 0, .int q19.1, .int q19.2.1]) ⟨rfl, rfl, trivial⟩ ?_
        exact j_k28 h
      · rw [if_pos hc27] at h
        refine mx_iload_n (mx_d tX12_book_1 28 rfl) rfl rfl ?_
        refine mx_if_le (tgt := 161) (mx_d tX12_book_1 29 rfl) (by decide) (fun hc31 => ?_) (fun hc31 => ?_)
        · rw [if_pos hc31] at h
          refine mx_forget (L' := [.float 0, .float 0, .int q19.1, .int q19.2.1]) ⟨rfl, rfl, trivial⟩ ?_
          exact j_k28 h
        · rw [if_neg hc31] at h
          refine mx_iconst (1) (mx_d tX12_book_1 30 rfl) (by decide) ?_
          refine mx_goto (tgt := 162) (mx_d tX12_book_1 31 rfl) (by decide) ?_
          obtain ⟨r32, h_r32, h⟩ := Option.bind_eq_some_iff.mp h
          refine mx_cVv (mx_d tX12_book_1 33 rfl) iX12_454 rfl vX12_stay ⟨_, rfl, rfl⟩ (ly12_o h0) (CX12_stay h0 h_r32) (by decide) rfl rfl (Nat.le_of_ble_eq_true rfl) ?_
          refine mx_iload_n (mx_d tX12_book_1 34 rfl) rfl rfl ?_
          refine mx_if_ne (tgt := 173) (mx_d tX12_book_1 35 rfl) (by decide) (fun hc33 => ?_) (fun hc33 => ?_)
          · rw [if_neg hc33] at h
            refine mx_iload_n (mx_d tX12_book_1 38 rfl) rfl rfl ?_
            obtain rfl := Option.some.inj h
            exact mx_ireturn (mx_d tX12_book_1 39 rfl) rfl ⟨rfl, rfl⟩
          · rw [if_pos hc33] at h
            refine mx_iconst ((-1)) (mx_d tX12_book_1 36 rfl) (by decide) ?_
            refine mx_goto (tgt := 174) (mx_d tX12_book_1 37 rfl) (by decide) ?_
            obtain rfl := Option.some.inj h
            exact mx_ireturn (mx_d tX12_book_1 39 rfl) rfl ⟨rfl, rfl⟩
  · rw [if_pos hc3] at h
    refine mx_sipush ((-1000)) (mx_d tX12_book_0 8 rfl) (by decide) ?_
    obtain rfl := Option.some.inj h
    exact mx_ireturn (mx_d tX12_book_0 9 rfl) rfl ⟨rfl, rfl⟩
def FX12_told (a : Nat) (x0 : Int32) (m : mB) : Option (Int32 × mB) := mx_let (mx_up m.1 a 0 0, m.2) (fun m1 => (if (m1.1 a 56) = 0 then (some ((-1), m1)) else Option.bind (FX12_isIn x0 0 3 m1) (fun r3 => (if r3 = 0 then (some ((-1), m1)) else mx_chk (mx_inb x0 4) ((some ((m1.1 (a + 25) (Int32.toNatClampNeg x0)), m1)))))))
set_option maxRecDepth 20000 in
theorem CX12_told {G : mG} {l : Launch} {e : mE} {a : Nat} {x0 : Int32} {m : mB} {r : (Int32 × mB)} (h0 : ly12 e a) (h : FX12_told a x0 m = some r) : mx_Call G l MX12_told 2 0 0 [.ref a, .int x0] (e, m) (fun v z => v = some (.int r.1) ∧ z = (e, r.2)) := by
  refine mx_entry (L := [.ref a, .int x0]) (by decide +kernel) (Nat.le_of_ble_eq_true rfl) rfl ?_
  unfold FX12_told at h
  refine mx_aload_n (mx_d tX12_told_0 0 rfl) rfl rfl ?_
  refine mx_iconst (0) (mx_d tX12_told_0 1 rfl) (by decide) ?_
  obtain ⟨m1, e_m1, h⟩ := mx_letE h
  refine mx_putI (mx_d tX12_told_0 2 rfl) fX12_1 rfl ⟨_, rfl, rfl⟩ rfl (ly12_o h0) (mx_eqz (z' := (e, m1)) (by rw [e_m1]) ?_)
  refine mx_aload_n (mx_d tX12_told_0 3 rfl) rfl rfl ?_
  refine mx_getI (mx_d tX12_told_0 4 rfl) fX12_476 rfl (Or.inr rfl) (ly12_o h0) ?_
  refine mx_if_eq (tgt := 30) (mx_d tX12_told_0 5 rfl) (by decide) (fun hc2 => ?_) (fun hc2 => ?_)
  · rw [if_pos hc2] at h
    refine mx_iconst ((-1)) (mx_d tX12_told_0 16 rfl) (by decide) ?_
    obtain rfl := Option.some.inj h
    exact mx_ireturn (mx_d tX12_told_0 17 rfl) rfl ⟨rfl, rfl⟩
  · rw [if_neg hc2] at h
    refine mx_iload_n (mx_d tX12_told_0 6 rfl) rfl rfl ?_
    refine mx_iconst (0) (mx_d tX12_told_0 7 rfl) (by decide) ?_
    refine mx_iconst (3) (mx_d tX12_told_0 8 rfl) (by decide) ?_
    obtain ⟨r3, h_r3, h⟩ := Option.bind_eq_some_iff.mp h
    refine mx_cSi (mx_d tX12_told_0 9 rfl) iX12_75 rfl sX12_isIn (CX12_isIn  h_r3) (by decide) rfl rfl (Nat.le_of_ble_eq_true rfl) ?_
    refine mx_if_eq (tgt := 30) (mx_d tX12_told_0 10 rfl) (by decide) (fun hc4 => ?_) (fun hc4 => ?_)
    · rw [if_pos hc4] at h
      refine mx_iconst ((-1)) (mx_d tX12_told_0 16 rfl) (by decide) ?_
      obtain rfl := Option.some.inj h
      exact mx_ireturn (mx_d tX12_told_0 17 rfl) rfl ⟨rfl, rfl⟩
    · rw [if_neg hc4] at h
      refine mx_aload_n (mx_d tX12_told_0 11 rfl) rfl rfl ?_
      refine mx_getR (mx_d tX12_told_0 12 rfl) fX12_175 rfl rfl (ly12_o h0) (ly12_r54 h0) ?_
      refine mx_iload_n (mx_d tX12_told_0 13 rfl) rfl rfl ?_
      obtain ⟨hi5, h⟩ := mx_chkE h
      refine mx_iaload (mx_d tX12_told_0 14 rfl) (ly12_s54 h0) (mx_inbE hi5) ?_
      refine mx_goto (tgt := 31) (mx_d tX12_told_0 15 rfl) (by decide) ?_
      obtain rfl := Option.some.inj h
      exact mx_ireturn (mx_d tX12_told_0 17 rfl) rfl ⟨rfl, rfl⟩
def FX12_readThat (a : Nat) (x0 : Int32) (m : mB) : Option (Int32 × mB) := (if x0 = 17 then Option.bind (FX12_readNumber a 0 5 m) (fun r4 => mx_chk (mx_b01 r4.1) ((some (r4.1, r4.2)))) else Option.bind (FX12_readPointName a m) (fun r2 => mx_chk (mx_b01 r2.1) ((some (r2.1, r2.2)))))
set_option maxRecDepth 20000 in
theorem CX12_readThat {G : mG} {l : Launch} {e : mE} {a : Nat} {x0 : Int32} {m : mB} {r : (Int32 × mB)} (h0 : ly12 e a) (h : FX12_readThat a x0 m = some r) : mx_Call G l MX12_readThat 5 0 0 [.ref a, .int x0] (e, m) (fun v z => v = some (.int r.1) ∧ z = (e, r.2)) := by
  refine mx_entry (L := [.ref a, .int x0]) (by decide +kernel) (Nat.le_of_ble_eq_true rfl) rfl ?_
  unfold FX12_readThat at h
  refine mx_iload_n (mx_d tX12_readThat_0 0 rfl) rfl rfl ?_
  refine mx_bipush (17) (mx_d tX12_readThat_0 1 rfl) (by decide) ?_
  refine mx_icmp_ne (tgt := 15) (mx_d tX12_readThat_0 2 rfl) (by decide) (fun hc1 => ?_) (fun hc1 => ?_)
  · rw [if_neg hc1] at h
    refine mx_aload_n (mx_d tX12_readThat_0 8 rfl) rfl rfl ?_
    obtain ⟨r2, h_r2, h⟩ := Option.bind_eq_some_iff.mp h
    refine mx_cVi (mx_d tX12_readThat_0 9 rfl) iX12_461 rfl vX12_readPointName ⟨_, rfl, rfl⟩ (ly12_o h0) (CX12_readPointName h0 h_r2) (by decide) rfl rfl (Nat.le_of_ble_eq_true rfl) ?_
    obtain ⟨hb3, h⟩ := mx_chkE h
    obtain rfl := Option.some.inj h
    exact mx_zreturn (mx_d tX12_readThat_0 10 rfl) rfl (mx_nb (mx_b01E hb3)) ⟨rfl, rfl⟩
  · rw [if_pos hc1] at h
    refine mx_aload_n (mx_d tX12_readThat_0 3 rfl) rfl rfl ?_
    refine mx_iconst (0) (mx_d tX12_readThat_0 4 rfl) (by decide) ?_
    refine mx_iconst (5) (mx_d tX12_readThat_0 5 rfl) (by decide) ?_
    obtain ⟨r4, h_r4, h⟩ := Option.bind_eq_some_iff.mp h
    refine mx_cVi (mx_d tX12_readThat_0 6 rfl) iX12_203 rfl vX12_readNumber ⟨_, rfl, rfl⟩ (ly12_o h0) (CX12_readNumber h0 h_r4) (by decide) rfl rfl (Nat.le_of_ble_eq_true rfl) ?_
    refine mx_goto (tgt := 19) (mx_d tX12_readThat_0 7 rfl) (by decide) ?_
    obtain ⟨hb5, h⟩ := mx_chkE h
    obtain rfl := Option.some.inj h
    exact mx_zreturn (mx_d tX12_readThat_0 10 rfl) rfl (mx_nb (mx_b01E hb5)) ⟨rfl, rfl⟩
def FX12_weightOf (a : Nat) (x0 : Int32) (m : mB) : Option Int32 := Option.bind (FX12_isLone a x0 m) (fun r1 => (if r1 = 0 then mx_chk (mx_inb (158 + x0) 432) (Option.bind (FX12_between a x0 (m.1 (a + 2) (Int32.toNatClampNeg (158 + x0))) m) (fun r4 => mx_chk (mx_inb (128 + r4) 432) ((some (m.1 (a + 2) (Int32.toNatClampNeg (128 + r4))))))) else (some 0)))
set_option maxRecDepth 20000 in
theorem CX12_weightOf {G : mG} {l : Launch} {e : mE} {a : Nat} {x0 : Int32} {m : mB} {r : Int32} (h0 : ly12 e a) (h : FX12_weightOf a x0 m = some r) : mx_Call G l MX12_weightOf 3 0 0 [.ref a, .int x0] (e, m) (fun v z => v = some (.int r) ∧ z = (e, m)) := by
  refine mx_entry (L := [.ref a, .int x0]) (by decide +kernel) (Nat.le_of_ble_eq_true rfl) rfl ?_
  unfold FX12_weightOf at h
  refine mx_aload_n (mx_d tX12_weightOf_0 0 rfl) rfl rfl ?_
  refine mx_iload_n (mx_d tX12_weightOf_0 1 rfl) rfl rfl ?_
  obtain ⟨r1, h_r1, h⟩ := Option.bind_eq_some_iff.mp h
  refine mx_cVi (mx_d tX12_weightOf_0 2 rfl) iX12_294 rfl vX12_isLone ⟨_, rfl, rfl⟩ (ly12_o h0) (CX12_isLone h0 h_r1) (by decide) rfl rfl (Nat.le_of_ble_eq_true rfl) ?_
  refine mx_if_eq (tgt := 12) (mx_d tX12_weightOf_0 3 rfl) (by decide) (fun hc2 => ?_) (fun hc2 => ?_)
  · rw [if_pos hc2] at h
    refine mx_aload_n (mx_d tX12_weightOf_0 6 rfl) rfl rfl ?_
    refine mx_getR (mx_d tX12_weightOf_0 7 rfl) fX12_98 rfl rfl (ly12_o h0) (ly12_r14 h0) ?_
    refine mx_sipush (128) (mx_d tX12_weightOf_0 8 rfl) (by decide) ?_
    refine mx_aload_n (mx_d tX12_weightOf_0 9 rfl) rfl rfl ?_
    refine mx_iload_n (mx_d tX12_weightOf_0 10 rfl) rfl rfl ?_
    refine mx_aload_n (mx_d tX12_weightOf_0 11 rfl) rfl rfl ?_
    refine mx_getR (mx_d tX12_weightOf_0 12 rfl) fX12_98 rfl rfl (ly12_o h0) (ly12_r14 h0) ?_
    refine mx_sipush (158) (mx_d tX12_weightOf_0 13 rfl) (by decide) ?_
    refine mx_iload_n (mx_d tX12_weightOf_0 14 rfl) rfl rfl ?_
    refine mx_iadd (mx_d tX12_weightOf_0 15 rfl) ?_
    obtain ⟨hi3, h⟩ := mx_chkE h
    refine mx_iaload (mx_d tX12_weightOf_0 16 rfl) (ly12_s14 h0) (mx_inbE hi3) ?_
    obtain ⟨r4, h_r4, h⟩ := Option.bind_eq_some_iff.mp h
    refine mx_cVi (mx_d tX12_weightOf_0 17 rfl) iX12_250 rfl vX12_between ⟨_, rfl, rfl⟩ (ly12_o h0) (CX12_between h0 h_r4) (by decide) rfl rfl (Nat.le_of_ble_eq_true rfl) ?_
    refine mx_iadd (mx_d tX12_weightOf_0 18 rfl) ?_
    obtain ⟨hi5, h⟩ := mx_chkE h
    refine mx_iaload (mx_d tX12_weightOf_0 19 rfl) (ly12_s14 h0) (mx_inbE hi5) ?_
    obtain rfl := Option.some.inj h
    exact mx_ireturn (mx_d tX12_weightOf_0 20 rfl) rfl ⟨rfl, rfl⟩
  · rw [if_neg hc2] at h
    refine mx_iconst (0) (mx_d tX12_weightOf_0 4 rfl) (by decide) ?_
    refine mx_goto (tgt := 36) (mx_d tX12_weightOf_0 5 rfl) (by decide) ?_
    obtain rfl := Option.some.inj h
    exact mx_ireturn (mx_d tX12_weightOf_0 20 rfl) rfl ⟨rfl, rfl⟩
def FX12_saysOne (a : Nat) (x0 : Int32) (x1 : Int32) (x2 : Int32) (x3 : Int32) (m : mB) : Option (Int32 × mB) := mx_let (4 * (m.1 a 58)) (fun v1 => mx_chk (mx_inb v1 240) (mx_let (mx_up m.1 (a + 26) (Int32.toNatClampNeg v1) x0, m.2) (fun m2 => mx_chk (mx_inb (v1 + 1) 240) (mx_let (mx_up m2.1 (a + 26) (Int32.toNatClampNeg (v1 + 1)) x1, m2.2) (fun m4 => mx_chk (mx_inb (v1 + 2) 240) (mx_let (mx_up m4.1 (a + 26) (Int32.toNatClampNeg (v1 + 2)) x2, m4.2) (fun m6 => mx_chk (mx_inb (v1 + 3) 240) (mx_let (mx_up m6.1 (a + 26) (Int32.toNatClampNeg (v1 + 3)) x3, m6.2) (fun m8 => mx_let (mx_up m8.1 a 58 ((m8.1 a 58) + 1), m8.2) (fun m10 => (some (((m10.1 a 58) - 1), m10))))))))))))
set_option maxRecDepth 20000 in
theorem CX12_saysOne {G : mG} {l : Launch} {e : mE} {a : Nat} {x0 : Int32} {x1 : Int32} {x2 : Int32} {x3 : Int32} {m : mB} {r : (Int32 × mB)} (h0 : ly12 e a) (h : FX12_saysOne a x0 x1 x2 x3 m = some r) : mx_Call G l MX12_saysOne 1 0 0 [.ref a, .int x0, .int x1, .int x2, .int x3] (e, m) (fun v z => v = some (.int r.1) ∧ z = (e, r.2)) := by
  refine mx_entry (L := [.ref a, .int x0, .int x1, .int x2, .int x3, .float 0]) (by decide +kernel) (Nat.le_of_ble_eq_true rfl) rfl ?_
  unfold FX12_saysOne at h
  refine mx_iconst (4) (mx_d tX12_saysOne_0 0 rfl) (by decide) ?_
  refine mx_aload_n (mx_d tX12_saysOne_0 1 rfl) rfl rfl ?_
  refine mx_getI (mx_d tX12_saysOne_0 2 rfl) fX12_479 rfl (Or.inl rfl) (ly12_o h0) ?_
  refine mx_imul (mx_d tX12_saysOne_0 3 rfl) ?_
  obtain ⟨v1, e_v1, h⟩ := mx_letE h
  refine mx_istore (L2 := [.ref a, .int x0, .int x1, .int x2, .int x3, .int v1]) (mx_d tX12_saysOne_0 4 rfl) (by decide) (by rw [e_v1]; rfl) ?_
  refine mx_aload_n (mx_d tX12_saysOne_0 5 rfl) rfl rfl ?_
  refine mx_getR (mx_d tX12_saysOne_0 6 rfl) fX12_178 rfl rfl (ly12_o h0) (ly12_r57 h0) ?_
  refine mx_iload (mx_d tX12_saysOne_0 7 rfl) rfl ?_
  refine mx_iload_n (mx_d tX12_saysOne_0 8 rfl) rfl rfl ?_
  obtain ⟨hi3, h⟩ := mx_chkE h
  obtain ⟨m2, e_m2, h⟩ := mx_letE h
  refine mx_iastore (mx_d tX12_saysOne_0 9 rfl) (ly12_s57 h0) (mx_inbE hi3) (mx_eqz (z' := (e, m2)) (by rw [e_m2]) ?_)
  refine mx_aload_n (mx_d tX12_saysOne_0 10 rfl) rfl rfl ?_
  refine mx_getR (mx_d tX12_saysOne_0 11 rfl) fX12_178 rfl rfl (ly12_o h0) (ly12_r57 h0) ?_
  refine mx_iload (mx_d tX12_saysOne_0 12 rfl) rfl ?_
  refine mx_iconst (1) (mx_d tX12_saysOne_0 13 rfl) (by decide) ?_
  refine mx_iadd (mx_d tX12_saysOne_0 14 rfl) ?_
  refine mx_iload_n (mx_d tX12_saysOne_0 15 rfl) rfl rfl ?_
  obtain ⟨hi5, h⟩ := mx_chkE h
  obtain ⟨m4, e_m4, h⟩ := mx_letE h
  refine mx_iastore (mx_d tX12_saysOne_0 16 rfl) (ly12_s57 h0) (mx_inbE hi5) (mx_eqz (z' := (e, m4)) (by rw [e_m4]) ?_)
  refine mx_aload_n (mx_d tX12_saysOne_0 17 rfl) rfl rfl ?_
  refine mx_getR (mx_d tX12_saysOne_0 18 rfl) fX12_178 rfl rfl (ly12_o h0) (ly12_r57 h0) ?_
  refine mx_iload (mx_d tX12_saysOne_0 19 rfl) rfl ?_
  refine mx_iconst (2) (mx_d tX12_saysOne_0 20 rfl) (by decide) ?_
  refine mx_iadd (mx_d tX12_saysOne_0 21 rfl) ?_
  refine mx_iload_n (mx_d tX12_saysOne_0 22 rfl) rfl rfl ?_
  obtain ⟨hi7, h⟩ := mx_chkE h
  obtain ⟨m6, e_m6, h⟩ := mx_letE h
  refine mx_iastore (mx_d tX12_saysOne_0 23 rfl) (ly12_s57 h0) (mx_inbE hi7) (mx_eqz (z' := (e, m6)) (by rw [e_m6]) ?_)
  refine mx_aload_n (mx_d tX12_saysOne_0 24 rfl) rfl rfl ?_
  refine mx_getR (mx_d tX12_saysOne_0 25 rfl) fX12_178 rfl rfl (ly12_o h0) (ly12_r57 h0) ?_
  refine mx_iload (mx_d tX12_saysOne_0 26 rfl) rfl ?_
  refine mx_iconst (3) (mx_d tX12_saysOne_0 27 rfl) (by decide) ?_
  refine mx_iadd (mx_d tX12_saysOne_0 28 rfl) ?_
  refine mx_iload (mx_d tX12_saysOne_0 29 rfl) rfl ?_
  obtain ⟨hi9, h⟩ := mx_chkE h
  obtain ⟨m8, e_m8, h⟩ := mx_letE h
  refine mx_iastore (mx_d tX12_saysOne_0 30 rfl) (ly12_s57 h0) (mx_inbE hi9) (mx_eqz (z' := (e, m8)) (by rw [e_m8]) ?_)
  refine mx_aload_n (mx_d tX12_saysOne_0 31 rfl) rfl rfl ?_
  refine mx_dup (mx_d tX12_saysOne_0 32 rfl) rfl ?_
  refine mx_getI (mx_d tX12_saysOne_0 33 rfl) fX12_479 rfl (Or.inl rfl) (ly12_o h0) ?_
  refine mx_iconst (1) (mx_d tX12_saysOne_0 34 rfl) (by decide) ?_
  refine mx_iadd (mx_d tX12_saysOne_0 35 rfl) ?_
  obtain ⟨m10, e_m10, h⟩ := mx_letE h
  refine mx_putI (mx_d tX12_saysOne_0 36 rfl) fX12_479 rfl ⟨_, rfl, rfl⟩ rfl (ly12_o h0) (mx_eqz (z' := (e, m10)) (by rw [e_m10]) ?_)
  refine mx_aload_n (mx_d tX12_saysOne_0 37 rfl) rfl rfl ?_
  refine mx_getI (mx_d tX12_saysOne_0 38 rfl) fX12_479 rfl (Or.inl rfl) (ly12_o h0) ?_
  refine mx_iconst (1) (mx_d tX12_saysOne_0 39 rfl) (by decide) ?_
  refine mx_isub (mx_d tX12_saysOne_0 40 rfl) ?_
  obtain rfl := Option.some.inj h
  exact mx_ireturn (mx_d tX12_saysOne_0 41 rfl) rfl ⟨rfl, rfl⟩
def FX12_readAnd_L14 (rec : Nat → mB → Option (Int32 × mB)) (q0 : Nat) : Nat → Int32 → mB → Option ((Int32 × mB) ⊕ (Int32 × mB))
  | 0, _, _ => none
  | f + 1, y1, m => Option.bind (FX12_isWord q0 11 m) (fun r4 => (if r4 = 0 then (some (.inr (y1, m))) else Option.bind (FX12_go q0 m) (fun r6 => Option.bind (rec q0 r6) (fun r7 => (if r7.1 = 0 then (some (.inl (0, r7.2))) else Option.bind (FX12_saysOne q0 2 y1 (r7.2.1 q0 61) 0 r7.2) (fun r9 => (FX12_readAnd_L14 rec q0 f r9.1 r9.2)))))))
set_option maxRecDepth 20000 in
theorem CX12_readAnd_L14 {G : mG} {l : Launch} {e : mE} {Post : Option Value → mS → Prop} {rec : Nat → mB → Option (Int32 × mB)} {D : Nat} {q0 : Nat} (hrec : ∀ {a : Nat} {m : mB} {r : (Int32 × mB)}, ly12 e a → rec a m = some r → mx_Call G l MX12_readSaid D 0 0 [.ref a] (e, m) (fun v z => v = some (.int r.1) ∧ z = (e, r.2))) (g0 : ly12 e q0) : ∀ (f : Nat) {y1 : Int32} {m : mB} {q : ((Int32 × mB) ⊕ (Int32 × mB))}, FX12_readAnd_L14 rec q0 f y1 m = some q → (∀ rr, q = .inl rr → Post (some (.int rr.1)) (e, rr.2)) → (∀ u, q = .inr u → mx_Fr G l MX12_readAnd (D + 4) 0 0 Post 51 [.ref q0, .int u.1] [] (e, u.2)) → mx_Fr G l MX12_readAnd (D + 4) 0 0 Post 14 [.ref q0, .int y1] [] (e, m) := by
  intro f
  induction f with
  | zero => intro _ _ _ h; cases h
  | succ f ih =>
    intro y1 m q h hret hex
    rw [FX12_readAnd_L14] at h
    refine mx_aload_n (mx_d tX12_readAnd_0 8 rfl) rfl rfl ?_
    refine mx_bipush (11) (mx_d tX12_readAnd_0 9 rfl) (by decide) ?_
    obtain ⟨r4, h_r4, h⟩ := Option.bind_eq_some_iff.mp h
    refine mx_cVi (mx_d tX12_readAnd_0 10 rfl) iX12_217 rfl vX12_isWord ⟨_, rfl, rfl⟩ (ly12_o g0) (CX12_isWord g0 h_r4) (by omega) rfl rfl (Nat.le_of_ble_eq_true rfl) ?_
    refine mx_if_eq (tgt := 51) (mx_d tX12_readAnd_0 11 rfl) (by decide) (fun hc5 => ?_) (fun hc5 => ?_)
    · rw [if_pos hc5] at h
      obtain rfl := Option.some.inj h
      exact (hex _ rfl)
    · rw [if_neg hc5] at h
      refine mx_aload_n (mx_d tX12_readAnd_0 12 rfl) rfl rfl ?_
      obtain ⟨r6, h_r6, h⟩ := Option.bind_eq_some_iff.mp h
      refine mx_cVv (mx_d tX12_readAnd_0 13 rfl) iX12_82 rfl vX12_go ⟨_, rfl, rfl⟩ (ly12_o g0) (CX12_go g0 h_r6) (by omega) rfl rfl (Nat.le_of_ble_eq_true rfl) ?_
      refine mx_aload_n (mx_d tX12_readAnd_0 14 rfl) rfl rfl ?_
      obtain ⟨r7, h_r7, h⟩ := Option.bind_eq_some_iff.mp h
      refine mx_cVi (mx_d tX12_readAnd_0 15 rfl) iX12_491 rfl vX12_readSaid ⟨_, rfl, rfl⟩ (ly12_o g0) (hrec g0 h_r7) (by omega) rfl rfl (Nat.le_of_ble_eq_true rfl) ?_
      refine mx_if_ne (tgt := 36) (mx_d tX12_readAnd_0 16 rfl) (by decide) (fun hc8 => ?_) (fun hc8 => ?_)
      · rw [if_neg hc8] at h
        refine mx_aload_n (mx_d tX12_readAnd_0 19 rfl) rfl rfl ?_
        refine mx_iconst (2) (mx_d tX12_readAnd_0 20 rfl) (by decide) ?_
        refine mx_iload_n (mx_d tX12_readAnd_0 21 rfl) rfl rfl ?_
        refine mx_aload_n (mx_d tX12_readAnd_0 22 rfl) rfl rfl ?_
        refine mx_getI (mx_d tX12_readAnd_0 23 rfl) fX12_485 rfl (Or.inl rfl) (ly12_o g0) ?_
        refine mx_iconst (0) (mx_d tX12_readAnd_0 24 rfl) (by decide) ?_
        obtain ⟨r9, h_r9, h⟩ := Option.bind_eq_some_iff.mp h
        refine mx_cVi (mx_d tX12_readAnd_0 25 rfl) iX12_488 rfl vX12_saysOne ⟨_, rfl, rfl⟩ (ly12_o g0) (CX12_saysOne g0 h_r9) (by omega) rfl rfl (Nat.le_of_ble_eq_true rfl) ?_
        refine mx_istore_n (L2 := [.ref q0, .int r9.1]) (mx_d tX12_readAnd_0 26 rfl) rfl (by decide) (by rfl) ?_
        refine mx_goto (tgt := 14) (mx_d tX12_readAnd_0 27 rfl) (by decide) ?_
        exact ih h hret hex
      · rw [if_pos hc8] at h
        refine mx_iconst (0) (mx_d tX12_readAnd_0 17 rfl) (by decide) ?_
        obtain rfl := Option.some.inj h
        exact mx_zreturn (mx_d tX12_readAnd_0 18 rfl) rfl rfl (hret (0, r7.2) rfl)
def FX12_readAnd (rec : Nat → mB → Option (Int32 × mB)) (a : Nat) (m : mB) : Option (Int32 × mB) := Option.bind (rec a m) (fun r1 => (if r1.1 = 0 then (some (0, r1.2)) else mx_let (r1.2.1 a 61) (fun v3 => Option.bind (FX12_readAnd_L14 rec a mx_FU v3 r1.2) (fun q10 => Sum.elim (fun rr => some rr) (fun u11 => mx_let (mx_up u11.2.1 a 61 u11.1, u11.2.2) (fun m13 => (some (1, m13)))) q10))))
set_option maxRecDepth 20000 in
theorem CX12_readAnd {G : mG} {l : Launch} {e : mE} {rec : Nat → mB → Option (Int32 × mB)} {D : Nat} {a : Nat} {m : mB} {r : (Int32 × mB)} (hrec : ∀ {a : Nat} {m : mB} {r : (Int32 × mB)}, ly12 e a → rec a m = some r → mx_Call G l MX12_readSaid D 0 0 [.ref a] (e, m) (fun v z => v = some (.int r.1) ∧ z = (e, r.2))) (h0 : ly12 e a) (h : FX12_readAnd rec a m = some r) : mx_Call G l MX12_readAnd (D + 4) 0 0 [.ref a] (e, m) (fun v z => v = some (.int r.1) ∧ z = (e, r.2)) := by
  refine mx_entry (L := [.ref a, .float 0]) (by decide +kernel) (Nat.le_of_ble_eq_true rfl) rfl ?_
  unfold FX12_readAnd at h
  refine mx_aload_n (mx_d tX12_readAnd_0 0 rfl) rfl rfl ?_
  obtain ⟨r1, h_r1, h⟩ := Option.bind_eq_some_iff.mp h
  refine mx_cVi (mx_d tX12_readAnd_0 1 rfl) iX12_491 rfl vX12_readSaid ⟨_, rfl, rfl⟩ (ly12_o h0) (hrec h0 h_r1) (by omega) rfl rfl (Nat.le_of_ble_eq_true rfl) ?_
  refine mx_if_ne (tgt := 9) (mx_d tX12_readAnd_0 2 rfl) (by decide) (fun hc2 => ?_) (fun hc2 => ?_)
  · rw [if_neg hc2] at h
    refine mx_aload_n (mx_d tX12_readAnd_0 5 rfl) rfl rfl ?_
    refine mx_getI (mx_d tX12_readAnd_0 6 rfl) fX12_485 rfl (Or.inl rfl) (ly12_o h0) ?_
    obtain ⟨v3, e_v3, h⟩ := mx_letE h
    refine mx_istore_n (L2 := [.ref a, .int v3]) (mx_d tX12_readAnd_0 7 rfl) rfl (by decide) (by rw [e_v3]; rfl) ?_
    obtain ⟨q10, h_q10, h⟩ := Option.bind_eq_some_iff.mp h
    refine CX12_readAnd_L14 hrec h0 mx_FU h_q10 (fun rr12 e_rr12 => ?_) (fun u11 e_u11 => ?_)
    · subst e_rr12
      rw [Sum.elim_inl] at h
      obtain rfl := Option.some.inj h
      exact ⟨rfl, rfl⟩
    · subst e_u11
      rw [Sum.elim_inr] at h
      refine mx_aload_n (mx_d tX12_readAnd_0 28 rfl) rfl rfl ?_
      refine mx_iload_n (mx_d tX12_readAnd_0 29 rfl) rfl rfl ?_
      obtain ⟨m13, e_m13, h⟩ := mx_letE h
      refine mx_putI (mx_d tX12_readAnd_0 30 rfl) fX12_485 rfl ⟨_, rfl, rfl⟩ rfl (ly12_o h0) (mx_eqz (z' := (e, m13)) (by rw [e_m13]) ?_)
      refine mx_iconst (1) (mx_d tX12_readAnd_0 31 rfl) (by decide) ?_
      obtain rfl := Option.some.inj h
      exact mx_zreturn (mx_d tX12_readAnd_0 32 rfl) rfl rfl ⟨rfl, rfl⟩
  · rw [if_pos hc2] at h
    refine mx_iconst (0) (mx_d tX12_readAnd_0 3 rfl) (by decide) ?_
    obtain rfl := Option.some.inj h
    exact mx_zreturn (mx_d tX12_readAnd_0 4 rfl) rfl rfl ⟨rfl, rfl⟩
def FX12_readOr_L14 (rec : Nat → mB → Option (Int32 × mB)) (q0 : Nat) : Nat → Int32 → mB → Option ((Int32 × mB) ⊕ (Int32 × mB))
  | 0, _, _ => none
  | f + 1, y1, m => Option.bind (FX12_isWord q0 10 m) (fun r4 => (if r4 = 0 then (some (.inr (y1, m))) else Option.bind (FX12_go q0 m) (fun r6 => Option.bind (FX12_readAnd rec q0 r6) (fun r7 => (if r7.1 = 0 then (some (.inl (0, r7.2))) else Option.bind (FX12_saysOne q0 3 y1 (r7.2.1 q0 61) 0 r7.2) (fun r9 => (FX12_readOr_L14 rec q0 f r9.1 r9.2)))))))
set_option maxRecDepth 20000 in
theorem CX12_readOr_L14 {G : mG} {l : Launch} {e : mE} {Post : Option Value → mS → Prop} {rec : Nat → mB → Option (Int32 × mB)} {D : Nat} {q0 : Nat} (hrec : ∀ {a : Nat} {m : mB} {r : (Int32 × mB)}, ly12 e a → rec a m = some r → mx_Call G l MX12_readSaid D 0 0 [.ref a] (e, m) (fun v z => v = some (.int r.1) ∧ z = (e, r.2))) (g0 : ly12 e q0) : ∀ (f : Nat) {y1 : Int32} {m : mB} {q : ((Int32 × mB) ⊕ (Int32 × mB))}, FX12_readOr_L14 rec q0 f y1 m = some q → (∀ rr, q = .inl rr → Post (some (.int rr.1)) (e, rr.2)) → (∀ u, q = .inr u → mx_Fr G l MX12_readOr (D + 5) 0 0 Post 51 [.ref q0, .int u.1] [] (e, u.2)) → mx_Fr G l MX12_readOr (D + 5) 0 0 Post 14 [.ref q0, .int y1] [] (e, m) := by
  intro f
  induction f with
  | zero => intro _ _ _ h; cases h
  | succ f ih =>
    intro y1 m q h hret hex
    rw [FX12_readOr_L14] at h
    refine mx_aload_n (mx_d tX12_readOr_0 8 rfl) rfl rfl ?_
    refine mx_bipush (10) (mx_d tX12_readOr_0 9 rfl) (by decide) ?_
    obtain ⟨r4, h_r4, h⟩ := Option.bind_eq_some_iff.mp h
    refine mx_cVi (mx_d tX12_readOr_0 10 rfl) iX12_217 rfl vX12_isWord ⟨_, rfl, rfl⟩ (ly12_o g0) (CX12_isWord g0 h_r4) (by omega) rfl rfl (Nat.le_of_ble_eq_true rfl) ?_
    refine mx_if_eq (tgt := 51) (mx_d tX12_readOr_0 11 rfl) (by decide) (fun hc5 => ?_) (fun hc5 => ?_)
    · rw [if_pos hc5] at h
      obtain rfl := Option.some.inj h
      exact (hex _ rfl)
    · rw [if_neg hc5] at h
      refine mx_aload_n (mx_d tX12_readOr_0 12 rfl) rfl rfl ?_
      obtain ⟨r6, h_r6, h⟩ := Option.bind_eq_some_iff.mp h
      refine mx_cVv (mx_d tX12_readOr_0 13 rfl) iX12_82 rfl vX12_go ⟨_, rfl, rfl⟩ (ly12_o g0) (CX12_go g0 h_r6) (by omega) rfl rfl (Nat.le_of_ble_eq_true rfl) ?_
      refine mx_aload_n (mx_d tX12_readOr_0 14 rfl) rfl rfl ?_
      obtain ⟨r7, h_r7, h⟩ := Option.bind_eq_some_iff.mp h
      refine mx_cVi (mx_d tX12_readOr_0 15 rfl) iX12_482 rfl vX12_readAnd ⟨_, rfl, rfl⟩ (ly12_o g0) (CX12_readAnd hrec g0 h_r7) (by omega) rfl rfl (Nat.le_of_ble_eq_true rfl) ?_
      refine mx_if_ne (tgt := 36) (mx_d tX12_readOr_0 16 rfl) (by decide) (fun hc8 => ?_) (fun hc8 => ?_)
      · rw [if_neg hc8] at h
        refine mx_aload_n (mx_d tX12_readOr_0 19 rfl) rfl rfl ?_
        refine mx_iconst (3) (mx_d tX12_readOr_0 20 rfl) (by decide) ?_
        refine mx_iload_n (mx_d tX12_readOr_0 21 rfl) rfl rfl ?_
        refine mx_aload_n (mx_d tX12_readOr_0 22 rfl) rfl rfl ?_
        refine mx_getI (mx_d tX12_readOr_0 23 rfl) fX12_485 rfl (Or.inl rfl) (ly12_o g0) ?_
        refine mx_iconst (0) (mx_d tX12_readOr_0 24 rfl) (by decide) ?_
        obtain ⟨r9, h_r9, h⟩ := Option.bind_eq_some_iff.mp h
        refine mx_cVi (mx_d tX12_readOr_0 25 rfl) iX12_488 rfl vX12_saysOne ⟨_, rfl, rfl⟩ (ly12_o g0) (CX12_saysOne g0 h_r9) (by omega) rfl rfl (Nat.le_of_ble_eq_true rfl) ?_
        refine mx_istore_n (L2 := [.ref q0, .int r9.1]) (mx_d tX12_readOr_0 26 rfl) rfl (by decide) (by rfl) ?_
        refine mx_goto (tgt := 14) (mx_d tX12_readOr_0 27 rfl) (by decide) ?_
        exact ih h hret hex
      · rw [if_pos hc8] at h
        refine mx_iconst (0) (mx_d tX12_readOr_0 17 rfl) (by decide) ?_
        obtain rfl := Option.some.inj h
        exact mx_zreturn (mx_d tX12_readOr_0 18 rfl) rfl rfl (hret (0, r7.2) rfl)
def FX12_readOr (rec : Nat → mB → Option (Int32 × mB)) (a : Nat) (m : mB) : Option (Int32 × mB) := Option.bind (FX12_readAnd rec a m) (fun r1 => (if r1.1 = 0 then (some (0, r1.2)) else mx_let (r1.2.1 a 61) (fun v3 => Option.bind (FX12_readOr_L14 rec a mx_FU v3 r1.2) (fun q10 => Sum.elim (fun rr => some rr) (fun u11 => mx_let (mx_up u11.2.1 a 61 u11.1, u11.2.2) (fun m13 => (some (1, m13)))) q10))))
set_option maxRecDepth 20000 in
theorem CX12_readOr {G : mG} {l : Launch} {e : mE} {rec : Nat → mB → Option (Int32 × mB)} {D : Nat} {a : Nat} {m : mB} {r : (Int32 × mB)} (hrec : ∀ {a : Nat} {m : mB} {r : (Int32 × mB)}, ly12 e a → rec a m = some r → mx_Call G l MX12_readSaid D 0 0 [.ref a] (e, m) (fun v z => v = some (.int r.1) ∧ z = (e, r.2))) (h0 : ly12 e a) (h : FX12_readOr rec a m = some r) : mx_Call G l MX12_readOr (D + 5) 0 0 [.ref a] (e, m) (fun v z => v = some (.int r.1) ∧ z = (e, r.2)) := by
  refine mx_entry (L := [.ref a, .float 0]) (by decide +kernel) (Nat.le_of_ble_eq_true rfl) rfl ?_
  unfold FX12_readOr at h
  refine mx_aload_n (mx_d tX12_readOr_0 0 rfl) rfl rfl ?_
  obtain ⟨r1, h_r1, h⟩ := Option.bind_eq_some_iff.mp h
  refine mx_cVi (mx_d tX12_readOr_0 1 rfl) iX12_482 rfl vX12_readAnd ⟨_, rfl, rfl⟩ (ly12_o h0) (CX12_readAnd hrec h0 h_r1) (by omega) rfl rfl (Nat.le_of_ble_eq_true rfl) ?_
  refine mx_if_ne (tgt := 9) (mx_d tX12_readOr_0 2 rfl) (by decide) (fun hc2 => ?_) (fun hc2 => ?_)
  · rw [if_neg hc2] at h
    refine mx_aload_n (mx_d tX12_readOr_0 5 rfl) rfl rfl ?_
    refine mx_getI (mx_d tX12_readOr_0 6 rfl) fX12_485 rfl (Or.inl rfl) (ly12_o h0) ?_
    obtain ⟨v3, e_v3, h⟩ := mx_letE h
    refine mx_istore_n (L2 := [.ref a, .int v3]) (mx_d tX12_readOr_0 7 rfl) rfl (by decide) (by rw [e_v3]; rfl) ?_
    obtain ⟨q10, h_q10, h⟩ := Option.bind_eq_some_iff.mp h
    refine CX12_readOr_L14 hrec h0 mx_FU h_q10 (fun rr12 e_rr12 => ?_) (fun u11 e_u11 => ?_)
    · subst e_rr12
      rw [Sum.elim_inl] at h
      obtain rfl := Option.some.inj h
      exact ⟨rfl, rfl⟩
    · subst e_u11
      rw [Sum.elim_inr] at h
      refine mx_aload_n (mx_d tX12_readOr_0 28 rfl) rfl rfl ?_
      refine mx_iload_n (mx_d tX12_readOr_0 29 rfl) rfl rfl ?_
      obtain ⟨m13, e_m13, h⟩ := mx_letE h
      refine mx_putI (mx_d tX12_readOr_0 30 rfl) fX12_485 rfl ⟨_, rfl, rfl⟩ rfl (ly12_o h0) (mx_eqz (z' := (e, m13)) (by rw [e_m13]) ?_)
      refine mx_iconst (1) (mx_d tX12_readOr_0 31 rfl) (by decide) ?_
      obtain rfl := Option.some.inj h
      exact mx_zreturn (mx_d tX12_readOr_0 32 rfl) rfl rfl ⟨rfl, rfl⟩
  · rw [if_pos hc2] at h
    refine mx_iconst (0) (mx_d tX12_readOr_0 3 rfl) (by decide) ?_
    obtain rfl := Option.some.inj h
    exact mx_zreturn (mx_d tX12_readOr_0 4 rfl) rfl rfl ⟨rfl, rfl⟩
def FX12_readBracket (rec : Nat → mB → Option (Int32 × mB)) (a : Nat) (m : mB) : Option (Int32 × mB) := Option.bind (FX12_readOr rec a m) (fun r1 => (if r1.1 = 0 then (some (0, r1.2)) else Option.bind (FX12_isSign a 41 r1.2) (fun r3 => (if r3 = 0 then Option.bind (FX12_bad a 1 r1.2) (fun r6 => mx_chk (mx_b01 r6.1) ((some (r6.1, r6.2)))) else Option.bind (FX12_go a r1.2) (fun r5 => (some (1, r5)))))))
set_option maxRecDepth 20000 in
theorem CX12_readBracket {G : mG} {l : Launch} {e : mE} {rec : Nat → mB → Option (Int32 × mB)} {D : Nat} {a : Nat} {m : mB} {r : (Int32 × mB)} (hrec : ∀ {a : Nat} {m : mB} {r : (Int32 × mB)}, ly12 e a → rec a m = some r → mx_Call G l MX12_readSaid D 0 0 [.ref a] (e, m) (fun v z => v = some (.int r.1) ∧ z = (e, r.2))) (h0 : ly12 e a) (h : FX12_readBracket rec a m = some r) : mx_Call G l MX12_readBracket (D + 6) 0 0 [.ref a] (e, m) (fun v z => v = some (.int r.1) ∧ z = (e, r.2)) := by
  refine mx_entry (L := [.ref a]) (by decide +kernel) (Nat.le_of_ble_eq_true rfl) rfl ?_
  unfold FX12_readBracket at h
  refine mx_aload_n (mx_d tX12_readBracket_0 0 rfl) rfl rfl ?_
  obtain ⟨r1, h_r1, h⟩ := Option.bind_eq_some_iff.mp h
  refine mx_cVi (mx_d tX12_readBracket_0 1 rfl) iX12_512 rfl vX12_readOr ⟨_, rfl, rfl⟩ (ly12_o h0) (CX12_readOr hrec h0 h_r1) (by omega) rfl rfl (Nat.le_of_ble_eq_true rfl) ?_
  refine mx_if_ne (tgt := 9) (mx_d tX12_readBracket_0 2 rfl) (by decide) (fun hc2 => ?_) (fun hc2 => ?_)
  · rw [if_neg hc2] at h
    refine mx_aload_n (mx_d tX12_readBracket_0 5 rfl) rfl rfl ?_
    refine mx_bipush (41) (mx_d tX12_readBracket_0 6 rfl) (by decide) ?_
    obtain ⟨r3, h_r3, h⟩ := Option.bind_eq_some_iff.mp h
    refine mx_cVi (mx_d tX12_readBracket_0 7 rfl) iX12_86 rfl vX12_isSign ⟨_, rfl, rfl⟩ (ly12_o h0) (CX12_isSign h0 h_r3) (by omega) rfl rfl (Nat.le_of_ble_eq_true rfl) ?_
    refine mx_if_ne (tgt := 24) (mx_d tX12_readBracket_0 8 rfl) (by decide) (fun hc4 => ?_) (fun hc4 => ?_)
    · rw [if_neg hc4] at h
      refine mx_aload_n (mx_d tX12_readBracket_0 13 rfl) rfl rfl ?_
      obtain ⟨r5, h_r5, h⟩ := Option.bind_eq_some_iff.mp h
      refine mx_cVv (mx_d tX12_readBracket_0 14 rfl) iX12_82 rfl vX12_go ⟨_, rfl, rfl⟩ (ly12_o h0) (CX12_go h0 h_r5) (by omega) rfl rfl (Nat.le_of_ble_eq_true rfl) ?_
      refine mx_iconst (1) (mx_d tX12_readBracket_0 15 rfl) (by decide) ?_
      obtain rfl := Option.some.inj h
      exact mx_zreturn (mx_d tX12_readBracket_0 16 rfl) rfl rfl ⟨rfl, rfl⟩
    · rw [if_pos hc4] at h
      refine mx_aload_n (mx_d tX12_readBracket_0 9 rfl) rfl rfl ?_
      refine mx_iconst (1) (mx_d tX12_readBracket_0 10 rfl) (by decide) ?_
      obtain ⟨r6, h_r6, h⟩ := Option.bind_eq_some_iff.mp h
      refine mx_cVi (mx_d tX12_readBracket_0 11 rfl) iX12_72 rfl vX12_bad ⟨_, rfl, rfl⟩ (ly12_o h0) (CX12_bad h0 h_r6) (by omega) rfl rfl (Nat.le_of_ble_eq_true rfl) ?_
      obtain ⟨hb7, h⟩ := mx_chkE h
      obtain rfl := Option.some.inj h
      exact mx_zreturn (mx_d tX12_readBracket_0 12 rfl) rfl (mx_nb (mx_b01E hb7)) ⟨rfl, rfl⟩
  · rw [if_pos hc2] at h
    refine mx_iconst (0) (mx_d tX12_readBracket_0 3 rfl) (by decide) ?_
    obtain rfl := Option.some.inj h
    exact mx_zreturn (mx_d tX12_readBracket_0 4 rfl) rfl rfl ⟨rfl, rfl⟩
def FX12_readNot (rec : Nat → mB → Option (Int32 × mB)) (a : Nat) (m : mB) : Option (Int32 × mB) := Option.bind (rec a m) (fun r1 => (if r1.1 = 0 then (some (0, r1.2)) else Option.bind (FX12_saysOne a 1 (r1.2.1 a 61) 0 0 r1.2) (fun r3 => mx_let (mx_up r3.2.1 a 61 r3.1, r3.2.2) (fun m4 => (some (1, m4))))))
set_option maxRecDepth 20000 in
theorem CX12_readNot {G : mG} {l : Launch} {e : mE} {rec : Nat → mB → Option (Int32 × mB)} {D : Nat} {a : Nat} {m : mB} {r : (Int32 × mB)} (hrec : ∀ {a : Nat} {m : mB} {r : (Int32 × mB)}, ly12 e a → rec a m = some r → mx_Call G l MX12_readSaid D 0 0 [.ref a] (e, m) (fun v z => v = some (.int r.1) ∧ z = (e, r.2))) (h0 : ly12 e a) (h : FX12_readNot rec a m = some r) : mx_Call G l MX12_readNot (D + 2) 0 0 [.ref a] (e, m) (fun v z => v = some (.int r.1) ∧ z = (e, r.2)) := by
  refine mx_entry (L := [.ref a]) (by decide +kernel) (Nat.le_of_ble_eq_true rfl) rfl ?_
  unfold FX12_readNot at h
  refine mx_aload_n (mx_d tX12_readNot_0 0 rfl) rfl rfl ?_
  obtain ⟨r1, h_r1, h⟩ := Option.bind_eq_some_iff.mp h
  refine mx_cVi (mx_d tX12_readNot_0 1 rfl) iX12_491 rfl vX12_readSaid ⟨_, rfl, rfl⟩ (ly12_o h0) (hrec h0 h_r1) (by omega) rfl rfl (Nat.le_of_ble_eq_true rfl) ?_
  refine mx_if_ne (tgt := 9) (mx_d tX12_readNot_0 2 rfl) (by decide) (fun hc2 => ?_) (fun hc2 => ?_)
  · rw [if_neg hc2] at h
    refine mx_aload_n (mx_d tX12_readNot_0 5 rfl) rfl rfl ?_
    refine mx_aload_n (mx_d tX12_readNot_0 6 rfl) rfl rfl ?_
    refine mx_iconst (1) (mx_d tX12_readNot_0 7 rfl) (by decide) ?_
    refine mx_aload_n (mx_d tX12_readNot_0 8 rfl) rfl rfl ?_
    refine mx_getI (mx_d tX12_readNot_0 9 rfl) fX12_485 rfl (Or.inl rfl) (ly12_o h0) ?_
    refine mx_iconst (0) (mx_d tX12_readNot_0 10 rfl) (by decide) ?_
    refine mx_iconst (0) (mx_d tX12_readNot_0 11 rfl) (by decide) ?_
    obtain ⟨r3, h_r3, h⟩ := Option.bind_eq_some_iff.mp h
    refine mx_cVi (mx_d tX12_readNot_0 12 rfl) iX12_488 rfl vX12_saysOne ⟨_, rfl, rfl⟩ (ly12_o h0) (CX12_saysOne h0 h_r3) (by omega) rfl rfl (Nat.le_of_ble_eq_true rfl) ?_
    obtain ⟨m4, e_m4, h⟩ := mx_letE h
    refine mx_putI (mx_d tX12_readNot_0 13 rfl) fX12_485 rfl ⟨_, rfl, rfl⟩ rfl (ly12_o h0) (mx_eqz (z' := (e, m4)) (by rw [e_m4]) ?_)
    refine mx_iconst (1) (mx_d tX12_readNot_0 14 rfl) (by decide) ?_
    obtain rfl := Option.some.inj h
    exact mx_zreturn (mx_d tX12_readNot_0 15 rfl) rfl rfl ⟨rfl, rfl⟩
  · rw [if_pos hc2] at h
    refine mx_iconst (0) (mx_d tX12_readNot_0 3 rfl) (by decide) ?_
    obtain rfl := Option.some.inj h
    exact mx_zreturn (mx_d tX12_readNot_0 4 rfl) rfl rfl ⟨rfl, rfl⟩
def FX12_readOf (a : Nat) (x0 : Int32) (m : mB) : Option (Int32 × mB) := Option.bind (FX12_readThat a x0 m) (fun r1 => (if r1.1 = 0 then (some (0, r1.2)) else Option.bind (FX12_saysOne a (50 + x0) (r1.2.1 a 13) 0 0 r1.2) (fun r3 => mx_let (mx_up r3.2.1 a 61 r3.1, r3.2.2) (fun m4 => (some (1, m4))))))
set_option maxRecDepth 20000 in
theorem CX12_readOf {G : mG} {l : Launch} {e : mE} {a : Nat} {x0 : Int32} {m : mB} {r : (Int32 × mB)} (h0 : ly12 e a) (h : FX12_readOf a x0 m = some r) : mx_Call G l MX12_readOf 6 0 0 [.ref a, .int x0] (e, m) (fun v z => v = some (.int r.1) ∧ z = (e, r.2)) := by
  refine mx_entry (L := [.ref a, .int x0]) (by decide +kernel) (Nat.le_of_ble_eq_true rfl) rfl ?_
  unfold FX12_readOf at h
  refine mx_aload_n (mx_d tX12_readOf_0 0 rfl) rfl rfl ?_
  refine mx_iload_n (mx_d tX12_readOf_0 1 rfl) rfl rfl ?_
  obtain ⟨r1, h_r1, h⟩ := Option.bind_eq_some_iff.mp h
  refine mx_cVi (mx_d tX12_readOf_0 2 rfl) iX12_515 rfl vX12_readThat ⟨_, rfl, rfl⟩ (ly12_o h0) (CX12_readThat h0 h_r1) (by decide) rfl rfl (Nat.le_of_ble_eq_true rfl) ?_
  refine mx_if_ne (tgt := 10) (mx_d tX12_readOf_0 3 rfl) (by decide) (fun hc2 => ?_) (fun hc2 => ?_)
  · rw [if_neg hc2] at h
    refine mx_aload_n (mx_d tX12_readOf_0 6 rfl) rfl rfl ?_
    refine mx_aload_n (mx_d tX12_readOf_0 7 rfl) rfl rfl ?_
    refine mx_bipush (50) (mx_d tX12_readOf_0 8 rfl) (by decide) ?_
    refine mx_iload_n (mx_d tX12_readOf_0 9 rfl) rfl rfl ?_
    refine mx_iadd (mx_d tX12_readOf_0 10 rfl) ?_
    refine mx_aload_n (mx_d tX12_readOf_0 11 rfl) rfl rfl ?_
    refine mx_getI (mx_d tX12_readOf_0 12 rfl) fX12_79 rfl (Or.inl rfl) (ly12_o h0) ?_
    refine mx_iconst (0) (mx_d tX12_readOf_0 13 rfl) (by decide) ?_
    refine mx_iconst (0) (mx_d tX12_readOf_0 14 rfl) (by decide) ?_
    obtain ⟨r3, h_r3, h⟩ := Option.bind_eq_some_iff.mp h
    refine mx_cVi (mx_d tX12_readOf_0 15 rfl) iX12_488 rfl vX12_saysOne ⟨_, rfl, rfl⟩ (ly12_o h0) (CX12_saysOne h0 h_r3) (by decide) rfl rfl (Nat.le_of_ble_eq_true rfl) ?_
    obtain ⟨m4, e_m4, h⟩ := mx_letE h
    refine mx_putI (mx_d tX12_readOf_0 16 rfl) fX12_485 rfl ⟨_, rfl, rfl⟩ rfl (ly12_o h0) (mx_eqz (z' := (e, m4)) (by rw [e_m4]) ?_)
    refine mx_iconst (1) (mx_d tX12_readOf_0 17 rfl) (by decide) ?_
    obtain rfl := Option.some.inj h
    exact mx_zreturn (mx_d tX12_readOf_0 18 rfl) rfl rfl ⟨rfl, rfl⟩
  · rw [if_pos hc2] at h
    refine mx_iconst (0) (mx_d tX12_readOf_0 4 rfl) (by decide) ?_
    obtain rfl := Option.some.inj h
    exact mx_zreturn (mx_d tX12_readOf_0 5 rfl) rfl rfl ⟨rfl, rfl⟩
def FX12_readCompare (a : Nat) (x0 : Int32) (m : mB) : Option (Int32 × mB) := Option.bind (FX12_isSign a 60 m) (fun r1 => mx_let (fun (m3 : mB) => mx_let (m3.1 a 9) (fun v5 => Option.bind (FX12_go a m3) (fun r6 => Option.bind (FX12_readNumber a 0 999 r6) (fun r7 => (if r7.1 = 0 then (some (0, r7.2)) else Option.bind (FX12_saysOne a (50 + x0) 0 (r7.2.1 a 13) v5 r7.2) (fun r9 => mx_let (mx_up r9.2.1 a 61 r9.1, r9.2.2) (fun m10 => (some (1, m10))))))))) (fun k4 => (if r1 = 0 then Option.bind (FX12_isSign a 61 m) (fun r11 => (if r11 = 0 then Option.bind (FX12_isSign a 62 m) (fun r13 => (if r13 = 0 then Option.bind (FX12_bad a 1 m) (fun r15 => mx_chk (mx_b01 r15.1) ((some (r15.1, r15.2)))) else (k4 m))) else (k4 m))) else (k4 m))))
set_option maxRecDepth 20000 in
theorem CX12_readCompare {G : mG} {l : Launch} {e : mE} {a : Nat} {x0 : Int32} {m : mB} {r : (Int32 × mB)} (h0 : ly12 e a) (h : FX12_readCompare a x0 m = some r) : mx_Call G l MX12_readCompare 4 0 0 [.ref a, .int x0] (e, m) (fun v z => v = some (.int r.1) ∧ z = (e, r.2)) := by
  refine mx_entry (L := [.ref a, .int x0, .float 0]) (by decide +kernel) (Nat.le_of_ble_eq_true rfl) rfl ?_
  unfold FX12_readCompare at h
  refine mx_aload_n (mx_d tX12_readCompare_0 0 rfl) rfl rfl ?_
  refine mx_bipush (60) (mx_d tX12_readCompare_0 1 rfl) (by decide) ?_
  obtain ⟨r1, h_r1, h⟩ := Option.bind_eq_some_iff.mp h
  refine mx_cVi (mx_d tX12_readCompare_0 2 rfl) iX12_86 rfl vX12_isSign ⟨_, rfl, rfl⟩ (ly12_o h0) (CX12_isSign h0 h_r1) (by decide) rfl rfl (Nat.le_of_ble_eq_true rfl) ?_
  refine mx_letK (J := fun k4 => ∀ {m3 : mB}, k4 m3 = some r → mx_Fr G l MX12_readCompare 4 0 0 (fun v z => v = some (.int r.1) ∧ z = (e, r.2)) 33 [.ref a, .int x0, .float 0] [] (e, m3)) h ?_ (fun k4 j_k4 h => ?_)
  · intro m3 h
    dsimp only at h
    refine mx_aload_n (mx_d tX12_readCompare_0 16 rfl) rfl rfl ?_
    refine mx_getI (mx_d tX12_readCompare_0 17 rfl) fX12_40 rfl (Or.inl rfl) (ly12_o h0) ?_
    obtain ⟨v5, e_v5, h⟩ := mx_letE h
    refine mx_istore_n (L2 := [.ref a, .int x0, .int v5]) (mx_d tX12_readCompare_0 18 rfl) rfl (by decide) (by rw [e_v5]; rfl) ?_
    refine mx_aload_n (mx_d tX12_readCompare_0 19 rfl) rfl rfl ?_
    obtain ⟨r6, h_r6, h⟩ := Option.bind_eq_some_iff.mp h
    refine mx_cVv (mx_d tX12_readCompare_0 20 rfl) iX12_82 rfl vX12_go ⟨_, rfl, rfl⟩ (ly12_o h0) (CX12_go h0 h_r6) (by decide) rfl rfl (Nat.le_of_ble_eq_true rfl) ?_
    refine mx_aload_n (mx_d tX12_readCompare_0 21 rfl) rfl rfl ?_
    refine mx_iconst (0) (mx_d tX12_readCompare_0 22 rfl) (by decide) ?_
    refine mx_sipush (999) (mx_d tX12_readCompare_0 23 rfl) (by decide) ?_
    obtain ⟨r7, h_r7, h⟩ := Option.bind_eq_some_iff.mp h
    refine mx_cVi (mx_d tX12_readCompare_0 24 rfl) iX12_203 rfl vX12_readNumber ⟨_, rfl, rfl⟩ (ly12_o h0) (CX12_readNumber h0 h_r7) (by decide) rfl rfl (Nat.le_of_ble_eq_true rfl) ?_
    refine mx_if_ne (tgt := 55) (mx_d tX12_readCompare_0 25 rfl) (by decide) (fun hc8 => ?_) (fun hc8 => ?_)
    · rw [if_neg hc8] at h
      refine mx_aload_n (mx_d tX12_readCompare_0 28 rfl) rfl rfl ?_
      refine mx_aload_n (mx_d tX12_readCompare_0 29 rfl) rfl rfl ?_
      refine mx_bipush (50) (mx_d tX12_readCompare_0 30 rfl) (by decide) ?_
      refine mx_iload_n (mx_d tX12_readCompare_0 31 rfl) rfl rfl ?_
      refine mx_iadd (mx_d tX12_readCompare_0 32 rfl) ?_
      refine mx_iconst (0) (mx_d tX12_readCompare_0 33 rfl) (by decide) ?_
      refine mx_aload_n (mx_d tX12_readCompare_0 34 rfl) rfl rfl ?_
      refine mx_getI (mx_d tX12_readCompare_0 35 rfl) fX12_79 rfl (Or.inl rfl) (ly12_o h0) ?_
      refine mx_iload_n (mx_d tX12_readCompare_0 36 rfl) rfl rfl ?_
      obtain ⟨r9, h_r9, h⟩ := Option.bind_eq_some_iff.mp h
      refine mx_cVi (mx_d tX12_readCompare_0 37 rfl) iX12_488 rfl vX12_saysOne ⟨_, rfl, rfl⟩ (ly12_o h0) (CX12_saysOne h0 h_r9) (by decide) rfl rfl (Nat.le_of_ble_eq_true rfl) ?_
      obtain ⟨m10, e_m10, h⟩ := mx_letE h
      refine mx_putI (mx_d tX12_readCompare_0 38 rfl) fX12_485 rfl ⟨_, rfl, rfl⟩ rfl (ly12_o h0) (mx_eqz (z' := (e, m10)) (by rw [e_m10]) ?_)
      refine mx_iconst (1) (mx_d tX12_readCompare_0 39 rfl) (by decide) ?_
      obtain rfl := Option.some.inj h
      exact mx_zreturn (mx_d tX12_readCompare_0 40 rfl) rfl rfl ⟨rfl, rfl⟩
    · rw [if_pos hc8] at h
      refine mx_iconst (0) (mx_d tX12_readCompare_0 26 rfl) (by decide) ?_
      obtain rfl := Option.some.inj h
      exact mx_zreturn (mx_d tX12_readCompare_0 27 rfl) rfl rfl ⟨rfl, rfl⟩
  refine mx_if_ne (tgt := 33) (mx_d tX12_readCompare_0 3 rfl) (by decide) (fun hc2 => ?_) (fun hc2 => ?_)
  · rw [if_neg hc2] at h
    exact j_k4 h
  · rw [if_pos hc2] at h
    refine mx_aload_n (mx_d tX12_readCompare_0 4 rfl) rfl rfl ?_
    refine mx_bipush (61) (mx_d tX12_readCompare_0 5 rfl) (by decide) ?_
    obtain ⟨r11, h_r11, h⟩ := Option.bind_eq_some_iff.mp h
    refine mx_cVi (mx_d tX12_readCompare_0 6 rfl) iX12_86 rfl vX12_isSign ⟨_, rfl, rfl⟩ (ly12_o h0) (CX12_isSign h0 h_r11) (by decide) rfl rfl (Nat.le_of_ble_eq_true rfl) ?_
    refine mx_if_ne (tgt := 33) (mx_d tX12_readCompare_0 7 rfl) (by decide) (fun hc12 => ?_) (fun hc12 => ?_)
    · rw [if_neg hc12] at h
      exact j_k4 h
    · rw [if_pos hc12] at h
      refine mx_aload_n (mx_d tX12_readCompare_0 8 rfl) rfl rfl ?_
      refine mx_bipush (62) (mx_d tX12_readCompare_0 9 rfl) (by decide) ?_
      obtain ⟨r13, h_r13, h⟩ := Option.bind_eq_some_iff.mp h
      refine mx_cVi (mx_d tX12_readCompare_0 10 rfl) iX12_86 rfl vX12_isSign ⟨_, rfl, rfl⟩ (ly12_o h0) (CX12_isSign h0 h_r13) (by decide) rfl rfl (Nat.le_of_ble_eq_true rfl) ?_
      refine mx_if_ne (tgt := 33) (mx_d tX12_readCompare_0 11 rfl) (by decide) (fun hc14 => ?_) (fun hc14 => ?_)
      · rw [if_neg hc14] at h
        exact j_k4 h
      · rw [if_pos hc14] at h
        refine mx_aload_n (mx_d tX12_readCompare_0 12 rfl) rfl rfl ?_
        refine mx_iconst (1) (mx_d tX12_readCompare_0 13 rfl) (by decide) ?_
        obtain ⟨r15, h_r15, h⟩ := Option.bind_eq_some_iff.mp h
        refine mx_cVi (mx_d tX12_readCompare_0 14 rfl) iX12_72 rfl vX12_bad ⟨_, rfl, rfl⟩ (ly12_o h0) (CX12_bad h0 h_r15) (by decide) rfl rfl (Nat.le_of_ble_eq_true rfl) ?_
        obtain ⟨hb16, h⟩ := mx_chkE h
        obtain rfl := Option.some.inj h
        exact mx_zreturn (mx_d tX12_readCompare_0 15 rfl) rfl (mx_nb (mx_b01E hb16)) ⟨rfl, rfl⟩
def FX12_readSaid_L10 (rec : Nat → mB → Option (Int32 × mB)) (q0 : Nat) (y1 : Int32) (m : mB) : Nat → Int32 → Option (Int32)
  | 0, _ => none
  | f + 1, y2 => (if 21 < y2 then (some (y2)) else Option.bind (FX12_isWord q0 y2 m) (fun r3 => (if r3 = 0 then mx_let (y2 + 1) (fun v5 => (FX12_readSaid_L10 rec q0 y1 m f v5)) else (some (y2)))))
set_option maxRecDepth 20000 in
theorem CX12_readSaid_L10 {G : mG} {l : Launch} {e : mE} {Post : Option Value → mS → Prop} {rec : Nat → mB → Option (Int32 × mB)} {D : Nat} {q0 : Nat} {y1 : Int32} {m : mB} (hrec : ∀ {a : Nat} {m : mB} {r : (Int32 × mB)}, ly12 e a → rec a m = some r → mx_Call G l MX12_readSaid D 0 0 [.ref a] (e, m) (fun v z => v = some (.int r.1) ∧ z = (e, r.2))) (g0 : ly12 e q0) : ∀ (f : Nat) {y2 : Int32} {q : (Int32)}, FX12_readSaid_L10 rec q0 y1 m f y2 = some q → (mx_Fr G l MX12_readSaid (D + 7) 0 0 Post 30 [.ref q0, .int y1, .int q, .float 0] [] (e, m)) → mx_Fr G l MX12_readSaid (D + 7) 0 0 Post 10 [.ref q0, .int y1, .int y2, .float 0] [] (e, m) := by
  intro f
  induction f with
  | zero => intro _ _ h; cases h
  | succ f ih =>
    intro y2 q h hex
    rw [FX12_readSaid_L10] at h
    refine mx_iload_n (mx_d tX12_readSaid_0 6 rfl) rfl rfl ?_
    refine mx_bipush (21) (mx_d tX12_readSaid_0 7 rfl) (by decide) ?_
    refine mx_icmp_gt (tgt := 30) (mx_d tX12_readSaid_0 8 rfl) (by decide) (fun hc2 => ?_) (fun hc2 => ?_)
    · rw [if_pos hc2] at h
      obtain rfl := Option.some.inj h
      exact hex
    · rw [if_neg hc2] at h
      refine mx_aload_n (mx_d tX12_readSaid_0 9 rfl) rfl rfl ?_
      refine mx_iload_n (mx_d tX12_readSaid_0 10 rfl) rfl rfl ?_
      obtain ⟨r3, h_r3, h⟩ := Option.bind_eq_some_iff.mp h
      refine mx_cVi (mx_d tX12_readSaid_0 11 rfl) iX12_217 rfl vX12_isWord ⟨_, rfl, rfl⟩ (ly12_o g0) (CX12_isWord g0 h_r3) (by omega) rfl rfl (Nat.le_of_ble_eq_true rfl) ?_
      refine mx_if_ne (tgt := 30) (mx_d tX12_readSaid_0 12 rfl) (by decide) (fun hc4 => ?_) (fun hc4 => ?_)
      · rw [if_neg hc4] at h
        obtain rfl := Option.some.inj h
        exact hex
      · rw [if_pos hc4] at h
        obtain ⟨v5, e_v5, h⟩ := mx_letE h
        refine mx_iinc v5 (L2 := [.ref q0, .int y1, .int v5, .float 0]) (mx_d tX12_readSaid_0 13 rfl) rfl (by rw [e_v5]; rfl) (by decide) rfl ?_
        refine mx_goto (tgt := 10) (mx_d tX12_readSaid_0 14 rfl) (by decide) ?_
        exact ih h hex
def FX12_readSaid_B (rec : Nat → mB → Option (Int32 × mB)) (a : Nat) (m : mB) : Option (Int32 × mB) := Option.bind (FX12_isSign a 40 m) (fun r1 => Option.bind (FX12_readSaid_L10 rec a r1 m mx_FU 12) (fun q6 => mx_let (fun (m8 : mB) => (if (m8.1 a 59) = 20 then Option.bind (FX12_bad a 4 m8) (fun r11 => mx_chk (mx_b01 r11.1) ((some (r11.1, r11.2)))) else (if (m8.1 a 60) = 8 then Option.bind (FX12_bad a 4 m8) (fun r32 => mx_chk (mx_b01 r32.1) ((some (r32.1, r32.2)))) else mx_let (mx_up m8.1 a 59 ((m8.1 a 59) + 1), m8.2) (fun m14 => mx_let (mx_up m14.1 a 60 ((m14.1 a 60) + 1), m14.2) (fun m15 => Option.bind (FX12_go a m15) (fun r16 => mx_let (fun (y18 : Int32) (m19 : mB) => mx_let (mx_up m19.1 a 60 ((m19.1 a 60) - 1), m19.2) (fun m21 => mx_chk (mx_b01 y18) ((some (y18, m21))))) (fun k20 => (if r1 = 0 then (if q6 = 12 then Option.bind (FX12_readNot rec a r16) (fun r30 => (k20 r30.1 r30.2)) else (if 15 ≤ q6 then (if 18 ≤ q6 then Option.bind (FX12_readCompare a q6 r16) (fun r26 => (k20 r26.1 r26.2)) else Option.bind (FX12_readOf a q6 r16) (fun r27 => (k20 r27.1 r27.2))) else Option.bind (FX12_saysOne a (50 + q6) 0 0 0 r16) (fun r28 => mx_let (mx_up r28.2.1 a 61 r28.1, r28.2.2) (fun m29 => (k20 1 m29))))) else Option.bind (FX12_readBracket rec a r16) (fun r31 => (k20 r31.1 r31.2)))))))))) (fun k9 => (if r1 = 0 then (if q6 ≤ 21 then (k9 m) else Option.bind (FX12_bad a 1 m) (fun r35 => mx_chk (mx_b01 r35.1) ((some (r35.1, r35.2))))) else (k9 m)))))
def FX12_readSaid : Nat → Nat → mB → Option (Int32 × mB)
  | 0, _, _ => none
  | D + 1, a, m => FX12_readSaid_B (FX12_readSaid D) a m
set_option maxRecDepth 20000 in
theorem CX12_readSaid_B {G : mG} {l : Launch} {e : mE} {rec : Nat → mB → Option (Int32 × mB)} {D : Nat} {a : Nat} {m : mB} {r : (Int32 × mB)} (hrec : ∀ {a : Nat} {m : mB} {r : (Int32 × mB)}, ly12 e a → rec a m = some r → mx_Call G l MX12_readSaid D 0 0 [.ref a] (e, m) (fun v z => v = some (.int r.1) ∧ z = (e, r.2))) (h0 : ly12 e a) (h : FX12_readSaid_B rec a m = some r) : mx_Call G l MX12_readSaid (D + 7) 0 0 [.ref a] (e, m) (fun v z => v = some (.int r.1) ∧ z = (e, r.2)) := by
  refine mx_entry (L := [.ref a, .float 0, .float 0, .float 0]) (by decide +kernel) (Nat.le_of_ble_eq_true rfl) rfl ?_
  unfold FX12_readSaid_B at h
  refine mx_aload_n (mx_d tX12_readSaid_0 0 rfl) rfl rfl ?_
  refine mx_bipush (40) (mx_d tX12_readSaid_0 1 rfl) (by decide) ?_
  obtain ⟨r1, h_r1, h⟩ := Option.bind_eq_some_iff.mp h
  refine mx_cVi (mx_d tX12_readSaid_0 2 rfl) iX12_86 rfl vX12_isSign ⟨_, rfl, rfl⟩ (ly12_o h0) (CX12_isSign h0 h_r1) (by omega) rfl rfl (Nat.le_of_ble_eq_true rfl) ?_
  refine mx_istore_n (L2 := [.ref a, .int r1, .float 0, .float 0]) (mx_d tX12_readSaid_0 3 rfl) rfl (by decide) (by rfl) ?_
  refine mx_bipush (12) (mx_d tX12_readSaid_0 4 rfl) (by decide) ?_
  refine mx_istore_n (L2 := [.ref a, .int r1, .int 12, .float 0]) (mx_d tX12_readSaid_0 5 rfl) rfl (by decide) (by rfl) ?_
  obtain ⟨q6, h_q6, h⟩ := Option.bind_eq_some_iff.mp h
  refine CX12_readSaid_L10 hrec h0 mx_FU h_q6 ?_
  refine mx_iload_n (mx_d tX12_readSaid_0 15 rfl) rfl rfl ?_
  refine mx_letK (J := fun k9 => ∀ {m8 : mB}, k9 m8 = some r → mx_Fr G l MX12_readSaid (D + 7) 0 0 (fun v z => v = some (.int r.1) ∧ z = (e, r.2)) 46 [.ref a, .int r1, .int q6, .float 0] [] (e, m8)) h ?_ (fun k9 j_k9 h => ?_)
  · intro m8 h
    dsimp only at h
    refine mx_aload_n (mx_d tX12_readSaid_0 24 rfl) rfl rfl ?_
    refine mx_getI (mx_d tX12_readSaid_0 25 rfl) fX12_494 rfl (Or.inl rfl) (ly12_o h0) ?_
    refine mx_bipush (20) (mx_d tX12_readSaid_0 26 rfl) (by decide) ?_
    refine mx_icmp_eq (tgt := 64) (mx_d tX12_readSaid_0 27 rfl) (by decide) (fun hc10 => ?_) (fun hc10 => ?_)
    · rw [if_pos hc10] at h
      refine mx_aload_n (mx_d tX12_readSaid_0 32 rfl) rfl rfl ?_
      refine mx_iconst (4) (mx_d tX12_readSaid_0 33 rfl) (by decide) ?_
      obtain ⟨r11, h_r11, h⟩ := Option.bind_eq_some_iff.mp h
      refine mx_cVi (mx_d tX12_readSaid_0 34 rfl) iX12_72 rfl vX12_bad ⟨_, rfl, rfl⟩ (ly12_o h0) (CX12_bad h0 h_r11) (by omega) rfl rfl (Nat.le_of_ble_eq_true rfl) ?_
      obtain ⟨hb12, h⟩ := mx_chkE h
      obtain rfl := Option.some.inj h
      exact mx_zreturn (mx_d tX12_readSaid_0 35 rfl) rfl (mx_nb (mx_b01E hb12)) ⟨rfl, rfl⟩
    · rw [if_neg hc10] at h
      refine mx_aload_n (mx_d tX12_readSaid_0 28 rfl) rfl rfl ?_
      refine mx_getI (mx_d tX12_readSaid_0 29 rfl) fX12_497 rfl (Or.inl rfl) (ly12_o h0) ?_
      refine mx_bipush (8) (mx_d tX12_readSaid_0 30 rfl) (by decide) ?_
      refine mx_icmp_ne (tgt := 70) (mx_d tX12_readSaid_0 31 rfl) (by decide) (fun hc13 => ?_) (fun hc13 => ?_)
      · rw [if_neg hc13] at h
        refine mx_aload_n (mx_d tX12_readSaid_0 36 rfl) rfl rfl ?_
        refine mx_dup (mx_d tX12_readSaid_0 37 rfl) rfl ?_
        refine mx_getI (mx_d tX12_readSaid_0 38 rfl) fX12_494 rfl (Or.inl rfl) (ly12_o h0) ?_
        refine mx_iconst (1) (mx_d tX12_readSaid_0 39 rfl) (by decide) ?_
        refine mx_iadd (mx_d tX12_readSaid_0 40 rfl) ?_
        obtain ⟨m14, e_m14, h⟩ := mx_letE h
        refine mx_putI (mx_d tX12_readSaid_0 41 rfl) fX12_494 rfl ⟨_, rfl, rfl⟩ rfl (ly12_o h0) (mx_eqz (z' := (e, m14)) (by rw [e_m14]) ?_)
        refine mx_aload_n (mx_d tX12_readSaid_0 42 rfl) rfl rfl ?_
        refine mx_dup (mx_d tX12_readSaid_0 43 rfl) rfl ?_
        refine mx_getI (mx_d tX12_readSaid_0 44 rfl) fX12_497 rfl (Or.inl rfl) (ly12_o h0) ?_
        refine mx_iconst (1) (mx_d tX12_readSaid_0 45 rfl) (by decide) ?_
        refine mx_iadd (mx_d tX12_readSaid_0 46 rfl) ?_
        obtain ⟨m15, e_m15, h⟩ := mx_letE h
        refine mx_putI (mx_d tX12_readSaid_0 47 rfl) fX12_497 rfl ⟨_, rfl, rfl⟩ rfl (ly12_o h0) (mx_eqz (z' := (e, m15)) (by rw [e_m15]) ?_)
        refine mx_aload_n (mx_d tX12_readSaid_0 48 rfl) rfl rfl ?_
        obtain ⟨r16, h_r16, h⟩ := Option.bind_eq_some_iff.mp h
        refine mx_cVv (mx_d tX12_readSaid_0 49 rfl) iX12_82 rfl vX12_go ⟨_, rfl, rfl⟩ (ly12_o h0) (CX12_go h0 h_r16) (by omega) rfl rfl (Nat.le_of_ble_eq_true rfl) ?_
        refine mx_iconst (1) (mx_d tX12_readSaid_0 50 rfl) (by decide) ?_
        refine mx_istore_n (L2 := [.ref a, .int r1, .int q6, .int 1]) (mx_d tX12_readSaid_0 51 rfl) rfl (by decide) (by rfl) ?_
        refine mx_iload_n (mx_d tX12_readSaid_0 52 rfl) rfl rfl ?_
        refine mx_letK (J := fun k20 => ∀ {y18 : Int32} {m19 : mB}, k20 y18 m19 = some r → mx_Fr G l MX12_readSaid (D + 7) 0 0 (fun v z => v = some (.int r.1) ∧ z = (e, r.2)) 166 [.ref a, .float 0, .float 0, .int y18] [] (e, m19)) h ?_ (fun k20 j_k20 h => ?_)
        · intro y18 m19 h
          dsimp only at h
          refine mx_aload_n (mx_d tX12_readSaid_1 30 rfl) rfl rfl ?_
          refine mx_dup (mx_d tX12_readSaid_1 31 rfl) rfl ?_
          refine mx_getI (mx_d tX12_readSaid_1 32 rfl) fX12_497 rfl (Or.inl rfl) (ly12_o h0) ?_
          refine mx_iconst (1) (mx_d tX12_readSaid_1 33 rfl) (by decide) ?_
          refine mx_isub (mx_d tX12_readSaid_1 34 rfl) ?_
          obtain ⟨m21, e_m21, h⟩ := mx_letE h
          refine mx_putI (mx_d tX12_readSaid_1 35 rfl) fX12_497 rfl ⟨_, rfl, rfl⟩ rfl (ly12_o h0) (mx_eqz (z' := (e, m21)) (by rw [e_m21]) ?_)
          refine mx_iload_n (mx_d tX12_readSaid_1 36 rfl) rfl rfl ?_
          obtain ⟨hb22, h⟩ := mx_chkE h
          obtain rfl := Option.some.inj h
          exact mx_zreturn (mx_d tX12_readSaid_1 37 rfl) rfl (mx_nb (mx_b01E hb22)) ⟨rfl, rfl⟩
        refine mx_if_eq (tgt := 108) (mx_d tX12_readSaid_0 53 rfl) (by decide) (fun hc17 => ?_) (fun hc17 => ?_)
        · rw [if_pos hc17] at h
          refine mx_iload_n (mx_d tX12_readSaid_0 58 rfl) rfl rfl ?_
          refine mx_bipush (12) (mx_d tX12_readSaid_0 59 rfl) (by decide) ?_
          refine mx_icmp_ne (tgt := 122) (mx_d tX12_readSaid_1 0 rfl) (by decide) (fun hc23 => ?_) (fun hc23 => ?_)
          · rw [if_neg hc23] at h
            refine mx_iload_n (mx_d tX12_readSaid_1 5 rfl) rfl rfl ?_
            refine mx_bipush (15) (mx_d tX12_readSaid_1 6 rfl) (by decide) ?_
            refine mx_icmp_ge (tgt := 146) (mx_d tX12_readSaid_1 7 rfl) (by decide) (fun hc24 => ?_) (fun hc24 => ?_)
            · rw [if_pos hc24] at h
              refine mx_iload_n (mx_d tX12_readSaid_1 19 rfl) rfl rfl ?_
              refine mx_bipush (18) (mx_d tX12_readSaid_1 20 rfl) (by decide) ?_
              refine mx_icmp_ge (tgt := 160) (mx_d tX12_readSaid_1 21 rfl) (by decide) (fun hc25 => ?_) (fun hc25 => ?_)
              · rw [if_pos hc25] at h
                refine mx_aload_n (mx_d tX12_readSaid_1 26 rfl) rfl rfl ?_
                refine mx_iload_n (mx_d tX12_readSaid_1 27 rfl) rfl rfl ?_
                obtain ⟨r26, h_r26, h⟩ := Option.bind_eq_some_iff.mp h
                refine mx_cVi (mx_d tX12_readSaid_1 28 rfl) iX12_509 rfl vX12_readCompare ⟨_, rfl, rfl⟩ (ly12_o h0) (CX12_readCompare h0 h_r26) (by omega) rfl rfl (Nat.le_of_ble_eq_true rfl) ?_
                refine mx_istore_n (L2 := [.ref a, .int r1, .int q6, .int r26.1]) (mx_d tX12_readSaid_1 29 rfl) rfl (by decide) (by rfl) ?_
                refine mx_forget (L' := [.ref a, .float 0, .float 0, .int r26.1]) ⟨rfl, rfl, trivial⟩ ?_
                exact j_k20 h
              · rw [if_neg hc25] at h
                refine mx_aload_n (mx_d tX12_readSaid_1 22 rfl) rfl rfl ?_
                refine mx_iload_n (mx_d tX12_readSaid_1 23 rfl) rfl rfl ?_
                obtain ⟨r27, h_r27, h⟩ := Option.bind_eq_some_iff.mp h
                refine mx_cVi (mx_d tX12_readSaid_1 24 rfl) iX12_506 rfl vX12_readOf ⟨_, rfl, rfl⟩ (ly12_o h0) (CX12_readOf h0 h_r27) (by omega) rfl rfl (Nat.le_of_ble_eq_true rfl) ?_
                refine mx_goto (tgt := 165) (mx_d tX12_readSaid_1 25 rfl) (by decide) ?_
                refine mx_istore_n (L2 := [.ref a, .int r1, .int q6, .int r27.1]) (mx_d tX12_readSaid_1 29 rfl) rfl (by decide) (by rfl) ?_
                refine mx_forget (L' := [.ref a, .float 0, .float 0, .int r27.1]) ⟨rfl, rfl, trivial⟩ ?_
                exact j_k20 h
            · rw [if_neg hc24] at h
              refine mx_aload_n (mx_d tX12_readSaid_1 8 rfl) rfl rfl ?_
              refine mx_aload_n (mx_d tX12_readSaid_1 9 rfl) rfl rfl ?_
              refine mx_bipush (50) (mx_d tX12_readSaid_1 10 rfl) (by decide) ?_
              refine mx_iload_n (mx_d tX12_readSaid_1 11 rfl) rfl rfl ?_
              refine mx_iadd (mx_d tX12_readSaid_1 12 rfl) ?_
              refine mx_iconst (0) (mx_d tX12_readSaid_1 13 rfl) (by decide) ?_
              refine mx_iconst (0) (mx_d tX12_readSaid_1 14 rfl) (by decide) ?_
              refine mx_iconst (0) (mx_d tX12_readSaid_1 15 rfl) (by decide) ?_
              obtain ⟨r28, h_r28, h⟩ := Option.bind_eq_some_iff.mp h
              refine mx_cVi (mx_d tX12_readSaid_1 16 rfl) iX12_488 rfl vX12_saysOne ⟨_, rfl, rfl⟩ (ly12_o h0) (CX12_saysOne h0 h_r28) (by omega) rfl rfl (Nat.le_of_ble_eq_true rfl) ?_
              obtain ⟨m29, e_m29, h⟩ := mx_letE h
              refine mx_putI (mx_d tX12_readSaid_1 17 rfl) fX12_485 rfl ⟨_, rfl, rfl⟩ rfl (ly12_o h0) (mx_eqz (z' := (e, m29)) (by rw [e_m29]) ?_)
              refine mx_goto (tgt := 166) (mx_d tX12_readSaid_1 18 rfl) (by decide) ?_
              refine mx_forget (L' := [.ref a, .float 0, .float 0, .int 1]) ⟨rfl, rfl, trivial⟩ ?_
              exact j_k20 h
          · rw [if_pos hc23] at h
            refine mx_aload_n (mx_d tX12_readSaid_1 1 rfl) rfl rfl ?_
            obtain ⟨r30, h_r30, h⟩ := Option.bind_eq_some_iff.mp h
            refine mx_cVi (mx_d tX12_readSaid_1 2 rfl) iX12_503 rfl vX12_readNot ⟨_, rfl, rfl⟩ (ly12_o h0) (CX12_readNot hrec h0 h_r30) (by omega) rfl rfl (Nat.le_of_ble_eq_true rfl) ?_
            refine mx_istore_n (L2 := [.ref a, .int r1, .int q6, .int r30.1]) (mx_d tX12_readSaid_1 3 rfl) rfl (by decide) (by rfl) ?_
            refine mx_goto (tgt := 166) (mx_d tX12_readSaid_1 4 rfl) (by decide) ?_
            refine mx_forget (L' := [.ref a, .float 0, .float 0, .int r30.1]) ⟨rfl, rfl, trivial⟩ ?_
            exact j_k20 h
        · rw [if_neg hc17] at h
          refine mx_aload_n (mx_d tX12_readSaid_0 54 rfl) rfl rfl ?_
          obtain ⟨r31, h_r31, h⟩ := Option.bind_eq_some_iff.mp h
          refine mx_cVi (mx_d tX12_readSaid_0 55 rfl) iX12_500 rfl vX12_readBracket ⟨_, rfl, rfl⟩ (ly12_o h0) (CX12_readBracket hrec h0 h_r31) (by omega) rfl rfl (Nat.le_of_ble_eq_true rfl) ?_
          refine mx_istore_n (L2 := [.ref a, .int r1, .int q6, .int r31.1]) (mx_d tX12_readSaid_0 56 rfl) rfl (by decide) (by rfl) ?_
          refine mx_goto (tgt := 166) (mx_d tX12_readSaid_0 57 rfl) (by decide) ?_
          refine mx_forget (L' := [.ref a, .float 0, .float 0, .int r31.1]) ⟨rfl, rfl, trivial⟩ ?_
          exact j_k20 h
      · rw [if_pos hc13] at h
        refine mx_aload_n (mx_d tX12_readSaid_0 32 rfl) rfl rfl ?_
        refine mx_iconst (4) (mx_d tX12_readSaid_0 33 rfl) (by decide) ?_
        obtain ⟨r32, h_r32, h⟩ := Option.bind_eq_some_iff.mp h
        refine mx_cVi (mx_d tX12_readSaid_0 34 rfl) iX12_72 rfl vX12_bad ⟨_, rfl, rfl⟩ (ly12_o h0) (CX12_bad h0 h_r32) (by omega) rfl rfl (Nat.le_of_ble_eq_true rfl) ?_
        obtain ⟨hb33, h⟩ := mx_chkE h
        obtain rfl := Option.some.inj h
        exact mx_zreturn (mx_d tX12_readSaid_0 35 rfl) rfl (mx_nb (mx_b01E hb33)) ⟨rfl, rfl⟩
  refine mx_if_ne (tgt := 46) (mx_d tX12_readSaid_0 16 rfl) (by decide) (fun hc7 => ?_) (fun hc7 => ?_)
  · rw [if_neg hc7] at h
    exact j_k9 h
  · rw [if_pos hc7] at h
    refine mx_iload_n (mx_d tX12_readSaid_0 17 rfl) rfl rfl ?_
    refine mx_bipush (21) (mx_d tX12_readSaid_0 18 rfl) (by decide) ?_
    refine mx_icmp_le (tgt := 46) (mx_d tX12_readSaid_0 19 rfl) (by decide) (fun hc34 => ?_) (fun hc34 => ?_)
    · rw [if_pos hc34] at h
      exact j_k9 h
    · rw [if_neg hc34] at h
      refine mx_aload_n (mx_d tX12_readSaid_0 20 rfl) rfl rfl ?_
      refine mx_iconst (1) (mx_d tX12_readSaid_0 21 rfl) (by decide) ?_
      obtain ⟨r35, h_r35, h⟩ := Option.bind_eq_some_iff.mp h
      refine mx_cVi (mx_d tX12_readSaid_0 22 rfl) iX12_72 rfl vX12_bad ⟨_, rfl, rfl⟩ (ly12_o h0) (CX12_bad h0 h_r35) (by omega) rfl rfl (Nat.le_of_ble_eq_true rfl) ?_
      obtain ⟨hb36, h⟩ := mx_chkE h
      obtain rfl := Option.some.inj h
      exact mx_zreturn (mx_d tX12_readSaid_0 23 rfl) rfl (mx_nb (mx_b01E hb36)) ⟨rfl, rfl⟩
theorem CX12_readSaid {G : mG} {l : Launch} {e : mE} : ∀ (D : Nat) {a : Nat} {m : mB} {r : (Int32 × mB)}, ly12 e a → FX12_readSaid D a m = some r → mx_Call G l MX12_readSaid (7 * D) 0 0 [.ref a] (e, m) (fun v z => v = some (.int r.1) ∧ z = (e, r.2)) := by
  intro D
  induction D with
  | zero => intro _ _ _ _ h; cases h
  | succ D ih =>
    intro a m r h0 h
    rw [FX12_readSaid] at h
    have hh := CX12_readSaid_B (rec := FX12_readSaid D) (D := 7 * D) (fun {_} {_} {_} zh0 hz => ih zh0 hz) h0 h
    rw [show 7 * (D + 1) = 7 * D + 7 by omega]
    exact hh
def FX12_sentence_L79 (q0 : Nat) : Nat → Int32 → mB → Option (mB)
  | 0, _, _ => none
  | f + 1, y1, m => (if 240 ≤ y1 then (some (m)) else mx_chk (mx_inb y1 240) (mx_chk (mx_inb (192 + y1) 432) (mx_let (mx_up m.1 (q0 + 2) (Int32.toNatClampNeg (192 + y1)) (m.1 (q0 + 26) (Int32.toNatClampNeg y1)), m.2) (fun m12 => mx_let (y1 + 1) (fun v14 => (FX12_sentence_L79 q0 f v14 m12))))))
set_option maxRecDepth 20000 in
theorem CX12_sentence_L79 {G : mG} {l : Launch} {e : mE} {Post : Option Value → mS → Prop} {q0 : Nat} (g0 : ly12 e q0) : ∀ (f : Nat) {y1 : Int32} {m : mB} {q : (mB)}, FX12_sentence_L79 q0 f y1 m = some q → (mx_Fr G l MX12_sentence 454 0 0 Post 108 [.ref q0, .float 0] [] (e, q)) → mx_Fr G l MX12_sentence 454 0 0 Post 79 [.ref q0, .int y1] [] (e, m) := by
  intro f
  induction f with
  | zero => intro _ _ _ h; cases h
  | succ f ih =>
    intro y1 m q h hex
    rw [FX12_sentence_L79] at h
    refine mx_iload_n (mx_d tX12_sentence_0 45 rfl) rfl rfl ?_
    refine mx_sipush (240) (mx_d tX12_sentence_0 46 rfl) (by decide) ?_
    refine mx_icmp_ge (tgt := 108) (mx_d tX12_sentence_0 47 rfl) (by decide) (fun hc10 => ?_) (fun hc10 => ?_)
    · rw [if_pos hc10] at h
      obtain rfl := Option.some.inj h
      refine mx_forget (L' := [.ref q0, .float 0]) ⟨rfl, trivial⟩ ?_
      exact hex
    · rw [if_neg hc10] at h
      refine mx_aload_n (mx_d tX12_sentence_0 48 rfl) rfl rfl ?_
      refine mx_getR (mx_d tX12_sentence_0 49 rfl) fX12_98 rfl rfl (ly12_o g0) (ly12_r14 g0) ?_
      refine mx_sipush (192) (mx_d tX12_sentence_0 50 rfl) (by decide) ?_
      refine mx_iload_n (mx_d tX12_sentence_0 51 rfl) rfl rfl ?_
      refine mx_iadd (mx_d tX12_sentence_0 52 rfl) ?_
      refine mx_aload_n (mx_d tX12_sentence_0 53 rfl) rfl rfl ?_
      refine mx_getR (mx_d tX12_sentence_0 54 rfl) fX12_178 rfl rfl (ly12_o g0) (ly12_r57 g0) ?_
      refine mx_iload_n (mx_d tX12_sentence_0 55 rfl) rfl rfl ?_
      obtain ⟨hi11, h⟩ := mx_chkE h
      refine mx_iaload (mx_d tX12_sentence_0 56 rfl) (ly12_s57 g0) (mx_inbE hi11) ?_
      obtain ⟨hi13, h⟩ := mx_chkE h
      obtain ⟨m12, e_m12, h⟩ := mx_letE h
      refine mx_iastore (mx_d tX12_sentence_0 57 rfl) (ly12_s14 g0) (mx_inbE hi13) (mx_eqz (z' := (e, m12)) (by rw [e_m12]) ?_)
      obtain ⟨v14, e_v14, h⟩ := mx_letE h
      refine mx_iinc v14 (L2 := [.ref q0, .int v14]) (mx_d tX12_sentence_0 58 rfl) rfl (by rw [e_v14]; rfl) (by decide) rfl ?_
      refine mx_goto (tgt := 79) (mx_d tX12_sentence_0 59 rfl) (by decide) ?_
      exact ih h hex
def FX12_sentence (a : Nat) (m : mB) : Option (Int32 × mB) := Option.bind (FX12_begin a 200 m) (fun r1 => mx_let (mx_up r1.1 a 58 0, r1.2) (fun m2 => mx_let (mx_up m2.1 a 59 0, m2.2) (fun m3 => mx_let (mx_up m3.1 a 60 0, m3.2) (fun m4 => Option.bind (FX12_readOr (FX12_readSaid 64) a m4) (fun r5 => (if r5.1 = 0 then (some (((-1) - (r5.2.1 a 11)), r5.2)) else (if (r5.2.1 a 7) = 0 then mx_let (mx_up r5.2.1 (a + 2) 190 1, r5.2.2) (fun m8 => mx_let (mx_up m8.1 (a + 2) 191 (m8.1 a 61), m8.2) (fun m9 => Option.bind (FX12_sentence_L79 a mx_FU 0 m9) (fun q15 => (some ((q15.1 a 59), q15))))) else Option.bind (FX12_bad a 1 r5.2) (fun r16 => (some (((-1) - (r16.2.1 a 11)), r16.2))))))))))
set_option maxRecDepth 20000 in
theorem CX12_sentence {G : mG} {l : Launch} {e : mE} {a : Nat} {m : mB} {r : (Int32 × mB)} (h0 : ly12 e a) (h : FX12_sentence a m = some r) : mx_Call G l MX12_sentence 454 0 0 [.ref a] (e, m) (fun v z => v = some (.int r.1) ∧ z = (e, r.2)) := by
  refine mx_entry (L := [.ref a, .float 0]) (by decide +kernel) (Nat.le_of_ble_eq_true rfl) rfl ?_
  unfold FX12_sentence at h
  refine mx_aload_n (mx_d tX12_sentence_0 0 rfl) rfl rfl ?_
  refine mx_sipush (200) (mx_d tX12_sentence_0 1 rfl) (by decide) ?_
  obtain ⟨r1, h_r1, h⟩ := Option.bind_eq_some_iff.mp h
  refine mx_cVv (mx_d tX12_sentence_0 2 rfl) iX12_235 rfl vX12_begin ⟨_, rfl, rfl⟩ (ly12_o h0) (CX12_begin h0 h_r1) (by decide) rfl rfl (Nat.le_of_ble_eq_true rfl) ?_
  refine mx_aload_n (mx_d tX12_sentence_0 3 rfl) rfl rfl ?_
  refine mx_iconst (0) (mx_d tX12_sentence_0 4 rfl) (by decide) ?_
  obtain ⟨m2, e_m2, h⟩ := mx_letE h
  refine mx_putI (mx_d tX12_sentence_0 5 rfl) fX12_479 rfl ⟨_, rfl, rfl⟩ rfl (ly12_o h0) (mx_eqz (z' := (e, m2)) (by rw [e_m2]) ?_)
  refine mx_aload_n (mx_d tX12_sentence_0 6 rfl) rfl rfl ?_
  refine mx_iconst (0) (mx_d tX12_sentence_0 7 rfl) (by decide) ?_
  obtain ⟨m3, e_m3, h⟩ := mx_letE h
  refine mx_putI (mx_d tX12_sentence_0 8 rfl) fX12_494 rfl ⟨_, rfl, rfl⟩ rfl (ly12_o h0) (mx_eqz (z' := (e, m3)) (by rw [e_m3]) ?_)
  refine mx_aload_n (mx_d tX12_sentence_0 9 rfl) rfl rfl ?_
  refine mx_iconst (0) (mx_d tX12_sentence_0 10 rfl) (by decide) ?_
  obtain ⟨m4, e_m4, h⟩ := mx_letE h
  refine mx_putI (mx_d tX12_sentence_0 11 rfl) fX12_497 rfl ⟨_, rfl, rfl⟩ rfl (ly12_o h0) (mx_eqz (z' := (e, m4)) (by rw [e_m4]) ?_)
  refine mx_aload_n (mx_d tX12_sentence_0 12 rfl) rfl rfl ?_
  obtain ⟨r5, h_r5, h⟩ := Option.bind_eq_some_iff.mp h
  refine mx_cVi (mx_d tX12_sentence_0 13 rfl) iX12_512 rfl vX12_readOr ⟨_, rfl, rfl⟩ (ly12_o h0) (CX12_readOr (CX12_readSaid 64) h0 h_r5) (by decide) rfl rfl (Nat.le_of_ble_eq_true rfl) ?_
  refine mx_if_ne (tgt := 36) (mx_d tX12_sentence_0 14 rfl) (by decide) (fun hc6 => ?_) (fun hc6 => ?_)
  · rw [if_neg hc6] at h
    refine mx_aload_n (mx_d tX12_sentence_0 20 rfl) rfl rfl ?_
    refine mx_getI (mx_d tX12_sentence_0 21 rfl) fX12_30 rfl (Or.inl rfl) (ly12_o h0) ?_
    refine mx_if_eq (tgt := 56) (mx_d tX12_sentence_0 22 rfl) (by decide) (fun hc7 => ?_) (fun hc7 => ?_)
    · rw [if_pos hc7] at h
      refine mx_aload_n (mx_d tX12_sentence_0 32 rfl) rfl rfl ?_
      refine mx_getR (mx_d tX12_sentence_0 33 rfl) fX12_98 rfl rfl (ly12_o h0) (ly12_r14 h0) ?_
      refine mx_sipush (190) (mx_d tX12_sentence_0 34 rfl) (by decide) ?_
      refine mx_iconst (1) (mx_d tX12_sentence_0 35 rfl) (by decide) ?_
      obtain ⟨m8, e_m8, h⟩ := mx_letE h
      refine mx_iastoreC 190 (mx_d tX12_sentence_0 36 rfl) (ly12_s14 h0) (by decide) (mx_inbE (by decide)) (mx_eqz (z' := (e, m8)) (by rw [e_m8]) ?_)
      refine mx_aload_n (mx_d tX12_sentence_0 37 rfl) rfl rfl ?_
      refine mx_getR (mx_d tX12_sentence_0 38 rfl) fX12_98 rfl rfl (ly12_o h0) (ly12_r14 h0) ?_
      refine mx_sipush (191) (mx_d tX12_sentence_0 39 rfl) (by decide) ?_
      refine mx_aload_n (mx_d tX12_sentence_0 40 rfl) rfl rfl ?_
      refine mx_getI (mx_d tX12_sentence_0 41 rfl) fX12_485 rfl (Or.inl rfl) (ly12_o h0) ?_
      obtain ⟨m9, e_m9, h⟩ := mx_letE h
      refine mx_iastoreC 191 (mx_d tX12_sentence_0 42 rfl) (ly12_s14 h0) (by decide) (mx_inbE (by decide)) (mx_eqz (z' := (e, m9)) (by rw [e_m9]) ?_)
      refine mx_iconst (0) (mx_d tX12_sentence_0 43 rfl) (by decide) ?_
      refine mx_istore_n (L2 := [.ref a, .int 0]) (mx_d tX12_sentence_0 44 rfl) rfl (by decide) (by rfl) ?_
      obtain ⟨q15, h_q15, h⟩ := Option.bind_eq_some_iff.mp h
      refine CX12_sentence_L79 h0 mx_FU h_q15 ?_
      refine mx_aload_n (mx_d tX12_sentence_1 0 rfl) rfl rfl ?_
      refine mx_getI (mx_d tX12_sentence_1 1 rfl) fX12_494 rfl (Or.inl rfl) (ly12_o h0) ?_
      obtain rfl := Option.some.inj h
      exact mx_ireturn (mx_d tX12_sentence_1 2 rfl) rfl ⟨rfl, rfl⟩
    · rw [if_neg hc7] at h
      refine mx_aload_n (mx_d tX12_sentence_0 23 rfl) rfl rfl ?_
      refine mx_iconst (1) (mx_d tX12_sentence_0 24 rfl) (by decide) ?_
      obtain ⟨r16, h_r16, h⟩ := Option.bind_eq_some_iff.mp h
      refine mx_cVi (mx_d tX12_sentence_0 25 rfl) iX12_72 rfl vX12_bad ⟨_, rfl, rfl⟩ (ly12_o h0) (CX12_bad h0 h_r16) (by decide) rfl rfl (Nat.le_of_ble_eq_true rfl) ?_
      refine mx_pop (mx_d tX12_sentence_0 26 rfl) rfl ?_
      refine mx_iconst ((-1)) (mx_d tX12_sentence_0 27 rfl) (by decide) ?_
      refine mx_aload_n (mx_d tX12_sentence_0 28 rfl) rfl rfl ?_
      refine mx_getI (mx_d tX12_sentence_0 29 rfl) fX12_69 rfl (Or.inl rfl) (ly12_o h0) ?_
      refine mx_isub (mx_d tX12_sentence_0 30 rfl) ?_
      obtain rfl := Option.some.inj h
      exact mx_ireturn (mx_d tX12_sentence_0 31 rfl) rfl ⟨rfl, rfl⟩
  · rw [if_pos hc6] at h
    refine mx_iconst ((-1)) (mx_d tX12_sentence_0 15 rfl) (by decide) ?_
    refine mx_aload_n (mx_d tX12_sentence_0 16 rfl) rfl rfl ?_
    refine mx_getI (mx_d tX12_sentence_0 17 rfl) fX12_69 rfl (Or.inl rfl) (ly12_o h0) ?_
    refine mx_isub (mx_d tX12_sentence_0 18 rfl) ?_
    obtain rfl := Option.some.inj h
    exact mx_ireturn (mx_d tX12_sentence_0 19 rfl) rfl ⟨rfl, rfl⟩
def FX12_holds_B (rec : Nat → Int32 → Int32 → mB → Option Int32) (a : Nat) (x0 : Int32) (x1 : Int32) (m : mB) : Option Int32 := mx_let (192 + (4 * x0)) (fun v1 => mx_chk (mx_inb (v1 + 1) 432) (mx_let (m.1 (a + 2) (Int32.toNatClampNeg (v1 + 1))) (fun v3 => mx_chk (mx_inb (v1 + 2) 432) (mx_let (m.1 (a + 2) (Int32.toNatClampNeg (v1 + 2))) (fun v5 => mx_chk (mx_inb v1 432) ((if (m.1 (a + 2) (Int32.toNatClampNeg v1)) = 1 then Option.bind (rec a v3 x1 m) (fun r8 => (if r8 = 0 then (some 1) else (some 0))) else if (m.1 (a + 2) (Int32.toNatClampNeg v1)) = 2 then Option.bind (rec a v3 x1 m) (fun r11 => (if r11 = 0 then (some 0) else Option.bind (rec a v5 x1 m) (fun r13 => (if r13 = 0 then (some 0) else (some 1))))) else if (m.1 (a + 2) (Int32.toNatClampNeg v1)) = 3 then Option.bind (rec a v3 x1 m) (fun r16 => (if r16 = 0 then Option.bind (rec a v5 x1 m) (fun r18 => (if r18 = 0 then (some 0) else (some 1))) else (some 1))) else if (m.1 (a + 2) (Int32.toNatClampNeg v1)) = 63 then Option.bind (FX12_isLone a x1 m) (fun r21 => mx_chk (mx_b01 r21) ((some r21))) else if (m.1 (a + 2) (Int32.toNatClampNeg v1)) = 64 then Option.bind (FX12_partners a x1 1 m) (fun r24 => (if r24 = 0 then (some 0) else (some 1))) else if (m.1 (a + 2) (Int32.toNatClampNeg v1)) = 65 then Option.bind (FX12_arePaired a x1 v3 m) (fun r27 => mx_chk (mx_b01 r27) ((some r27))) else if (m.1 (a + 2) (Int32.toNatClampNeg v1)) = 66 then Option.bind (FX12_areLinked a x1 v3 m) (fun r30 => mx_chk (mx_b01 r30) ((some r30))) else if (m.1 (a + 2) (Int32.toNatClampNeg v1)) = 67 then Option.bind (FX12_isOdd a v3 m) (fun r33 => (if r33 = 0 then (some 0) else mx_chk (mx_inb (178 + v3) 432) (Option.bind (FX12_has (m.1 (a + 2) (Int32.toNatClampNeg (178 + v3))) x1 m) (fun r36 => (if r36 = 0 then (some 0) else (some 1)))))) else mx_let ((m.1 (a + 2) (Int32.toNatClampNeg v1)) - 50) (fun v38 => (if v38 = 18 then mx_chk (mx_inb (168 + x1) 432) (mx_let (m.1 (a + 2) (Int32.toNatClampNeg (168 + x1))) (fun v64 => mx_chk (mx_inb (v1 + 3) 432) ((if (m.1 (a + 2) (Int32.toNatClampNeg (v1 + 3))) = 60 then (if v5 ≤ v64 then (some 0) else (some 1)) else (if (m.1 (a + 2) (Int32.toNatClampNeg (v1 + 3))) = 61 then (if v64 = v5 then (some 1) else (some 0)) else (if v64 ≤ v5 then (some 0) else (some 1))))))) else (if v38 = 19 then Option.bind (FX12_partners a x1 0 m) (fun r55 => Option.bind (FX12_bits r55 m) (fun r56 => mx_chk (mx_inb (v1 + 3) 432) ((if (m.1 (a + 2) (Int32.toNatClampNeg (v1 + 3))) = 60 then (if v5 ≤ r56 then (some 0) else (some 1)) else (if (m.1 (a + 2) (Int32.toNatClampNeg (v1 + 3))) = 61 then (if r56 = v5 then (some 1) else (some 0)) else (if r56 ≤ v5 then (some 0) else (some 1))))))) else (if v38 = 20 then Option.bind (FX12_weightOf a x1 m) (fun r48 => mx_chk (mx_inb (v1 + 3) 432) ((if (m.1 (a + 2) (Int32.toNatClampNeg (v1 + 3))) = 60 then (if v5 ≤ r48 then (some 0) else (some 1)) else (if (m.1 (a + 2) (Int32.toNatClampNeg (v1 + 3))) = 61 then (if r48 = v5 then (some 1) else (some 0)) else (if r48 ≤ v5 then (some 0) else (some 1)))))) else mx_chk (mx_inb (v1 + 3) 432) ((if (m.1 (a + 2) (Int32.toNatClampNeg (v1 + 3))) = 60 then (if v5 ≤ x1 then (some 0) else (some 1)) else (if (m.1 (a + 2) (Int32.toNatClampNeg (v1 + 3))) = 61 then (if x1 = v5 then (some 1) else (some 0)) else (if x1 ≤ v5 then (some 0) else (some 1))))))))))))))))
def FX12_holds : Nat → Nat → Int32 → Int32 → mB → Option Int32
  | 0, _, _, _, _ => none
  | D + 1, a, x0, x1, m => FX12_holds_B (FX12_holds D) a x0 x1 m
set_option maxRecDepth 20000 in
theorem CX12_holds_B {G : mG} {l : Launch} {e : mE} {rec : Nat → Int32 → Int32 → mB → Option Int32} {D : Nat} {a : Nat} {x0 : Int32} {x1 : Int32} {m : mB} {r : Int32} (hrec : ∀ {a : Nat} {x0 : Int32} {x1 : Int32} {m : mB} {r : Int32}, ly12 e a → rec a x0 x1 m = some r → mx_Call G l MX12_holds D 0 0 [.ref a, .int x0, .int x1] (e, m) (fun v z => v = some (.int r) ∧ z = (e, m))) (h0 : ly12 e a) (h : FX12_holds_B rec a x0 x1 m = some r) : mx_Call G l MX12_holds (D + 4) 0 0 [.ref a, .int x0, .int x1] (e, m) (fun v z => v = some (.int r) ∧ z = (e, m)) := by
  refine mx_entry (L := [.ref a, .int x0, .int x1, .float 0, .float 0, .float 0, .float 0, .float 0]) (by decide +kernel) (Nat.le_of_ble_eq_true rfl) rfl ?_
  unfold FX12_holds_B at h
  refine mx_sipush (192) (mx_d tX12_holds_0 0 rfl) (by decide) ?_
  refine mx_iconst (4) (mx_d tX12_holds_0 1 rfl) (by decide) ?_
  refine mx_iload_n (mx_d tX12_holds_0 2 rfl) rfl rfl ?_
  refine mx_imul (mx_d tX12_holds_0 3 rfl) ?_
  refine mx_iadd (mx_d tX12_holds_0 4 rfl) ?_
  obtain ⟨v1, e_v1, h⟩ := mx_letE h
  refine mx_istore_n (L2 := [.ref a, .int x0, .int x1, .int v1, .float 0, .float 0, .float 0, .float 0]) (mx_d tX12_holds_0 5 rfl) rfl (by decide) (by rw [e_v1]; rfl) ?_
  refine mx_aload_n (mx_d tX12_holds_0 6 rfl) rfl rfl ?_
  refine mx_getR (mx_d tX12_holds_0 7 rfl) fX12_98 rfl rfl (ly12_o h0) (ly12_r14 h0) ?_
  refine mx_iload_n (mx_d tX12_holds_0 8 rfl) rfl rfl ?_
  refine mx_iconst (1) (mx_d tX12_holds_0 9 rfl) (by decide) ?_
  refine mx_iadd (mx_d tX12_holds_0 10 rfl) ?_
  obtain ⟨hi2, h⟩ := mx_chkE h
  refine mx_iaload (mx_d tX12_holds_0 11 rfl) (ly12_s14 h0) (mx_inbE hi2) ?_
  obtain ⟨v3, e_v3, h⟩ := mx_letE h
  refine mx_istore (L2 := [.ref a, .int x0, .int x1, .int v1, .int v3, .float 0, .float 0, .float 0]) (mx_d tX12_holds_0 12 rfl) (by decide) (by rw [e_v3]; rfl) ?_
  refine mx_aload_n (mx_d tX12_holds_0 13 rfl) rfl rfl ?_
  refine mx_getR (mx_d tX12_holds_0 14 rfl) fX12_98 rfl rfl (ly12_o h0) (ly12_r14 h0) ?_
  refine mx_iload_n (mx_d tX12_holds_0 15 rfl) rfl rfl ?_
  refine mx_iconst (2) (mx_d tX12_holds_0 16 rfl) (by decide) ?_
  refine mx_iadd (mx_d tX12_holds_0 17 rfl) ?_
  obtain ⟨hi4, h⟩ := mx_chkE h
  refine mx_iaload (mx_d tX12_holds_0 18 rfl) (ly12_s14 h0) (mx_inbE hi4) ?_
  obtain ⟨v5, e_v5, h⟩ := mx_letE h
  refine mx_istore (L2 := [.ref a, .int x0, .int x1, .int v1, .int v3, .int v5, .float 0, .float 0]) (mx_d tX12_holds_0 19 rfl) (by decide) (by rw [e_v5]; rfl) ?_
  refine mx_aload_n (mx_d tX12_holds_0 20 rfl) rfl rfl ?_
  refine mx_getR (mx_d tX12_holds_0 21 rfl) fX12_98 rfl rfl (ly12_o h0) (ly12_r14 h0) ?_
  refine mx_iload_n (mx_d tX12_holds_0 22 rfl) rfl rfl ?_
  obtain ⟨hi6, h⟩ := mx_chkE h
  refine mx_iaload (mx_d tX12_holds_0 23 rfl) (ly12_s14 h0) (mx_inbE hi6) ?_
  by_cases hc7 : (m.1 (a + 2) (Int32.toNatClampNeg v1)) = 1
  · rw [if_pos hc7] at h
    refine mx_lookup (tgt := 108) (off := 74) (mx_d tX12_holds_0 24 rfl) (by decide) (by rw [hc7]; decide) (by decide) ?_
    refine mx_aload_n (mx_d tX12_holds_0 25 rfl) rfl rfl ?_
    refine mx_iload (mx_d tX12_holds_0 26 rfl) rfl ?_
    refine mx_iload_n (mx_d tX12_holds_0 27 rfl) rfl rfl ?_
    obtain ⟨r8, h_r8, h⟩ := Option.bind_eq_some_iff.mp h
    refine mx_cVi (mx_d tX12_holds_0 28 rfl) iX12_518 rfl vX12_holds ⟨_, rfl, rfl⟩ (ly12_o h0) (hrec h0 h_r8) (by omega) rfl rfl (Nat.le_of_ble_eq_true rfl) ?_
    refine mx_if_ne (tgt := 122) (mx_d tX12_holds_0 29 rfl) (by decide) (fun hc9 => ?_) (fun hc9 => ?_)
    · rw [if_neg hc9] at h
      refine mx_iconst (0) (mx_d tX12_holds_0 32 rfl) (by decide) ?_
      obtain rfl := Option.some.inj h
      exact mx_zreturn (mx_d tX12_holds_0 33 rfl) rfl rfl ⟨rfl, rfl⟩
    · rw [if_pos hc9] at h
      refine mx_iconst (1) (mx_d tX12_holds_0 30 rfl) (by decide) ?_
      refine mx_goto (tgt := 123) (mx_d tX12_holds_0 31 rfl) (by decide) ?_
      obtain rfl := Option.some.inj h
      exact mx_zreturn (mx_d tX12_holds_0 33 rfl) rfl rfl ⟨rfl, rfl⟩
  · rw [if_neg hc7] at h
    by_cases hc10 : (m.1 (a + 2) (Int32.toNatClampNeg v1)) = 2
    · rw [if_pos hc10] at h
      refine mx_lookup (tgt := 124) (off := 90) (mx_d tX12_holds_0 24 rfl) (by decide) (by rw [hc10]; decide) (by decide) ?_
      refine mx_aload_n (mx_d tX12_holds_0 34 rfl) rfl rfl ?_
      refine mx_iload (mx_d tX12_holds_0 35 rfl) rfl ?_
      refine mx_iload_n (mx_d tX12_holds_0 36 rfl) rfl rfl ?_
      obtain ⟨r11, h_r11, h⟩ := Option.bind_eq_some_iff.mp h
      refine mx_cVi (mx_d tX12_holds_0 37 rfl) iX12_518 rfl vX12_holds ⟨_, rfl, rfl⟩ (ly12_o h0) (hrec h0 h_r11) (by omega) rfl rfl (Nat.le_of_ble_eq_true rfl) ?_
      refine mx_if_eq (tgt := 148) (mx_d tX12_holds_0 38 rfl) (by decide) (fun hc12 => ?_) (fun hc12 => ?_)
      · rw [if_pos hc12] at h
        refine mx_iconst (0) (mx_d tX12_holds_0 46 rfl) (by decide) ?_
        obtain rfl := Option.some.inj h
        exact mx_zreturn (mx_d tX12_holds_0 47 rfl) rfl rfl ⟨rfl, rfl⟩
      · rw [if_neg hc12] at h
        refine mx_aload_n (mx_d tX12_holds_0 39 rfl) rfl rfl ?_
        refine mx_iload (mx_d tX12_holds_0 40 rfl) rfl ?_
        refine mx_iload_n (mx_d tX12_holds_0 41 rfl) rfl rfl ?_
        obtain ⟨r13, h_r13, h⟩ := Option.bind_eq_some_iff.mp h
        refine mx_cVi (mx_d tX12_holds_0 42 rfl) iX12_518 rfl vX12_holds ⟨_, rfl, rfl⟩ (ly12_o h0) (hrec h0 h_r13) (by omega) rfl rfl (Nat.le_of_ble_eq_true rfl) ?_
        refine mx_if_eq (tgt := 148) (mx_d tX12_holds_0 43 rfl) (by decide) (fun hc14 => ?_) (fun hc14 => ?_)
        · rw [if_pos hc14] at h
          refine mx_iconst (0) (mx_d tX12_holds_0 46 rfl) (by decide) ?_
          obtain rfl := Option.some.inj h
          exact mx_zreturn (mx_d tX12_holds_0 47 rfl) rfl rfl ⟨rfl, rfl⟩
        · rw [if_neg hc14] at h
          refine mx_iconst (1) (mx_d tX12_holds_0 44 rfl) (by decide) ?_
          refine mx_goto (tgt := 149) (mx_d tX12_holds_0 45 rfl) (by decide) ?_
          obtain rfl := Option.some.inj h
          exact mx_zreturn (mx_d tX12_holds_0 47 rfl) rfl rfl ⟨rfl, rfl⟩
    · rw [if_neg hc10] at h
      by_cases hc15 : (m.1 (a + 2) (Int32.toNatClampNeg v1)) = 3
      · rw [if_pos hc15] at h
        refine mx_lookup (tgt := 150) (off := 116) (mx_d tX12_holds_0 24 rfl) (by decide) (by rw [hc15]; decide) (by decide) ?_
        refine mx_aload_n (mx_d tX12_holds_0 48 rfl) rfl rfl ?_
        refine mx_iload (mx_d tX12_holds_0 49 rfl) rfl ?_
        refine mx_iload_n (mx_d tX12_holds_0 50 rfl) rfl rfl ?_
        obtain ⟨r16, h_r16, h⟩ := Option.bind_eq_some_iff.mp h
        refine mx_cVi (mx_d tX12_holds_0 51 rfl) iX12_518 rfl vX12_holds ⟨_, rfl, rfl⟩ (ly12_o h0) (hrec h0 h_r16) (by omega) rfl rfl (Nat.le_of_ble_eq_true rfl) ?_
        refine mx_if_ne (tgt := 170) (mx_d tX12_holds_0 52 rfl) (by decide) (fun hc17 => ?_) (fun hc17 => ?_)
        · rw [if_neg hc17] at h
          refine mx_iconst (1) (mx_d tX12_holds_0 58 rfl) (by decide) ?_
          refine mx_goto (tgt := 175) (mx_d tX12_holds_0 59 rfl) (by decide) ?_
          obtain rfl := Option.some.inj h
          exact mx_zreturn (mx_d tX12_holds_1 1 rfl) rfl rfl ⟨rfl, rfl⟩
        · rw [if_pos hc17] at h
          refine mx_aload_n (mx_d tX12_holds_0 53 rfl) rfl rfl ?_
          refine mx_iload (mx_d tX12_holds_0 54 rfl) rfl ?_
          refine mx_iload_n (mx_d tX12_holds_0 55 rfl) rfl rfl ?_
          obtain ⟨r18, h_r18, h⟩ := Option.bind_eq_some_iff.mp h
          refine mx_cVi (mx_d tX12_holds_0 56 rfl) iX12_518 rfl vX12_holds ⟨_, rfl, rfl⟩ (ly12_o h0) (hrec h0 h_r18) (by omega) rfl rfl (Nat.le_of_ble_eq_true rfl) ?_
          refine mx_if_eq (tgt := 174) (mx_d tX12_holds_0 57 rfl) (by decide) (fun hc19 => ?_) (fun hc19 => ?_)
          · rw [if_pos hc19] at h
            refine mx_iconst (0) (mx_d tX12_holds_1 0 rfl) (by decide) ?_
            obtain rfl := Option.some.inj h
            exact mx_zreturn (mx_d tX12_holds_1 1 rfl) rfl rfl ⟨rfl, rfl⟩
          · rw [if_neg hc19] at h
            refine mx_iconst (1) (mx_d tX12_holds_0 58 rfl) (by decide) ?_
            refine mx_goto (tgt := 175) (mx_d tX12_holds_0 59 rfl) (by decide) ?_
            obtain rfl := Option.some.inj h
            exact mx_zreturn (mx_d tX12_holds_1 1 rfl) rfl rfl ⟨rfl, rfl⟩
      · rw [if_neg hc15] at h
        by_cases hc20 : (m.1 (a + 2) (Int32.toNatClampNeg v1)) = 63
        · rw [if_pos hc20] at h
          refine mx_lookup (tgt := 176) (off := 142) (mx_d tX12_holds_0 24 rfl) (by decide) (by rw [hc20]; decide) (by decide) ?_
          refine mx_aload_n (mx_d tX12_holds_1 2 rfl) rfl rfl ?_
          refine mx_iload_n (mx_d tX12_holds_1 3 rfl) rfl rfl ?_
          obtain ⟨r21, h_r21, h⟩ := Option.bind_eq_some_iff.mp h
          refine mx_cVi (mx_d tX12_holds_1 4 rfl) iX12_294 rfl vX12_isLone ⟨_, rfl, rfl⟩ (ly12_o h0) (CX12_isLone h0 h_r21) (by omega) rfl rfl (Nat.le_of_ble_eq_true rfl) ?_
          obtain ⟨hb22, h⟩ := mx_chkE h
          obtain rfl := Option.some.inj h
          exact mx_zreturn (mx_d tX12_holds_1 5 rfl) rfl (mx_nb (mx_b01E hb22)) ⟨rfl, rfl⟩
        · rw [if_neg hc20] at h
          by_cases hc23 : (m.1 (a + 2) (Int32.toNatClampNeg v1)) = 64
          · rw [if_pos hc23] at h
            refine mx_lookup (tgt := 182) (off := 148) (mx_d tX12_holds_0 24 rfl) (by decide) (by rw [hc23]; decide) (by decide) ?_
            refine mx_aload_n (mx_d tX12_holds_1 6 rfl) rfl rfl ?_
            refine mx_iload_n (mx_d tX12_holds_1 7 rfl) rfl rfl ?_
            refine mx_iconst (1) (mx_d tX12_holds_1 8 rfl) (by decide) ?_
            obtain ⟨r24, h_r24, h⟩ := Option.bind_eq_some_iff.mp h
            refine mx_cVi (mx_d tX12_holds_1 9 rfl) iX12_275 rfl vX12_partners ⟨_, rfl, rfl⟩ (ly12_o h0) (CX12_partners h0 h_r24) (by omega) rfl rfl (Nat.le_of_ble_eq_true rfl) ?_
            refine mx_if_eq (tgt := 195) (mx_d tX12_holds_1 10 rfl) (by decide) (fun hc25 => ?_) (fun hc25 => ?_)
            · rw [if_pos hc25] at h
              refine mx_iconst (0) (mx_d tX12_holds_1 13 rfl) (by decide) ?_
              obtain rfl := Option.some.inj h
              exact mx_zreturn (mx_d tX12_holds_1 14 rfl) rfl rfl ⟨rfl, rfl⟩
            · rw [if_neg hc25] at h
              refine mx_iconst (1) (mx_d tX12_holds_1 11 rfl) (by decide) ?_
              refine mx_goto (tgt := 196) (mx_d tX12_holds_1 12 rfl) (by decide) ?_
              obtain rfl := Option.some.inj h
              exact mx_zreturn (mx_d tX12_holds_1 14 rfl) rfl rfl ⟨rfl, rfl⟩
          · rw [if_neg hc23] at h
            by_cases hc26 : (m.1 (a + 2) (Int32.toNatClampNeg v1)) = 65
            · rw [if_pos hc26] at h
              refine mx_lookup (tgt := 197) (off := 163) (mx_d tX12_holds_0 24 rfl) (by decide) (by rw [hc26]; decide) (by decide) ?_
              refine mx_aload_n (mx_d tX12_holds_1 15 rfl) rfl rfl ?_
              refine mx_iload_n (mx_d tX12_holds_1 16 rfl) rfl rfl ?_
              refine mx_iload (mx_d tX12_holds_1 17 rfl) rfl ?_
              obtain ⟨r27, h_r27, h⟩ := Option.bind_eq_some_iff.mp h
              refine mx_cVi (mx_d tX12_holds_1 18 rfl) iX12_254 rfl vX12_arePaired ⟨_, rfl, rfl⟩ (ly12_o h0) (CX12_arePaired h0 h_r27) (by omega) rfl rfl (Nat.le_of_ble_eq_true rfl) ?_
              obtain ⟨hb28, h⟩ := mx_chkE h
              obtain rfl := Option.some.inj h
              exact mx_zreturn (mx_d tX12_holds_1 19 rfl) rfl (mx_nb (mx_b01E hb28)) ⟨rfl, rfl⟩
            · rw [if_neg hc26] at h
              by_cases hc29 : (m.1 (a + 2) (Int32.toNatClampNeg v1)) = 66
              · rw [if_pos hc29] at h
                refine mx_lookup (tgt := 205) (off := 171) (mx_d tX12_holds_0 24 rfl) (by decide) (by rw [hc29]; decide) (by decide) ?_
                refine mx_aload_n (mx_d tX12_holds_1 20 rfl) rfl rfl ?_
                refine mx_iload_n (mx_d tX12_holds_1 21 rfl) rfl rfl ?_
                refine mx_iload (mx_d tX12_holds_1 22 rfl) rfl ?_
                obtain ⟨r30, h_r30, h⟩ := Option.bind_eq_some_iff.mp h
                refine mx_cVi (mx_d tX12_holds_1 23 rfl) iX12_300 rfl vX12_areLinked ⟨_, rfl, rfl⟩ (ly12_o h0) (CX12_areLinked h0 h_r30) (by omega) rfl rfl (Nat.le_of_ble_eq_true rfl) ?_
                obtain ⟨hb31, h⟩ := mx_chkE h
                obtain rfl := Option.some.inj h
                exact mx_zreturn (mx_d tX12_holds_1 24 rfl) rfl (mx_nb (mx_b01E hb31)) ⟨rfl, rfl⟩
              · rw [if_neg hc29] at h
                by_cases hc32 : (m.1 (a + 2) (Int32.toNatClampNeg v1)) = 67
                · rw [if_pos hc32] at h
                  refine mx_lookup (tgt := 213) (off := 179) (mx_d tX12_holds_0 24 rfl) (by decide) (by rw [hc32]; decide) (by decide) ?_
                  refine mx_aload_n (mx_d tX12_holds_1 25 rfl) rfl rfl ?_
                  refine mx_iload (mx_d tX12_holds_1 26 rfl) rfl ?_
                  obtain ⟨r33, h_r33, h⟩ := Option.bind_eq_some_iff.mp h
                  refine mx_cVi (mx_d tX12_holds_1 27 rfl) iX12_285 rfl vX12_isOdd ⟨_, rfl, rfl⟩ (ly12_o h0) (CX12_isOdd h0 h_r33) (by omega) rfl rfl (Nat.le_of_ble_eq_true rfl) ?_
                  refine mx_if_eq (tgt := 244) (mx_d tX12_holds_1 28 rfl) (by decide) (fun hc34 => ?_) (fun hc34 => ?_)
                  · rw [if_pos hc34] at h
                    refine mx_iconst (0) (mx_d tX12_holds_1 40 rfl) (by decide) ?_
                    obtain rfl := Option.some.inj h
                    exact mx_zreturn (mx_d tX12_holds_1 41 rfl) rfl rfl ⟨rfl, rfl⟩
                  · rw [if_neg hc34] at h
                    refine mx_aload_n (mx_d tX12_holds_1 29 rfl) rfl rfl ?_
                    refine mx_getR (mx_d tX12_holds_1 30 rfl) fX12_98 rfl rfl (ly12_o h0) (ly12_r14 h0) ?_
                    refine mx_sipush (178) (mx_d tX12_holds_1 31 rfl) (by decide) ?_
                    refine mx_iload (mx_d tX12_holds_1 32 rfl) rfl ?_
                    refine mx_iadd (mx_d tX12_holds_1 33 rfl) ?_
                    obtain ⟨hi35, h⟩ := mx_chkE h
                    refine mx_iaload (mx_d tX12_holds_1 34 rfl) (ly12_s14 h0) (mx_inbE hi35) ?_
                    refine mx_iload_n (mx_d tX12_holds_1 35 rfl) rfl rfl ?_
                    obtain ⟨r36, h_r36, h⟩ := Option.bind_eq_some_iff.mp h
                    refine mx_cSi (mx_d tX12_holds_1 36 rfl) iX12_210 rfl sX12_has (CX12_has  h_r36) (by omega) rfl rfl (Nat.le_of_ble_eq_true rfl) ?_
                    refine mx_if_eq (tgt := 244) (mx_d tX12_holds_1 37 rfl) (by decide) (fun hc37 => ?_) (fun hc37 => ?_)
                    · rw [if_pos hc37] at h
                      refine mx_iconst (0) (mx_d tX12_holds_1 40 rfl) (by decide) ?_
                      obtain rfl := Option.some.inj h
                      exact mx_zreturn (mx_d tX12_holds_1 41 rfl) rfl rfl ⟨rfl, rfl⟩
                    · rw [if_neg hc37] at h
                      refine mx_iconst (1) (mx_d tX12_holds_1 38 rfl) (by decide) ?_
                      refine mx_goto (tgt := 245) (mx_d tX12_holds_1 39 rfl) (by decide) ?_
                      obtain rfl := Option.some.inj h
                      exact mx_zreturn (mx_d tX12_holds_1 41 rfl) rfl rfl ⟨rfl, rfl⟩
                · rw [if_neg hc32] at h
                  refine mx_lookup (tgt := 246) (off := 212) (mx_d tX12_holds_0 24 rfl) (by decide) (by rw [lv_osw hc7 (by decide)]; rw [lv_osw hc10 (by decide)]; rw [lv_osw hc15 (by decide)]; rw [lv_osw hc20 (by decide)]; rw [lv_osw hc23 (by decide)]; rw [lv_osw hc26 (by decide)]; rw [lv_osw hc29 (by decide)]; rw [lv_osw hc32 (by decide)]; rfl) (by decide) ?_
                  refine mx_aload_n (mx_d tX12_holds_1 42 rfl) rfl rfl ?_
                  refine mx_getR (mx_d tX12_holds_1 43 rfl) fX12_98 rfl rfl (ly12_o h0) (ly12_r14 h0) ?_
                  refine mx_iload_n (mx_d tX12_holds_1 44 rfl) rfl rfl ?_
                  refine mx_iaload (mx_d tX12_holds_1 45 rfl) (ly12_s14 h0) (mx_inbE hi6) ?_
                  refine mx_bipush (50) (mx_d tX12_holds_1 46 rfl) (by decide) ?_
                  refine mx_isub (mx_d tX12_holds_1 47 rfl) ?_
                  obtain ⟨v38, e_v38, h⟩ := mx_letE h
                  refine mx_istore (L2 := [.ref a, .int x0, .int x1, .int v1, .int v3, .int v5, .int v38, .float 0]) (mx_d tX12_holds_1 48 rfl) (by decide) (by rw [e_v38]; rfl) ?_
                  refine mx_iload (mx_d tX12_holds_1 49 rfl) rfl ?_
                  refine mx_bipush (18) (mx_d tX12_holds_1 50 rfl) (by decide) ?_
                  refine mx_icmp_ne (tgt := 277) (mx_d tX12_holds_1 51 rfl) (by decide) (fun hc39 => ?_) (fun hc39 => ?_)
                  · rw [if_neg hc39] at h
                    refine mx_iload (mx_d tX12_holds_1 59 rfl) rfl ?_
                    refine mx_bipush (19) (mx_d tX12_holds_2 0 rfl) (by decide) ?_
                    refine mx_icmp_ne (tgt := 296) (mx_d tX12_holds_2 1 rfl) (by decide) (fun hc40 => ?_) (fun hc40 => ?_)
                    · rw [if_neg hc40] at h
                      refine mx_iload (mx_d tX12_holds_2 8 rfl) rfl ?_
                      refine mx_bipush (20) (mx_d tX12_holds_2 9 rfl) (by decide) ?_
                      refine mx_icmp_ne (tgt := 311) (mx_d tX12_holds_2 10 rfl) (by decide) (fun hc41 => ?_) (fun hc41 => ?_)
                      · rw [if_neg hc41] at h
                        refine mx_iload_n (mx_d tX12_holds_2 15 rfl) rfl rfl ?_
                        refine mx_istore (L2 := [.ref a, .int x0, .int x1, .int v1, .int v3, .int v5, .int v38, .int x1]) (mx_d tX12_holds_2 16 rfl) (by decide) (by rfl) ?_
                        refine mx_aload_n (mx_d tX12_holds_2 17 rfl) rfl rfl ?_
                        refine mx_getR (mx_d tX12_holds_2 18 rfl) fX12_98 rfl rfl (ly12_o h0) (ly12_r14 h0) ?_
                        refine mx_iload_n (mx_d tX12_holds_2 19 rfl) rfl rfl ?_
                        refine mx_iconst (3) (mx_d tX12_holds_2 20 rfl) (by decide) ?_
                        refine mx_iadd (mx_d tX12_holds_2 21 rfl) ?_
                        obtain ⟨hi42, h⟩ := mx_chkE h
                        refine mx_iaload (mx_d tX12_holds_2 22 rfl) (ly12_s14 h0) (mx_inbE hi42) ?_
                        refine mx_bipush (60) (mx_d tX12_holds_2 23 rfl) (by decide) ?_
                        refine mx_icmp_ne (tgt := 342) (mx_d tX12_holds_2 24 rfl) (by decide) (fun hc43 => ?_) (fun hc43 => ?_)
                        · rw [if_neg hc43] at h
                          refine mx_aload_n (mx_d tX12_holds_2 32 rfl) rfl rfl ?_
                          refine mx_getR (mx_d tX12_holds_2 33 rfl) fX12_98 rfl rfl (ly12_o h0) (ly12_r14 h0) ?_
                          refine mx_iload_n (mx_d tX12_holds_2 34 rfl) rfl rfl ?_
                          refine mx_iconst (3) (mx_d tX12_holds_2 35 rfl) (by decide) ?_
                          refine mx_iadd (mx_d tX12_holds_2 36 rfl) ?_
                          refine mx_iaload (mx_d tX12_holds_2 37 rfl) (ly12_s14 h0) (mx_inbE hi42) ?_
                          refine mx_bipush (61) (mx_d tX12_holds_2 38 rfl) (by decide) ?_
                          refine mx_icmp_ne (tgt := 370) (mx_d tX12_holds_2 39 rfl) (by decide) (fun hc44 => ?_) (fun hc44 => ?_)
                          · rw [if_neg hc44] at h
                            refine mx_iload (mx_d tX12_holds_2 47 rfl) rfl ?_
                            refine mx_iload (mx_d tX12_holds_2 48 rfl) rfl ?_
                            refine mx_icmp_le (tgt := 381) (mx_d tX12_holds_2 49 rfl) (by decide) (fun hc45 => ?_) (fun hc45 => ?_)
                            · rw [if_pos hc45] at h
                              refine mx_iconst (0) (mx_d tX12_holds_2 52 rfl) (by decide) ?_
                              obtain rfl := Option.some.inj h
                              exact mx_zreturn (mx_d tX12_holds_2 53 rfl) rfl rfl ⟨rfl, rfl⟩
                            · rw [if_neg hc45] at h
                              refine mx_iconst (1) (mx_d tX12_holds_2 50 rfl) (by decide) ?_
                              refine mx_goto (tgt := 382) (mx_d tX12_holds_2 51 rfl) (by decide) ?_
                              obtain rfl := Option.some.inj h
                              exact mx_zreturn (mx_d tX12_holds_2 53 rfl) rfl rfl ⟨rfl, rfl⟩
                          · rw [if_pos hc44] at h
                            refine mx_iload (mx_d tX12_holds_2 40 rfl) rfl ?_
                            refine mx_iload (mx_d tX12_holds_2 41 rfl) rfl ?_
                            refine mx_icmp_ne (tgt := 366) (mx_d tX12_holds_2 42 rfl) (by decide) (fun hc46 => ?_) (fun hc46 => ?_)
                            · rw [if_neg hc46] at h
                              refine mx_iconst (0) (mx_d tX12_holds_2 45 rfl) (by decide) ?_
                              refine mx_goto (tgt := 382) (mx_d tX12_holds_2 46 rfl) (by decide) ?_
                              obtain rfl := Option.some.inj h
                              exact mx_zreturn (mx_d tX12_holds_2 53 rfl) rfl rfl ⟨rfl, rfl⟩
                            · rw [if_pos hc46] at h
                              refine mx_iconst (1) (mx_d tX12_holds_2 43 rfl) (by decide) ?_
                              refine mx_goto (tgt := 382) (mx_d tX12_holds_2 44 rfl) (by decide) ?_
                              obtain rfl := Option.some.inj h
                              exact mx_zreturn (mx_d tX12_holds_2 53 rfl) rfl rfl ⟨rfl, rfl⟩
                        · rw [if_pos hc43] at h
                          refine mx_iload (mx_d tX12_holds_2 25 rfl) rfl ?_
                          refine mx_iload (mx_d tX12_holds_2 26 rfl) rfl ?_
                          refine mx_icmp_ge (tgt := 338) (mx_d tX12_holds_2 27 rfl) (by decide) (fun hc47 => ?_) (fun hc47 => ?_)
                          · rw [if_pos hc47] at h
                            refine mx_iconst (0) (mx_d tX12_holds_2 30 rfl) (by decide) ?_
                            refine mx_goto (tgt := 382) (mx_d tX12_holds_2 31 rfl) (by decide) ?_
                            obtain rfl := Option.some.inj h
                            exact mx_zreturn (mx_d tX12_holds_2 53 rfl) rfl rfl ⟨rfl, rfl⟩
                          · rw [if_neg hc47] at h
                            refine mx_iconst (1) (mx_d tX12_holds_2 28 rfl) (by decide) ?_
                            refine mx_goto (tgt := 382) (mx_d tX12_holds_2 29 rfl) (by decide) ?_
                            obtain rfl := Option.some.inj h
                            exact mx_zreturn (mx_d tX12_holds_2 53 rfl) rfl rfl ⟨rfl, rfl⟩
                      · rw [if_pos hc41] at h
                        refine mx_aload_n (mx_d tX12_holds_2 11 rfl) rfl rfl ?_
                        refine mx_iload_n (mx_d tX12_holds_2 12 rfl) rfl rfl ?_
                        obtain ⟨r48, h_r48, h⟩ := Option.bind_eq_some_iff.mp h
                        refine mx_cVi (mx_d tX12_holds_2 13 rfl) iX12_521 rfl vX12_weightOf ⟨_, rfl, rfl⟩ (ly12_o h0) (CX12_weightOf h0 h_r48) (by omega) rfl rfl (Nat.le_of_ble_eq_true rfl) ?_
                        refine mx_goto (tgt := 312) (mx_d tX12_holds_2 14 rfl) (by decide) ?_
                        refine mx_istore (L2 := [.ref a, .int x0, .int x1, .int v1, .int v3, .int v5, .int v38, .int r48]) (mx_d tX12_holds_2 16 rfl) (by decide) (by rfl) ?_
                        refine mx_aload_n (mx_d tX12_holds_2 17 rfl) rfl rfl ?_
                        refine mx_getR (mx_d tX12_holds_2 18 rfl) fX12_98 rfl rfl (ly12_o h0) (ly12_r14 h0) ?_
                        refine mx_iload_n (mx_d tX12_holds_2 19 rfl) rfl rfl ?_
                        refine mx_iconst (3) (mx_d tX12_holds_2 20 rfl) (by decide) ?_
                        refine mx_iadd (mx_d tX12_holds_2 21 rfl) ?_
                        obtain ⟨hi49, h⟩ := mx_chkE h
                        refine mx_iaload (mx_d tX12_holds_2 22 rfl) (ly12_s14 h0) (mx_inbE hi49) ?_
                        refine mx_bipush (60) (mx_d tX12_holds_2 23 rfl) (by decide) ?_
                        refine mx_icmp_ne (tgt := 342) (mx_d tX12_holds_2 24 rfl) (by decide) (fun hc50 => ?_) (fun hc50 => ?_)
                        · rw [if_neg hc50] at h
                          refine mx_aload_n (mx_d tX12_holds_2 32 rfl) rfl rfl ?_
                          refine mx_getR (mx_d tX12_holds_2 33 rfl) fX12_98 rfl rfl (ly12_o h0) (ly12_r14 h0) ?_
                          refine mx_iload_n (mx_d tX12_holds_2 34 rfl) rfl rfl ?_
                          refine mx_iconst (3) (mx_d tX12_holds_2 35 rfl) (by decide) ?_
                          refine mx_iadd (mx_d tX12_holds_2 36 rfl) ?_
                          refine mx_iaload (mx_d tX12_holds_2 37 rfl) (ly12_s14 h0) (mx_inbE hi49) ?_
                          refine mx_bipush (61) (mx_d tX12_holds_2 38 rfl) (by decide) ?_
                          refine mx_icmp_ne (tgt := 370) (mx_d tX12_holds_2 39 rfl) (by decide) (fun hc51 => ?_) (fun hc51 => ?_)
                          · rw [if_neg hc51] at h
                            refine mx_iload (mx_d tX12_holds_2 47 rfl) rfl ?_
                            refine mx_iload (mx_d tX12_holds_2 48 rfl) rfl ?_
                            refine mx_icmp_le (tgt := 381) (mx_d tX12_holds_2 49 rfl) (by decide) (fun hc52 => ?_) (fun hc52 => ?_)
                            · rw [if_pos hc52] at h
                              refine mx_iconst (0) (mx_d tX12_holds_2 52 rfl) (by decide) ?_
                              obtain rfl := Option.some.inj h
                              exact mx_zreturn (mx_d tX12_holds_2 53 rfl) rfl rfl ⟨rfl, rfl⟩
                            · rw [if_neg hc52] at h
                              refine mx_iconst (1) (mx_d tX12_holds_2 50 rfl) (by decide) ?_
                              refine mx_goto (tgt := 382) (mx_d tX12_holds_2 51 rfl) (by decide) ?_
                              obtain rfl := Option.some.inj h
                              exact mx_zreturn (mx_d tX12_holds_2 53 rfl) rfl rfl ⟨rfl, rfl⟩
                          · rw [if_pos hc51] at h
                            refine mx_iload (mx_d tX12_holds_2 40 rfl) rfl ?_
                            refine mx_iload (mx_d tX12_holds_2 41 rfl) rfl ?_
                            refine mx_icmp_ne (tgt := 366) (mx_d tX12_holds_2 42 rfl) (by decide) (fun hc53 => ?_) (fun hc53 => ?_)
                            · rw [if_neg hc53] at h
                              refine mx_iconst (0) (mx_d tX12_holds_2 45 rfl) (by decide) ?_
                              refine mx_goto (tgt := 382) (mx_d tX12_holds_2 46 rfl) (by decide) ?_
                              obtain rfl := Option.some.inj h
                              exact mx_zreturn (mx_d tX12_holds_2 53 rfl) rfl rfl ⟨rfl, rfl⟩
                            · rw [if_pos hc53] at h
                              refine mx_iconst (1) (mx_d tX12_holds_2 43 rfl) (by decide) ?_
                              refine mx_goto (tgt := 382) (mx_d tX12_holds_2 44 rfl) (by decide) ?_
                              obtain rfl := Option.some.inj h
                              exact mx_zreturn (mx_d tX12_holds_2 53 rfl) rfl rfl ⟨rfl, rfl⟩
                        · rw [if_pos hc50] at h
                          refine mx_iload (mx_d tX12_holds_2 25 rfl) rfl ?_
                          refine mx_iload (mx_d tX12_holds_2 26 rfl) rfl ?_
                          refine mx_icmp_ge (tgt := 338) (mx_d tX12_holds_2 27 rfl) (by decide) (fun hc54 => ?_) (fun hc54 => ?_)
                          · rw [if_pos hc54] at h
                            refine mx_iconst (0) (mx_d tX12_holds_2 30 rfl) (by decide) ?_
                            refine mx_goto (tgt := 382) (mx_d tX12_holds_2 31 rfl) (by decide) ?_
                            obtain rfl := Option.some.inj h
                            exact mx_zreturn (mx_d tX12_holds_2 53 rfl) rfl rfl ⟨rfl, rfl⟩
                          · rw [if_neg hc54] at h
                            refine mx_iconst (1) (mx_d tX12_holds_2 28 rfl) (by decide) ?_
                            refine mx_goto (tgt := 382) (mx_d tX12_holds_2 29 rfl) (by decide) ?_
                            obtain rfl := Option.some.inj h
                            exact mx_zreturn (mx_d tX12_holds_2 53 rfl) rfl rfl ⟨rfl, rfl⟩
                    · rw [if_pos hc40] at h
                      refine mx_aload_n (mx_d tX12_holds_2 2 rfl) rfl rfl ?_
                      refine mx_iload_n (mx_d tX12_holds_2 3 rfl) rfl rfl ?_
                      refine mx_iconst (0) (mx_d tX12_holds_2 4 rfl) (by decide) ?_
                      obtain ⟨r55, h_r55, h⟩ := Option.bind_eq_some_iff.mp h
                      refine mx_cVi (mx_d tX12_holds_2 5 rfl) iX12_275 rfl vX12_partners ⟨_, rfl, rfl⟩ (ly12_o h0) (CX12_partners h0 h_r55) (by omega) rfl rfl (Nat.le_of_ble_eq_true rfl) ?_
                      obtain ⟨r56, h_r56, h⟩ := Option.bind_eq_some_iff.mp h
                      refine mx_cSi (mx_d tX12_holds_2 6 rfl) iX12_263 rfl sX12_bits (CX12_bits  h_r56) (by omega) rfl rfl (Nat.le_of_ble_eq_true rfl) ?_
                      refine mx_goto (tgt := 312) (mx_d tX12_holds_2 7 rfl) (by decide) ?_
                      refine mx_istore (L2 := [.ref a, .int x0, .int x1, .int v1, .int v3, .int v5, .int v38, .int r56]) (mx_d tX12_holds_2 16 rfl) (by decide) (by rfl) ?_
                      refine mx_aload_n (mx_d tX12_holds_2 17 rfl) rfl rfl ?_
                      refine mx_getR (mx_d tX12_holds_2 18 rfl) fX12_98 rfl rfl (ly12_o h0) (ly12_r14 h0) ?_
                      refine mx_iload_n (mx_d tX12_holds_2 19 rfl) rfl rfl ?_
                      refine mx_iconst (3) (mx_d tX12_holds_2 20 rfl) (by decide) ?_
                      refine mx_iadd (mx_d tX12_holds_2 21 rfl) ?_
                      obtain ⟨hi57, h⟩ := mx_chkE h
                      refine mx_iaload (mx_d tX12_holds_2 22 rfl) (ly12_s14 h0) (mx_inbE hi57) ?_
                      refine mx_bipush (60) (mx_d tX12_holds_2 23 rfl) (by decide) ?_
                      refine mx_icmp_ne (tgt := 342) (mx_d tX12_holds_2 24 rfl) (by decide) (fun hc58 => ?_) (fun hc58 => ?_)
                      · rw [if_neg hc58] at h
                        refine mx_aload_n (mx_d tX12_holds_2 32 rfl) rfl rfl ?_
                        refine mx_getR (mx_d tX12_holds_2 33 rfl) fX12_98 rfl rfl (ly12_o h0) (ly12_r14 h0) ?_
                        refine mx_iload_n (mx_d tX12_holds_2 34 rfl) rfl rfl ?_
                        refine mx_iconst (3) (mx_d tX12_holds_2 35 rfl) (by decide) ?_
                        refine mx_iadd (mx_d tX12_holds_2 36 rfl) ?_
                        refine mx_iaload (mx_d tX12_holds_2 37 rfl) (ly12_s14 h0) (mx_inbE hi57) ?_
                        refine mx_bipush (61) (mx_d tX12_holds_2 38 rfl) (by decide) ?_
                        refine mx_icmp_ne (tgt := 370) (mx_d tX12_holds_2 39 rfl) (by decide) (fun hc59 => ?_) (fun hc59 => ?_)
                        · rw [if_neg hc59] at h
                          refine mx_iload (mx_d tX12_holds_2 47 rfl) rfl ?_
                          refine mx_iload (mx_d tX12_holds_2 48 rfl) rfl ?_
                          refine mx_icmp_le (tgt := 381) (mx_d tX12_holds_2 49 rfl) (by decide) (fun hc60 => ?_) (fun hc60 => ?_)
                          · rw [if_pos hc60] at h
                            refine mx_iconst (0) (mx_d tX12_holds_2 52 rfl) (by decide) ?_
                            obtain rfl := Option.some.inj h
                            exact mx_zreturn (mx_d tX12_holds_2 53 rfl) rfl rfl ⟨rfl, rfl⟩
                          · rw [if_neg hc60] at h
                            refine mx_iconst (1) (mx_d tX12_holds_2 50 rfl) (by decide) ?_
                            refine mx_goto (tgt := 382) (mx_d tX12_holds_2 51 rfl) (by decide) ?_
                            obtain rfl := Option.some.inj h
                            exact mx_zreturn (mx_d tX12_holds_2 53 rfl) rfl rfl ⟨rfl, rfl⟩
                        · rw [if_pos hc59] at h
                          refine mx_iload (mx_d tX12_holds_2 40 rfl) rfl ?_
                          refine mx_iload (mx_d tX12_holds_2 41 rfl) rfl ?_
                          refine mx_icmp_ne (tgt := 366) (mx_d tX12_holds_2 42 rfl) (by decide) (fun hc61 => ?_) (fun hc61 => ?_)
                          · rw [if_neg hc61] at h
                            refine mx_iconst (0) (mx_d tX12_holds_2 45 rfl) (by decide) ?_
                            refine mx_goto (tgt := 382) (mx_d tX12_holds_2 46 rfl) (by decide) ?_
                            obtain rfl := Option.some.inj h
                            exact mx_zreturn (mx_d tX12_holds_2 53 rfl) rfl rfl ⟨rfl, rfl⟩
                          · rw [if_pos hc61] at h
                            refine mx_iconst (1) (mx_d tX12_holds_2 43 rfl) (by decide) ?_
                            refine mx_goto (tgt := 382) (mx_d tX12_holds_2 44 rfl) (by decide) ?_
                            obtain rfl := Option.some.inj h
                            exact mx_zreturn (mx_d tX12_holds_2 53 rfl) rfl rfl ⟨rfl, rfl⟩
                      · rw [if_pos hc58] at h
                        refine mx_iload (mx_d tX12_holds_2 25 rfl) rfl ?_
                        refine mx_iload (mx_d tX12_holds_2 26 rfl) rfl ?_
                        refine mx_icmp_ge (tgt := 338) (mx_d tX12_holds_2 27 rfl) (by decide) (fun hc62 => ?_) (fun hc62 => ?_)
                        · rw [if_pos hc62] at h
                          refine mx_iconst (0) (mx_d tX12_holds_2 30 rfl) (by decide) ?_
                          refine mx_goto (tgt := 382) (mx_d tX12_holds_2 31 rfl) (by decide) ?_
                          obtain rfl := Option.some.inj h
                          exact mx_zreturn (mx_d tX12_holds_2 53 rfl) rfl rfl ⟨rfl, rfl⟩
                        · rw [if_neg hc62] at h
                          refine mx_iconst (1) (mx_d tX12_holds_2 28 rfl) (by decide) ?_
                          refine mx_goto (tgt := 382) (mx_d tX12_holds_2 29 rfl) (by decide) ?_
                          obtain rfl := Option.some.inj h
                          exact mx_zreturn (mx_d tX12_holds_2 53 rfl) rfl rfl ⟨rfl, rfl⟩
                  · rw [if_pos hc39] at h
                    refine mx_aload_n (mx_d tX12_holds_1 52 rfl) rfl rfl ?_
                    refine mx_getR (mx_d tX12_holds_1 53 rfl) fX12_98 rfl rfl (ly12_o h0) (ly12_r14 h0) ?_
                    refine mx_sipush (168) (mx_d tX12_holds_1 54 rfl) (by decide) ?_
                    refine mx_iload_n (mx_d tX12_holds_1 55 rfl) rfl rfl ?_
                    refine mx_iadd (mx_d tX12_holds_1 56 rfl) ?_
                    obtain ⟨hi63, h⟩ := mx_chkE h
                    refine mx_iaload (mx_d tX12_holds_1 57 rfl) (ly12_s14 h0) (mx_inbE hi63) ?_
                    refine mx_goto (tgt := 312) (mx_d tX12_holds_1 58 rfl) (by decide) ?_
                    obtain ⟨v64, e_v64, h⟩ := mx_letE h
                    refine mx_istore (L2 := [.ref a, .int x0, .int x1, .int v1, .int v3, .int v5, .int v38, .int v64]) (mx_d tX12_holds_2 16 rfl) (by decide) (by rw [e_v64]; rfl) ?_
                    refine mx_aload_n (mx_d tX12_holds_2 17 rfl) rfl rfl ?_
                    refine mx_getR (mx_d tX12_holds_2 18 rfl) fX12_98 rfl rfl (ly12_o h0) (ly12_r14 h0) ?_
                    refine mx_iload_n (mx_d tX12_holds_2 19 rfl) rfl rfl ?_
                    refine mx_iconst (3) (mx_d tX12_holds_2 20 rfl) (by decide) ?_
                    refine mx_iadd (mx_d tX12_holds_2 21 rfl) ?_
                    obtain ⟨hi65, h⟩ := mx_chkE h
                    refine mx_iaload (mx_d tX12_holds_2 22 rfl) (ly12_s14 h0) (mx_inbE hi65) ?_
                    refine mx_bipush (60) (mx_d tX12_holds_2 23 rfl) (by decide) ?_
                    refine mx_icmp_ne (tgt := 342) (mx_d tX12_holds_2 24 rfl) (by decide) (fun hc66 => ?_) (fun hc66 => ?_)
                    · rw [if_neg hc66] at h
                      refine mx_aload_n (mx_d tX12_holds_2 32 rfl) rfl rfl ?_
                      refine mx_getR (mx_d tX12_holds_2 33 rfl) fX12_98 rfl rfl (ly12_o h0) (ly12_r14 h0) ?_
                      refine mx_iload_n (mx_d tX12_holds_2 34 rfl) rfl rfl ?_
                      refine mx_iconst (3) (mx_d tX12_holds_2 35 rfl) (by decide) ?_
                      refine mx_iadd (mx_d tX12_holds_2 36 rfl) ?_
                      refine mx_iaload (mx_d tX12_holds_2 37 rfl) (ly12_s14 h0) (mx_inbE hi65) ?_
                      refine mx_bipush (61) (mx_d tX12_holds_2 38 rfl) (by decide) ?_
                      refine mx_icmp_ne (tgt := 370) (mx_d tX12_holds_2 39 rfl) (by decide) (fun hc67 => ?_) (fun hc67 => ?_)
                      · rw [if_neg hc67] at h
                        refine mx_iload (mx_d tX12_holds_2 47 rfl) rfl ?_
                        refine mx_iload (mx_d tX12_holds_2 48 rfl) rfl ?_
                        refine mx_icmp_le (tgt := 381) (mx_d tX12_holds_2 49 rfl) (by decide) (fun hc68 => ?_) (fun hc68 => ?_)
                        · rw [if_pos hc68] at h
                          refine mx_iconst (0) (mx_d tX12_holds_2 52 rfl) (by decide) ?_
                          obtain rfl := Option.some.inj h
                          exact mx_zreturn (mx_d tX12_holds_2 53 rfl) rfl rfl ⟨rfl, rfl⟩
                        · rw [if_neg hc68] at h
                          refine mx_iconst (1) (mx_d tX12_holds_2 50 rfl) (by decide) ?_
                          refine mx_goto (tgt := 382) (mx_d tX12_holds_2 51 rfl) (by decide) ?_
                          obtain rfl := Option.some.inj h
                          exact mx_zreturn (mx_d tX12_holds_2 53 rfl) rfl rfl ⟨rfl, rfl⟩
                      · rw [if_pos hc67] at h
                        refine mx_iload (mx_d tX12_holds_2 40 rfl) rfl ?_
                        refine mx_iload (mx_d tX12_holds_2 41 rfl) rfl ?_
                        refine mx_icmp_ne (tgt := 366) (mx_d tX12_holds_2 42 rfl) (by decide) (fun hc69 => ?_) (fun hc69 => ?_)
                        · rw [if_neg hc69] at h
                          refine mx_iconst (0) (mx_d tX12_holds_2 45 rfl) (by decide) ?_
                          refine mx_goto (tgt := 382) (mx_d tX12_holds_2 46 rfl) (by decide) ?_
                          obtain rfl := Option.some.inj h
                          exact mx_zreturn (mx_d tX12_holds_2 53 rfl) rfl rfl ⟨rfl, rfl⟩
                        · rw [if_pos hc69] at h
                          refine mx_iconst (1) (mx_d tX12_holds_2 43 rfl) (by decide) ?_
                          refine mx_goto (tgt := 382) (mx_d tX12_holds_2 44 rfl) (by decide) ?_
                          obtain rfl := Option.some.inj h
                          exact mx_zreturn (mx_d tX12_holds_2 53 rfl) rfl rfl ⟨rfl, rfl⟩
                    · rw [if_pos hc66] at h
                      refine mx_iload (mx_d tX12_holds_2 25 rfl) rfl ?_
                      refine mx_iload (mx_d tX12_holds_2 26 rfl) rfl ?_
                      refine mx_icmp_ge (tgt := 338) (mx_d tX12_holds_2 27 rfl) (by decide) (fun hc70 => ?_) (fun hc70 => ?_)
                      · rw [if_pos hc70] at h
                        refine mx_iconst (0) (mx_d tX12_holds_2 30 rfl) (by decide) ?_
                        refine mx_goto (tgt := 382) (mx_d tX12_holds_2 31 rfl) (by decide) ?_
                        obtain rfl := Option.some.inj h
                        exact mx_zreturn (mx_d tX12_holds_2 53 rfl) rfl rfl ⟨rfl, rfl⟩
                      · rw [if_neg hc70] at h
                        refine mx_iconst (1) (mx_d tX12_holds_2 28 rfl) (by decide) ?_
                        refine mx_goto (tgt := 382) (mx_d tX12_holds_2 29 rfl) (by decide) ?_
                        obtain rfl := Option.some.inj h
                        exact mx_zreturn (mx_d tX12_holds_2 53 rfl) rfl rfl ⟨rfl, rfl⟩
theorem CX12_holds {G : mG} {l : Launch} {e : mE} : ∀ (D : Nat) {a : Nat} {x0 : Int32} {x1 : Int32} {m : mB} {r : Int32}, ly12 e a → FX12_holds D a x0 x1 m = some r → mx_Call G l MX12_holds (4 * D) 0 0 [.ref a, .int x0, .int x1] (e, m) (fun v z => v = some (.int r) ∧ z = (e, m)) := by
  intro D
  induction D with
  | zero => intro _ _ _ _ _ _ h; cases h
  | succ D ih =>
    intro a x0 x1 m r h0 h
    rw [FX12_holds] at h
    have hh := CX12_holds_B (rec := FX12_holds D) (D := 4 * D) (fun {_ _ _} {_} {_} zh0 hz => ih zh0 hz) h0 h
    rw [show 4 * (D + 1) = 4 * D + 4 by omega]
    exact hh
def FX12_said_L22 (q0 : Nat) (y1 : Int32) (m : mB) : Nat → Int32 → Int32 → Option ((Int32 × mB) ⊕ (Int32))
  | 0, _, _ => none
  | f + 1, y2, y3 => (if (m.1 (q0 + 2) 0) ≤ y3 then (some (.inr y2)) else Option.bind (FX12_holds 64 q0 (m.1 (q0 + 2) 191) y3 m) (fun r4 => (if r4 = 0 then mx_let (y3 + 1) (fun v9 => (FX12_said_L22 q0 y1 m f y2 v9)) else (if y2 = y1 then (some (.inl (y3, m))) else mx_let (y2 + 1) (fun v7 => mx_let (y3 + 1) (fun v8 => (FX12_said_L22 q0 y1 m f v7 v8)))))))
set_option maxRecDepth 20000 in
theorem CX12_said_L22 {G : mG} {l : Launch} {e : mE} {Post : Option Value → mS → Prop} {q0 : Nat} {y1 : Int32} {m : mB} (g0 : ly12 e q0) : ∀ (f : Nat) {y2 : Int32} {y3 : Int32} {q : ((Int32 × mB) ⊕ (Int32))}, FX12_said_L22 q0 y1 m f y2 y3 = some q → (∀ rr, q = .inl rr → Post (some (.int rr.1)) (e, rr.2)) → (∀ u, q = .inr u → mx_Fr G l MX12_said 257 0 0 Post 67 [.float 0, .int y1, .int u, .float 0] [] (e, m)) → mx_Fr G l MX12_said 257 0 0 Post 22 [.ref q0, .int y1, .int y2, .int y3] [] (e, m) := by
  intro f
  induction f with
  | zero => intro _ _ _ h; cases h
  | succ f ih =>
    intro y2 y3 q h hret hex
    rw [FX12_said_L22] at h
    refine mx_iload_n (mx_d tX12_said_0 14 rfl) rfl rfl ?_
    refine mx_aload_n (mx_d tX12_said_0 15 rfl) rfl rfl ?_
    refine mx_getR (mx_d tX12_said_0 16 rfl) fX12_98 rfl rfl (ly12_o g0) (ly12_r14 g0) ?_
    refine mx_iconst (0) (mx_d tX12_said_0 17 rfl) (by decide) ?_
    refine mx_ialoadC 0 (mx_d tX12_said_0 18 rfl) (ly12_s14 g0) (by decide) (mx_inbE (by decide)) ?_
    refine mx_icmp_ge (tgt := 67) (mx_d tX12_said_0 19 rfl) (by decide) (fun hc3 => ?_) (fun hc3 => ?_)
    · rw [if_pos hc3] at h
      obtain rfl := Option.some.inj h
      refine mx_forget (L' := [.float 0, .int y1, .int y2, .float 0]) ⟨rfl, rfl, trivial⟩ ?_
      exact (hex _ rfl)
    · rw [if_neg hc3] at h
      refine mx_aload_n (mx_d tX12_said_0 20 rfl) rfl rfl ?_
      refine mx_aload_n (mx_d tX12_said_0 21 rfl) rfl rfl ?_
      refine mx_getR (mx_d tX12_said_0 22 rfl) fX12_98 rfl rfl (ly12_o g0) (ly12_r14 g0) ?_
      refine mx_sipush (191) (mx_d tX12_said_0 23 rfl) (by decide) ?_
      refine mx_ialoadC 191 (mx_d tX12_said_0 24 rfl) (ly12_s14 g0) (by decide) (mx_inbE (by decide)) ?_
      refine mx_iload_n (mx_d tX12_said_0 25 rfl) rfl rfl ?_
      obtain ⟨r4, h_r4, h⟩ := Option.bind_eq_some_iff.mp h
      refine mx_cVi (mx_d tX12_said_0 26 rfl) iX12_518 rfl vX12_holds ⟨_, rfl, rfl⟩ (ly12_o g0) (CX12_holds 64 g0 h_r4) (by decide) rfl rfl (Nat.le_of_ble_eq_true rfl) ?_
      refine mx_if_ne (tgt := 51) (mx_d tX12_said_0 27 rfl) (by decide) (fun hc5 => ?_) (fun hc5 => ?_)
      · rw [if_neg hc5] at h
        refine mx_iload_n (mx_d tX12_said_0 29 rfl) rfl rfl ?_
        refine mx_iload_n (mx_d tX12_said_0 30 rfl) rfl rfl ?_
        refine mx_icmp_ne (tgt := 58) (mx_d tX12_said_0 31 rfl) (by decide) (fun hc6 => ?_) (fun hc6 => ?_)
        · rw [if_neg hc6] at h
          obtain ⟨v7, e_v7, h⟩ := mx_letE h
          refine mx_iinc v7 (L2 := [.ref q0, .int y1, .int v7, .int y3]) (mx_d tX12_said_0 34 rfl) rfl (by rw [e_v7]; rfl) (by decide) rfl ?_
          obtain ⟨v8, e_v8, h⟩ := mx_letE h
          refine mx_iinc v8 (L2 := [.ref q0, .int y1, .int v7, .int v8]) (mx_d tX12_said_0 35 rfl) rfl (by rw [e_v8]; rfl) (by decide) rfl ?_
          refine mx_goto (tgt := 22) (mx_d tX12_said_0 36 rfl) (by decide) ?_
          exact ih h hret hex
        · rw [if_pos hc6] at h
          refine mx_iload_n (mx_d tX12_said_0 32 rfl) rfl rfl ?_
          obtain rfl := Option.some.inj h
          exact mx_ireturn (mx_d tX12_said_0 33 rfl) rfl (hret (y3, m) rfl)
      · rw [if_pos hc5] at h
        refine mx_goto (tgt := 61) (mx_d tX12_said_0 28 rfl) (by decide) ?_
        obtain ⟨v9, e_v9, h⟩ := mx_letE h
        refine mx_iinc v9 (L2 := [.ref q0, .int y1, .int y2, .int v9]) (mx_d tX12_said_0 35 rfl) rfl (by rw [e_v9]; rfl) (by decide) rfl ?_
        refine mx_goto (tgt := 22) (mx_d tX12_said_0 36 rfl) (by decide) ?_
        exact ih h hret hex
def FX12_said (a : Nat) (x0 : Int32) (m : mB) : Option (Int32 × mB) := mx_let (mx_up m.1 a 0 0, m.2) (fun m1 => (if (m1.1 (a + 2) 190) = 0 then (some ((-1), m1)) else Option.bind (FX12_said_L22 a x0 m1 mx_FU 0 0) (fun q10 => Sum.elim (fun rr => some rr) (fun u11 => (if x0 = (-1) then (some (u11, m1)) else (some ((-1), m1)))) q10)))
set_option maxRecDepth 20000 in
theorem CX12_said {G : mG} {l : Launch} {e : mE} {a : Nat} {x0 : Int32} {m : mB} {r : (Int32 × mB)} (h0 : ly12 e a) (h : FX12_said a x0 m = some r) : mx_Call G l MX12_said 257 0 0 [.ref a, .int x0] (e, m) (fun v z => v = some (.int r.1) ∧ z = (e, r.2)) := by
  refine mx_entry (L := [.ref a, .int x0, .float 0, .float 0]) (by decide +kernel) (Nat.le_of_ble_eq_true rfl) rfl ?_
  unfold FX12_said at h
  refine mx_aload_n (mx_d tX12_said_0 0 rfl) rfl rfl ?_
  refine mx_iconst (0) (mx_d tX12_said_0 1 rfl) (by decide) ?_
  obtain ⟨m1, e_m1, h⟩ := mx_letE h
  refine mx_putI (mx_d tX12_said_0 2 rfl) fX12_1 rfl ⟨_, rfl, rfl⟩ rfl (ly12_o h0) (mx_eqz (z' := (e, m1)) (by rw [e_m1]) ?_)
  refine mx_aload_n (mx_d tX12_said_0 3 rfl) rfl rfl ?_
  refine mx_getR (mx_d tX12_said_0 4 rfl) fX12_98 rfl rfl (ly12_o h0) (ly12_r14 h0) ?_
  refine mx_sipush (190) (mx_d tX12_said_0 5 rfl) (by decide) ?_
  refine mx_ialoadC 190 (mx_d tX12_said_0 6 rfl) (ly12_s14 h0) (by decide) (mx_inbE (by decide)) ?_
  refine mx_if_ne (tgt := 18) (mx_d tX12_said_0 7 rfl) (by decide) (fun hc2 => ?_) (fun hc2 => ?_)
  · rw [if_neg hc2] at h
    refine mx_iconst (0) (mx_d tX12_said_0 10 rfl) (by decide) ?_
    refine mx_istore_n (L2 := [.ref a, .int x0, .int 0, .float 0]) (mx_d tX12_said_0 11 rfl) rfl (by decide) (by rfl) ?_
    refine mx_iconst (0) (mx_d tX12_said_0 12 rfl) (by decide) ?_
    refine mx_istore_n (L2 := [.ref a, .int x0, .int 0, .int 0]) (mx_d tX12_said_0 13 rfl) rfl (by decide) (by rfl) ?_
    obtain ⟨q10, h_q10, h⟩ := Option.bind_eq_some_iff.mp h
    refine CX12_said_L22 h0 mx_FU h_q10 (fun rr12 e_rr12 => ?_) (fun u11 e_u11 => ?_)
    · subst e_rr12
      rw [Sum.elim_inl] at h
      obtain rfl := Option.some.inj h
      exact ⟨rfl, rfl⟩
    · subst e_u11
      rw [Sum.elim_inr] at h
      refine mx_iload_n (mx_d tX12_said_0 37 rfl) rfl rfl ?_
      refine mx_iconst ((-1)) (mx_d tX12_said_0 38 rfl) (by decide) ?_
      refine mx_icmp_ne (tgt := 76) (mx_d tX12_said_0 39 rfl) (by decide) (fun hc13 => ?_) (fun hc13 => ?_)
      · rw [if_neg hc13] at h
        refine mx_iconst ((-1)) (mx_d tX12_said_0 42 rfl) (by decide) ?_
        obtain rfl := Option.some.inj h
        exact mx_ireturn (mx_d tX12_said_0 43 rfl) rfl ⟨rfl, rfl⟩
      · rw [if_pos hc13] at h
        refine mx_iload_n (mx_d tX12_said_0 40 rfl) rfl rfl ?_
        refine mx_goto (tgt := 77) (mx_d tX12_said_0 41 rfl) (by decide) ?_
        obtain rfl := Option.some.inj h
        exact mx_ireturn (mx_d tX12_said_0 43 rfl) rfl ⟨rfl, rfl⟩
  · rw [if_pos hc2] at h
    refine mx_iconst ((-1)) (mx_d tX12_said_0 8 rfl) (by decide) ?_
    obtain rfl := Option.some.inj h
    exact mx_ireturn (mx_d tX12_said_0 9 rfl) rfl ⟨rfl, rfl⟩
def FX12_image_L18 (q0 : Nat) (y1 : Int32) : Nat → Int32 → mB → Option (mB)
  | 0, _, _ => none
  | f + 1, y2, m => (if 432 ≤ y2 then (some (m)) else mx_chk (mx_inb y2 432) (mx_chk (mx_inb ((432 * y1) + y2) 864) (mx_let (mx_up m.1 (q0 + 4) (Int32.toNatClampNeg ((432 * y1) + y2)) (m.1 (q0 + 2) (Int32.toNatClampNeg y2)), m.2) (fun m6 => mx_let (y2 + 1) (fun v8 => (FX12_image_L18 q0 y1 f v8 m6))))))
set_option maxRecDepth 20000 in
theorem CX12_image_L18 {G : mG} {l : Launch} {e : mE} {Post : Option Value → mS → Prop} {q0 : Nat} {y1 : Int32} (g0 : ly12 e q0) : ∀ (f : Nat) {y2 : Int32} {m : mB} {q : (mB)}, FX12_image_L18 q0 y1 f y2 m = some q → (mx_Fr G l MX12_image 2 0 0 Post 49 [.ref q0, .int y1, .float 0] [] (e, q)) → mx_Fr G l MX12_image 2 0 0 Post 18 [.ref q0, .int y1, .int y2] [] (e, m) := by
  intro f
  induction f with
  | zero => intro _ _ _ h; cases h
  | succ f ih =>
    intro y2 m q h hex
    rw [FX12_image_L18] at h
    refine mx_iload_n (mx_d tX12_image_0 12 rfl) rfl rfl ?_
    refine mx_sipush (432) (mx_d tX12_image_0 13 rfl) (by decide) ?_
    refine mx_icmp_ge (tgt := 49) (mx_d tX12_image_0 14 rfl) (by decide) (fun hc4 => ?_) (fun hc4 => ?_)
    · rw [if_pos hc4] at h
      obtain rfl := Option.some.inj h
      refine mx_forget (L' := [.ref q0, .int y1, .float 0]) ⟨rfl, rfl, trivial⟩ ?_
      exact hex
    · rw [if_neg hc4] at h
      refine mx_aload_n (mx_d tX12_image_0 15 rfl) rfl rfl ?_
      refine mx_getR (mx_d tX12_image_0 16 rfl) fX12_104 rfl rfl (ly12_o g0) (ly12_r16 g0) ?_
      refine mx_sipush (432) (mx_d tX12_image_0 17 rfl) (by decide) ?_
      refine mx_iload_n (mx_d tX12_image_0 18 rfl) rfl rfl ?_
      refine mx_imul (mx_d tX12_image_0 19 rfl) ?_
      refine mx_iload_n (mx_d tX12_image_0 20 rfl) rfl rfl ?_
      refine mx_iadd (mx_d tX12_image_0 21 rfl) ?_
      refine mx_aload_n (mx_d tX12_image_0 22 rfl) rfl rfl ?_
      refine mx_getR (mx_d tX12_image_0 23 rfl) fX12_98 rfl rfl (ly12_o g0) (ly12_r14 g0) ?_
      refine mx_iload_n (mx_d tX12_image_0 24 rfl) rfl rfl ?_
      obtain ⟨hi5, h⟩ := mx_chkE h
      refine mx_iaload (mx_d tX12_image_0 25 rfl) (ly12_s14 g0) (mx_inbE hi5) ?_
      obtain ⟨hi7, h⟩ := mx_chkE h
      obtain ⟨m6, e_m6, h⟩ := mx_letE h
      refine mx_iastore (mx_d tX12_image_0 26 rfl) (ly12_s16 g0) (mx_inbE hi7) (mx_eqz (z' := (e, m6)) (by rw [e_m6]) ?_)
      obtain ⟨v8, e_v8, h⟩ := mx_letE h
      refine mx_iinc v8 (L2 := [.ref q0, .int y1, .int v8]) (mx_d tX12_image_0 27 rfl) rfl (by rw [e_v8]; rfl) (by decide) rfl ?_
      refine mx_goto (tgt := 18) (mx_d tX12_image_0 28 rfl) (by decide) ?_
      exact ih h hex
def FX12_image_L51 (q0 : Nat) (y1 : Int32) : Nat → Int32 → mB → Option (mB)
  | 0, _, _ => none
  | f + 1, y2, m => (if 10 ≤ y2 then (some (m)) else mx_chk (mx_inb y2 10) (mx_chk (mx_inb ((10 * y1) + y2) 20) (mx_let (m.1, mx_ul m.2 (q0 + 10) (Int32.toNatClampNeg ((10 * y1) + y2)) (m.2 (q0 + 8) (Int32.toNatClampNeg y2))) (fun m12 => mx_let (y2 + 1) (fun v14 => (FX12_image_L51 q0 y1 f v14 m12))))))
set_option maxRecDepth 20000 in
theorem CX12_image_L51 {G : mG} {l : Launch} {e : mE} {Post : Option Value → mS → Prop} {q0 : Nat} {y1 : Int32} (g0 : ly12 e q0) : ∀ (f : Nat) {y2 : Int32} {m : mB} {q : (mB)}, FX12_image_L51 q0 y1 f y2 m = some q → (mx_Fr G l MX12_image 2 0 0 Post 80 [.ref q0, .int y1, .float 0] [] (e, q)) → mx_Fr G l MX12_image 2 0 0 Post 51 [.ref q0, .int y1, .int y2] [] (e, m) := by
  intro f
  induction f with
  | zero => intro _ _ _ h; cases h
  | succ f ih =>
    intro y2 m q h hex
    rw [FX12_image_L51] at h
    refine mx_iload_n (mx_d tX12_image_0 31 rfl) rfl rfl ?_
    refine mx_bipush (10) (mx_d tX12_image_0 32 rfl) (by decide) ?_
    refine mx_icmp_ge (tgt := 80) (mx_d tX12_image_0 33 rfl) (by decide) (fun hc10 => ?_) (fun hc10 => ?_)
    · rw [if_pos hc10] at h
      obtain rfl := Option.some.inj h
      refine mx_forget (L' := [.ref q0, .int y1, .float 0]) ⟨rfl, rfl, trivial⟩ ?_
      exact hex
    · rw [if_neg hc10] at h
      refine mx_aload_n (mx_d tX12_image_0 34 rfl) rfl rfl ?_
      refine mx_getR (mx_d tX12_image_0 35 rfl) fX12_123 rfl rfl (ly12_o g0) (ly12_r22 g0) ?_
      refine mx_bipush (10) (mx_d tX12_image_0 36 rfl) (by decide) ?_
      refine mx_iload_n (mx_d tX12_image_0 37 rfl) rfl rfl ?_
      refine mx_imul (mx_d tX12_image_0 38 rfl) ?_
      refine mx_iload_n (mx_d tX12_image_0 39 rfl) rfl rfl ?_
      refine mx_iadd (mx_d tX12_image_0 40 rfl) ?_
      refine mx_aload_n (mx_d tX12_image_0 41 rfl) rfl rfl ?_
      refine mx_getR (mx_d tX12_image_0 42 rfl) fX12_116 rfl rfl (ly12_o g0) (ly12_r20 g0) ?_
      refine mx_iload_n (mx_d tX12_image_0 43 rfl) rfl rfl ?_
      obtain ⟨hi11, h⟩ := mx_chkE h
      refine mx_laload (mx_d tX12_image_0 44 rfl) (ly12_s20 g0) (mx_inbE hi11) ?_
      obtain ⟨hi13, h⟩ := mx_chkE h
      obtain ⟨m12, e_m12, h⟩ := mx_letE h
      refine mx_lastore (mx_d tX12_image_0 45 rfl) (ly12_s22 g0) (mx_inbE hi13) (mx_eqz (z' := (e, m12)) (by rw [e_m12]) ?_)
      obtain ⟨v14, e_v14, h⟩ := mx_letE h
      refine mx_iinc v14 (L2 := [.ref q0, .int y1, .int v14]) (mx_d tX12_image_0 46 rfl) rfl (by rw [e_v14]; rfl) (by decide) rfl ?_
      refine mx_goto (tgt := 51) (mx_d tX12_image_0 47 rfl) (by decide) ?_
      exact ih h hex
def FX12_image (a : Nat) (x0 : Int32) (m : mB) : Option (Int32 × mB) := mx_let (mx_up m.1 a 0 0, m.2) (fun m1 => Option.bind (FX12_isIn x0 0 1 m1) (fun r2 => (if r2 = 0 then (some (0, m1)) else Option.bind (FX12_image_L18 a x0 mx_FU 0 m1) (fun q9 => Option.bind (FX12_image_L51 a x0 mx_FU 0 q9) (fun q15 => mx_chk (mx_inb x0 2) (mx_let (mx_up q15.1 (a + 11) (Int32.toNatClampNeg x0) 1, q15.2) (fun m16 => (some (1, m16)))))))))
set_option maxRecDepth 20000 in
theorem CX12_image {G : mG} {l : Launch} {e : mE} {a : Nat} {x0 : Int32} {m : mB} {r : (Int32 × mB)} (h0 : ly12 e a) (h : FX12_image a x0 m = some r) : mx_Call G l MX12_image 2 0 0 [.ref a, .int x0] (e, m) (fun v z => v = some (.int r.1) ∧ z = (e, r.2)) := by
  refine mx_entry (L := [.ref a, .int x0, .float 0]) (by decide +kernel) (Nat.le_of_ble_eq_true rfl) rfl ?_
  unfold FX12_image at h
  refine mx_aload_n (mx_d tX12_image_0 0 rfl) rfl rfl ?_
  refine mx_iconst (0) (mx_d tX12_image_0 1 rfl) (by decide) ?_
  obtain ⟨m1, e_m1, h⟩ := mx_letE h
  refine mx_putI (mx_d tX12_image_0 2 rfl) fX12_1 rfl ⟨_, rfl, rfl⟩ rfl (ly12_o h0) (mx_eqz (z' := (e, m1)) (by rw [e_m1]) ?_)
  refine mx_iload_n (mx_d tX12_image_0 3 rfl) rfl rfl ?_
  refine mx_iconst (0) (mx_d tX12_image_0 4 rfl) (by decide) ?_
  refine mx_iconst (1) (mx_d tX12_image_0 5 rfl) (by decide) ?_
  obtain ⟨r2, h_r2, h⟩ := Option.bind_eq_some_iff.mp h
  refine mx_cSi (mx_d tX12_image_0 6 rfl) iX12_75 rfl sX12_isIn (CX12_isIn  h_r2) (by decide) rfl rfl (Nat.le_of_ble_eq_true rfl) ?_
  refine mx_if_ne (tgt := 16) (mx_d tX12_image_0 7 rfl) (by decide) (fun hc3 => ?_) (fun hc3 => ?_)
  · rw [if_neg hc3] at h
    refine mx_iconst (0) (mx_d tX12_image_0 10 rfl) (by decide) ?_
    refine mx_istore_n (L2 := [.ref a, .int x0, .int 0]) (mx_d tX12_image_0 11 rfl) rfl (by decide) (by rfl) ?_
    obtain ⟨q9, h_q9, h⟩ := Option.bind_eq_some_iff.mp h
    refine CX12_image_L18 h0 mx_FU h_q9 ?_
    refine mx_iconst (0) (mx_d tX12_image_0 29 rfl) (by decide) ?_
    refine mx_istore_n (L2 := [.ref a, .int x0, .int 0]) (mx_d tX12_image_0 30 rfl) rfl (by decide) (by rfl) ?_
    obtain ⟨q15, h_q15, h⟩ := Option.bind_eq_some_iff.mp h
    refine CX12_image_L51 h0 mx_FU h_q15 ?_
    refine mx_aload_n (mx_d tX12_image_0 48 rfl) rfl rfl ?_
    refine mx_getR (mx_d tX12_image_0 49 rfl) fX12_126 rfl rfl (ly12_o h0) (ly12_r23 h0) ?_
    refine mx_iload_n (mx_d tX12_image_0 50 rfl) rfl rfl ?_
    refine mx_iconst (1) (mx_d tX12_image_0 51 rfl) (by decide) ?_
    obtain ⟨hi17, h⟩ := mx_chkE h
    obtain ⟨m16, e_m16, h⟩ := mx_letE h
    refine mx_bastore (mx_d tX12_image_0 52 rfl) (ly12_s23 h0) (mx_inbE hi17) (by decide) (mx_eqz (z' := (e, m16)) (by rw [e_m16]) ?_)
    refine mx_iconst (1) (mx_d tX12_image_0 53 rfl) (by decide) ?_
    obtain rfl := Option.some.inj h
    exact mx_zreturn (mx_d tX12_image_0 54 rfl) rfl rfl ⟨rfl, rfl⟩
  · rw [if_pos hc3] at h
    refine mx_iconst (0) (mx_d tX12_image_0 8 rfl) (by decide) ?_
    obtain rfl := Option.some.inj h
    exact mx_zreturn (mx_d tX12_image_0 9 rfl) rfl rfl ⟨rfl, rfl⟩
def FX12_restore_L27 (q0 : Nat) (y1 : Int32) : Nat → Int32 → mB → Option (mB)
  | 0, _, _ => none
  | f + 1, y2, m => (if 432 ≤ y2 then (some (m)) else mx_chk (mx_inb ((432 * y1) + y2) 864) (mx_chk (mx_inb y2 432) (mx_let (mx_up m.1 (q0 + 2) (Int32.toNatClampNeg y2) (m.1 (q0 + 4) (Int32.toNatClampNeg ((432 * y1) + y2))), m.2) (fun m8 => mx_let (y2 + 1) (fun v10 => (FX12_restore_L27 q0 y1 f v10 m8))))))
set_option maxRecDepth 20000 in
theorem CX12_restore_L27 {G : mG} {l : Launch} {e : mE} {Post : Option Value → mS → Prop} {q0 : Nat} {y1 : Int32} (g0 : ly12 e q0) : ∀ (f : Nat) {y2 : Int32} {m : mB} {q : (mB)}, FX12_restore_L27 q0 y1 f y2 m = some q → (mx_Fr G l MX12_restore 2 0 0 Post 58 [.ref q0, .int y1, .float 0] [] (e, q)) → mx_Fr G l MX12_restore 2 0 0 Post 27 [.ref q0, .int y1, .int y2] [] (e, m) := by
  intro f
  induction f with
  | zero => intro _ _ _ h; cases h
  | succ f ih =>
    intro y2 m q h hex
    rw [FX12_restore_L27] at h
    refine mx_iload_n (mx_d tX12_restore_0 17 rfl) rfl rfl ?_
    refine mx_sipush (432) (mx_d tX12_restore_0 18 rfl) (by decide) ?_
    refine mx_icmp_ge (tgt := 58) (mx_d tX12_restore_0 19 rfl) (by decide) (fun hc6 => ?_) (fun hc6 => ?_)
    · rw [if_pos hc6] at h
      obtain rfl := Option.some.inj h
      refine mx_forget (L' := [.ref q0, .int y1, .float 0]) ⟨rfl, rfl, trivial⟩ ?_
      exact hex
    · rw [if_neg hc6] at h
      refine mx_aload_n (mx_d tX12_restore_0 20 rfl) rfl rfl ?_
      refine mx_getR (mx_d tX12_restore_0 21 rfl) fX12_98 rfl rfl (ly12_o g0) (ly12_r14 g0) ?_
      refine mx_iload_n (mx_d tX12_restore_0 22 rfl) rfl rfl ?_
      refine mx_aload_n (mx_d tX12_restore_0 23 rfl) rfl rfl ?_
      refine mx_getR (mx_d tX12_restore_0 24 rfl) fX12_104 rfl rfl (ly12_o g0) (ly12_r16 g0) ?_
      refine mx_sipush (432) (mx_d tX12_restore_0 25 rfl) (by decide) ?_
      refine mx_iload_n (mx_d tX12_restore_0 26 rfl) rfl rfl ?_
      refine mx_imul (mx_d tX12_restore_0 27 rfl) ?_
      refine mx_iload_n (mx_d tX12_restore_0 28 rfl) rfl rfl ?_
      refine mx_iadd (mx_d tX12_restore_0 29 rfl) ?_
      obtain ⟨hi7, h⟩ := mx_chkE h
      refine mx_iaload (mx_d tX12_restore_0 30 rfl) (ly12_s16 g0) (mx_inbE hi7) ?_
      obtain ⟨hi9, h⟩ := mx_chkE h
      obtain ⟨m8, e_m8, h⟩ := mx_letE h
      refine mx_iastore (mx_d tX12_restore_0 31 rfl) (ly12_s14 g0) (mx_inbE hi9) (mx_eqz (z' := (e, m8)) (by rw [e_m8]) ?_)
      obtain ⟨v10, e_v10, h⟩ := mx_letE h
      refine mx_iinc v10 (L2 := [.ref q0, .int y1, .int v10]) (mx_d tX12_restore_0 32 rfl) rfl (by rw [e_v10]; rfl) (by decide) rfl ?_
      refine mx_goto (tgt := 27) (mx_d tX12_restore_0 33 rfl) (by decide) ?_
      exact ih h hex
def FX12_restore_L60 (q0 : Nat) (y1 : Int32) : Nat → Int32 → mB → Option (mB)
  | 0, _, _ => none
  | f + 1, y2, m => (if 10 ≤ y2 then (some (m)) else mx_chk (mx_inb ((10 * y1) + y2) 20) (mx_chk (mx_inb y2 10) (mx_let (m.1, mx_ul m.2 (q0 + 8) (Int32.toNatClampNeg y2) (m.2 (q0 + 10) (Int32.toNatClampNeg ((10 * y1) + y2)))) (fun m14 => mx_let (y2 + 1) (fun v16 => (FX12_restore_L60 q0 y1 f v16 m14))))))
set_option maxRecDepth 20000 in
theorem CX12_restore_L60 {G : mG} {l : Launch} {e : mE} {Post : Option Value → mS → Prop} {q0 : Nat} {y1 : Int32} (g0 : ly12 e q0) : ∀ (f : Nat) {y2 : Int32} {m : mB} {q : (mB)}, FX12_restore_L60 q0 y1 f y2 m = some q → (mx_Fr G l MX12_restore 2 0 0 Post 89 [.ref q0, .float 0, .float 0] [] (e, q)) → mx_Fr G l MX12_restore 2 0 0 Post 60 [.ref q0, .int y1, .int y2] [] (e, m) := by
  intro f
  induction f with
  | zero => intro _ _ _ h; cases h
  | succ f ih =>
    intro y2 m q h hex
    rw [FX12_restore_L60] at h
    refine mx_iload_n (mx_d tX12_restore_0 36 rfl) rfl rfl ?_
    refine mx_bipush (10) (mx_d tX12_restore_0 37 rfl) (by decide) ?_
    refine mx_icmp_ge (tgt := 89) (mx_d tX12_restore_0 38 rfl) (by decide) (fun hc12 => ?_) (fun hc12 => ?_)
    · rw [if_pos hc12] at h
      obtain rfl := Option.some.inj h
      refine mx_forget (L' := [.ref q0, .float 0, .float 0]) ⟨rfl, trivial⟩ ?_
      exact hex
    · rw [if_neg hc12] at h
      refine mx_aload_n (mx_d tX12_restore_0 39 rfl) rfl rfl ?_
      refine mx_getR (mx_d tX12_restore_0 40 rfl) fX12_116 rfl rfl (ly12_o g0) (ly12_r20 g0) ?_
      refine mx_iload_n (mx_d tX12_restore_0 41 rfl) rfl rfl ?_
      refine mx_aload_n (mx_d tX12_restore_0 42 rfl) rfl rfl ?_
      refine mx_getR (mx_d tX12_restore_0 43 rfl) fX12_123 rfl rfl (ly12_o g0) (ly12_r22 g0) ?_
      refine mx_bipush (10) (mx_d tX12_restore_0 44 rfl) (by decide) ?_
      refine mx_iload_n (mx_d tX12_restore_0 45 rfl) rfl rfl ?_
      refine mx_imul (mx_d tX12_restore_0 46 rfl) ?_
      refine mx_iload_n (mx_d tX12_restore_0 47 rfl) rfl rfl ?_
      refine mx_iadd (mx_d tX12_restore_0 48 rfl) ?_
      obtain ⟨hi13, h⟩ := mx_chkE h
      refine mx_laload (mx_d tX12_restore_0 49 rfl) (ly12_s22 g0) (mx_inbE hi13) ?_
      obtain ⟨hi15, h⟩ := mx_chkE h
      obtain ⟨m14, e_m14, h⟩ := mx_letE h
      refine mx_lastore (mx_d tX12_restore_0 50 rfl) (ly12_s20 g0) (mx_inbE hi15) (mx_eqz (z' := (e, m14)) (by rw [e_m14]) ?_)
      obtain ⟨v16, e_v16, h⟩ := mx_letE h
      refine mx_iinc v16 (L2 := [.ref q0, .int y1, .int v16]) (mx_d tX12_restore_0 51 rfl) rfl (by rw [e_v16]; rfl) (by decide) rfl ?_
      refine mx_goto (tgt := 60) (mx_d tX12_restore_0 52 rfl) (by decide) ?_
      exact ih h hex
def FX12_restore (a : Nat) (x0 : Int32) (m : mB) : Option (Int32 × mB) := mx_let (mx_up m.1 a 0 0, m.2) (fun m1 => Option.bind (FX12_isIn x0 0 1 m1) (fun r2 => (if r2 = 0 then (some (0, m1)) else mx_chk (mx_inb x0 2) ((if (m1.1 (a + 11) (Int32.toNatClampNeg x0)) = 0 then (some (0, m1)) else Option.bind (FX12_restore_L27 a x0 mx_FU 0 m1) (fun q11 => Option.bind (FX12_restore_L60 a x0 mx_FU 0 q11) (fun q17 => mx_let (mx_up q17.1 a 25 0, q17.2) (fun m18 => (some (1, m18))))))))))
set_option maxRecDepth 20000 in
theorem CX12_restore {G : mG} {l : Launch} {e : mE} {a : Nat} {x0 : Int32} {m : mB} {r : (Int32 × mB)} (h0 : ly12 e a) (h : FX12_restore a x0 m = some r) : mx_Call G l MX12_restore 2 0 0 [.ref a, .int x0] (e, m) (fun v z => v = some (.int r.1) ∧ z = (e, r.2)) := by
  refine mx_entry (L := [.ref a, .int x0, .float 0]) (by decide +kernel) (Nat.le_of_ble_eq_true rfl) rfl ?_
  unfold FX12_restore at h
  refine mx_aload_n (mx_d tX12_restore_0 0 rfl) rfl rfl ?_
  refine mx_iconst (0) (mx_d tX12_restore_0 1 rfl) (by decide) ?_
  obtain ⟨m1, e_m1, h⟩ := mx_letE h
  refine mx_putI (mx_d tX12_restore_0 2 rfl) fX12_1 rfl ⟨_, rfl, rfl⟩ rfl (ly12_o h0) (mx_eqz (z' := (e, m1)) (by rw [e_m1]) ?_)
  refine mx_iload_n (mx_d tX12_restore_0 3 rfl) rfl rfl ?_
  refine mx_iconst (0) (mx_d tX12_restore_0 4 rfl) (by decide) ?_
  refine mx_iconst (1) (mx_d tX12_restore_0 5 rfl) (by decide) ?_
  obtain ⟨r2, h_r2, h⟩ := Option.bind_eq_some_iff.mp h
  refine mx_cSi (mx_d tX12_restore_0 6 rfl) iX12_75 rfl sX12_isIn (CX12_isIn  h_r2) (by decide) rfl rfl (Nat.le_of_ble_eq_true rfl) ?_
  refine mx_if_eq (tgt := 23) (mx_d tX12_restore_0 7 rfl) (by decide) (fun hc3 => ?_) (fun hc3 => ?_)
  · rw [if_pos hc3] at h
    refine mx_iconst (0) (mx_d tX12_restore_0 13 rfl) (by decide) ?_
    obtain rfl := Option.some.inj h
    exact mx_zreturn (mx_d tX12_restore_0 14 rfl) rfl rfl ⟨rfl, rfl⟩
  · rw [if_neg hc3] at h
    refine mx_aload_n (mx_d tX12_restore_0 8 rfl) rfl rfl ?_
    refine mx_getR (mx_d tX12_restore_0 9 rfl) fX12_126 rfl rfl (ly12_o h0) (ly12_r23 h0) ?_
    refine mx_iload_n (mx_d tX12_restore_0 10 rfl) rfl rfl ?_
    obtain ⟨hi4, h⟩ := mx_chkE h
    refine mx_baload (mx_d tX12_restore_0 11 rfl) (ly12_s23 h0) (mx_inbE hi4) ?_
    refine mx_if_ne (tgt := 25) (mx_d tX12_restore_0 12 rfl) (by decide) (fun hc5 => ?_) (fun hc5 => ?_)
    · rw [if_neg hc5] at h
      refine mx_iconst (0) (mx_d tX12_restore_0 15 rfl) (by decide) ?_
      refine mx_istore_n (L2 := [.ref a, .int x0, .int 0]) (mx_d tX12_restore_0 16 rfl) rfl (by decide) (by rfl) ?_
      obtain ⟨q11, h_q11, h⟩ := Option.bind_eq_some_iff.mp h
      refine CX12_restore_L27 h0 mx_FU h_q11 ?_
      refine mx_iconst (0) (mx_d tX12_restore_0 34 rfl) (by decide) ?_
      refine mx_istore_n (L2 := [.ref a, .int x0, .int 0]) (mx_d tX12_restore_0 35 rfl) rfl (by decide) (by rfl) ?_
      obtain ⟨q17, h_q17, h⟩ := Option.bind_eq_some_iff.mp h
      refine CX12_restore_L60 h0 mx_FU h_q17 ?_
      refine mx_aload_n (mx_d tX12_restore_0 53 rfl) rfl rfl ?_
      refine mx_iconst (0) (mx_d tX12_restore_0 54 rfl) (by decide) ?_
      obtain ⟨m18, e_m18, h⟩ := mx_letE h
      refine mx_putI (mx_d tX12_restore_0 55 rfl) fX12_244 rfl ⟨_, rfl, rfl⟩ rfl (ly12_o h0) (mx_eqz (z' := (e, m18)) (by rw [e_m18]) ?_)
      refine mx_iconst (1) (mx_d tX12_restore_0 56 rfl) (by decide) ?_
      obtain rfl := Option.some.inj h
      exact mx_zreturn (mx_d tX12_restore_0 57 rfl) rfl rfl ⟨rfl, rfl⟩
    · rw [if_pos hc5] at h
      refine mx_iconst (0) (mx_d tX12_restore_0 13 rfl) (by decide) ?_
      obtain rfl := Option.some.inj h
      exact mx_zreturn (mx_d tX12_restore_0 14 rfl) rfl rfl ⟨rfl, rfl⟩
def FX12_count (a : Nat) (x0 : Int32) (m : mB) : Option (Int32 × mB) := mx_let (mx_up m.1 a 0 0, m.2) (fun m1 => (if x0 = 0 then (some ((m1.1 (a + 2) 0), m1)) else if x0 = 1 then (some ((m1.1 (a + 2) 1), m1)) else if x0 = 2 then (some ((m1.1 (a + 2) 125), m1)) else if x0 = 3 then (some ((m1.1 a 2), m1)) else (some ((-1), m1))))
set_option maxRecDepth 20000 in
theorem CX12_count {G : mG} {l : Launch} {e : mE} {a : Nat} {x0 : Int32} {m : mB} {r : (Int32 × mB)} (h0 : ly12 e a) (h : FX12_count a x0 m = some r) : mx_Call G l MX12_count 1 0 0 [.ref a, .int x0] (e, m) (fun v z => v = some (.int r.1) ∧ z = (e, r.2)) := by
  refine mx_entry (L := [.ref a, .int x0]) (by decide +kernel) (Nat.le_of_ble_eq_true rfl) rfl ?_
  unfold FX12_count at h
  refine mx_aload_n (mx_d tX12_count_0 0 rfl) rfl rfl ?_
  refine mx_iconst (0) (mx_d tX12_count_0 1 rfl) (by decide) ?_
  obtain ⟨m1, e_m1, h⟩ := mx_letE h
  refine mx_putI (mx_d tX12_count_0 2 rfl) fX12_1 rfl ⟨_, rfl, rfl⟩ rfl (ly12_o h0) (mx_eqz (z' := (e, m1)) (by rw [e_m1]) ?_)
  refine mx_iload_n (mx_d tX12_count_0 3 rfl) rfl rfl ?_
  by_cases hc2 : x0 = 0
  · rw [if_pos hc2] at h
    refine mx_tableIn (tgt := 36) (mx_d tX12_count_0 4 rfl) (by rw [hc2]; decide) (by rw [hc2]; decide) (by rw [hc2]; rfl) (by decide) ?_
    refine mx_aload_n (mx_d tX12_count_0 5 rfl) rfl rfl ?_
    refine mx_getR (mx_d tX12_count_0 6 rfl) fX12_98 rfl rfl (ly12_o h0) (ly12_r14 h0) ?_
    refine mx_iconst (0) (mx_d tX12_count_0 7 rfl) (by decide) ?_
    refine mx_ialoadC 0 (mx_d tX12_count_0 8 rfl) (ly12_s14 h0) (by decide) (mx_inbE (by decide)) ?_
    obtain rfl := Option.some.inj h
    exact mx_ireturn (mx_d tX12_count_0 9 rfl) rfl ⟨rfl, rfl⟩
  · rw [if_neg hc2] at h
    by_cases hc3 : x0 = 1
    · rw [if_pos hc3] at h
      refine mx_tableIn (tgt := 43) (mx_d tX12_count_0 4 rfl) (by rw [hc3]; decide) (by rw [hc3]; decide) (by rw [hc3]; rfl) (by decide) ?_
      refine mx_aload_n (mx_d tX12_count_0 10 rfl) rfl rfl ?_
      refine mx_getR (mx_d tX12_count_0 11 rfl) fX12_98 rfl rfl (ly12_o h0) (ly12_r14 h0) ?_
      refine mx_iconst (1) (mx_d tX12_count_0 12 rfl) (by decide) ?_
      refine mx_ialoadC 1 (mx_d tX12_count_0 13 rfl) (ly12_s14 h0) (by decide) (mx_inbE (by decide)) ?_
      obtain rfl := Option.some.inj h
      exact mx_ireturn (mx_d tX12_count_0 14 rfl) rfl ⟨rfl, rfl⟩
    · rw [if_neg hc3] at h
      by_cases hc4 : x0 = 2
      · rw [if_pos hc4] at h
        refine mx_tableIn (tgt := 50) (mx_d tX12_count_0 4 rfl) (by rw [hc4]; decide) (by rw [hc4]; decide) (by rw [hc4]; rfl) (by decide) ?_
        refine mx_aload_n (mx_d tX12_count_0 15 rfl) rfl rfl ?_
        refine mx_getR (mx_d tX12_count_0 16 rfl) fX12_98 rfl rfl (ly12_o h0) (ly12_r14 h0) ?_
        refine mx_bipush (125) (mx_d tX12_count_0 17 rfl) (by decide) ?_
        refine mx_ialoadC 125 (mx_d tX12_count_0 18 rfl) (ly12_s14 h0) (by decide) (mx_inbE (by decide)) ?_
        obtain rfl := Option.some.inj h
        exact mx_ireturn (mx_d tX12_count_0 19 rfl) rfl ⟨rfl, rfl⟩
      · rw [if_neg hc4] at h
        by_cases hc5 : x0 = 3
        · rw [if_pos hc5] at h
          refine mx_tableIn (tgt := 58) (mx_d tX12_count_0 4 rfl) (by rw [hc5]; decide) (by rw [hc5]; decide) (by rw [hc5]; rfl) (by decide) ?_
          refine mx_aload_n (mx_d tX12_count_0 20 rfl) rfl rfl ?_
          refine mx_getI (mx_d tX12_count_0 21 rfl) fX12_11 rfl (Or.inl rfl) (ly12_o h0) ?_
          obtain rfl := Option.some.inj h
          exact mx_ireturn (mx_d tX12_count_0 22 rfl) rfl ⟨rfl, rfl⟩
        · rw [if_neg hc5] at h
          have z_hc2 := lv_neT hc2 (a := 0) (by decide)
          have z_hc3 := lv_neT hc3 (a := 1) (by decide)
          have z_hc4 := lv_neT hc4 (a := 2) (by decide)
          have z_hc5 := lv_neT hc5 (a := 3) (by decide)
          refine mx_tableOut (tgt := 63) (mx_d tX12_count_0 4 rfl) (by omega) (by decide) ?_
          refine mx_iconst ((-1)) (mx_d tX12_count_0 23 rfl) (by decide) ?_
          obtain rfl := Option.some.inj h
          exact mx_ireturn (mx_d tX12_count_0 24 rfl) rfl ⟨rfl, rfl⟩
