def FX2_slotKnown (a : Nat) (x0 : Int32) (m : mB) : Option Int32 := mx_let ((some 0)) (fun k2 => (if x0 < 0 then k2 else (if 1024 ≤ x0 then k2 else mx_chk (mx_inb x0 1024) (mx_let (m.1 (a + 12) (Int32.toNatClampNeg x0)) (fun v7 => (if v7 < 0 then (some 0) else (if 144 ≤ v7 then (some 0) else (some v7))))))))
set_option maxRecDepth 20000 in
theorem CX2_slotKnown {G : mG} {l : Launch} {e : mE} {a : Nat} {x0 : Int32} {m : mB} {r : Int32} (h0 : ly2 e a) (h : FX2_slotKnown a x0 m = some r) : mx_Call G l MX2_slotKnown 1 0 0 [.ref a, .int x0] (e, m) (fun v z => v = some (.int r) ∧ z = (e, m)) := by
  refine mx_entry (L := [.ref a, .int x0, .float 0]) (by decide +kernel) (Nat.le_of_ble_eq_true rfl) rfl ?_
  unfold FX2_slotKnown at h
  refine mx_iload_n (mx_d tX2_slotKnown_0 0 rfl) rfl rfl ?_
  refine mx_letK (J := fun k2 => k2 = some r → mx_Fr G l MX2_slotKnown 1 0 0 (fun v z => v = some (.int r) ∧ z = (e, m)) 20 [.float 0, .float 0, .float 0] [] (e, m)) h ?_ (fun k2 j_k2 h => ?_)
  · intro h
    refine mx_iconst (0) (mx_d tX2_slotKnown_0 10 rfl) (by decide) ?_
    refine mx_istore_n (L2 := [.float 0, .float 0, .int 0]) (mx_d tX2_slotKnown_0 11 rfl) rfl (by decide) (by rfl) ?_
    refine mx_iload_n (mx_d tX2_slotKnown_0 12 rfl) rfl rfl ?_
    refine mx_if_lt (tgt := 37) (mx_d tX2_slotKnown_0 13 rfl) (by decide) (fun hd_ => absurd hd_ (by decide)) (fun _ => ?_)
    refine mx_iload_n (mx_d tX2_slotKnown_0 14 rfl) rfl rfl ?_
    refine mx_sipush (144) (mx_d tX2_slotKnown_0 15 rfl) (by decide) ?_
    refine mx_icmp_ge (tgt := 37) (mx_d tX2_slotKnown_0 16 rfl) (by decide) (fun hd_ => absurd hd_ (by decide)) (fun _ => ?_)
    refine mx_iload_n (mx_d tX2_slotKnown_0 17 rfl) rfl rfl ?_
    refine mx_goto (tgt := 38) (mx_d tX2_slotKnown_0 18 rfl) (by decide) ?_
    obtain rfl := Option.some.inj h
    exact mx_ireturn (mx_d tX2_slotKnown_0 20 rfl) rfl ⟨rfl, rfl⟩
  refine mx_if_lt (tgt := 20) (mx_d tX2_slotKnown_0 1 rfl) (by decide) (fun hc1 => ?_) (fun hc1 => ?_)
  · rw [if_pos hc1] at h
    refine mx_forget (L' := [.float 0, .float 0, .float 0]) trivial ?_
    exact j_k2 h
  · rw [if_neg hc1] at h
    refine mx_iload_n (mx_d tX2_slotKnown_0 2 rfl) rfl rfl ?_
    refine mx_sipush (1024) (mx_d tX2_slotKnown_0 3 rfl) (by decide) ?_
    refine mx_icmp_ge (tgt := 20) (mx_d tX2_slotKnown_0 4 rfl) (by decide) (fun hc5 => ?_) (fun hc5 => ?_)
    · rw [if_pos hc5] at h
      refine mx_forget (L' := [.float 0, .float 0, .float 0]) trivial ?_
      exact j_k2 h
    · rw [if_neg hc5] at h
      refine mx_aload_n (mx_d tX2_slotKnown_0 5 rfl) rfl rfl ?_
      refine mx_getR (mx_d tX2_slotKnown_0 6 rfl) fX2_18 rfl rfl (ly2_o h0) (ly2_r4 h0) ?_
      refine mx_iload_n (mx_d tX2_slotKnown_0 7 rfl) rfl rfl ?_
      obtain ⟨hi6, h⟩ := mx_chkE h
      refine mx_iaload (mx_d tX2_slotKnown_0 8 rfl) (ly2_s4 h0) (mx_inbE hi6) ?_
      refine mx_goto (tgt := 21) (mx_d tX2_slotKnown_0 9 rfl) (by decide) ?_
      obtain ⟨v7, e_v7, h⟩ := mx_letE h
      refine mx_istore_n (L2 := [.ref a, .int x0, .int v7]) (mx_d tX2_slotKnown_0 11 rfl) rfl (by decide) (by rw [e_v7]; rfl) ?_
      refine mx_iload_n (mx_d tX2_slotKnown_0 12 rfl) rfl rfl ?_
      refine mx_if_lt (tgt := 37) (mx_d tX2_slotKnown_0 13 rfl) (by decide) (fun hc8 => ?_) (fun hc8 => ?_)
      · rw [if_pos hc8] at h
        refine mx_iconst (0) (mx_d tX2_slotKnown_0 19 rfl) (by decide) ?_
        obtain rfl := Option.some.inj h
        exact mx_ireturn (mx_d tX2_slotKnown_0 20 rfl) rfl ⟨rfl, rfl⟩
      · rw [if_neg hc8] at h
        refine mx_iload_n (mx_d tX2_slotKnown_0 14 rfl) rfl rfl ?_
        refine mx_sipush (144) (mx_d tX2_slotKnown_0 15 rfl) (by decide) ?_
        refine mx_icmp_ge (tgt := 37) (mx_d tX2_slotKnown_0 16 rfl) (by decide) (fun hc9 => ?_) (fun hc9 => ?_)
        · rw [if_pos hc9] at h
          refine mx_iconst (0) (mx_d tX2_slotKnown_0 19 rfl) (by decide) ?_
          obtain rfl := Option.some.inj h
          exact mx_ireturn (mx_d tX2_slotKnown_0 20 rfl) rfl ⟨rfl, rfl⟩
        · rw [if_neg hc9] at h
          refine mx_iload_n (mx_d tX2_slotKnown_0 17 rfl) rfl rfl ?_
          refine mx_goto (tgt := 38) (mx_d tX2_slotKnown_0 18 rfl) (by decide) ?_
          obtain rfl := Option.some.inj h
          exact mx_ireturn (mx_d tX2_slotKnown_0 20 rfl) rfl ⟨rfl, rfl⟩
def FX2_startSlot_L2 (q0 : Nat) (y1 : Int32) (y2 : Int32) : Nat → Int32 → mB → Option (mB)
  | 0, _, _ => none
  | f + 1, y3, m => (if 6 ≤ y3 then (some (m)) else mx_chk (mx_inb ((y1 * 6) + y3) 864) (mx_let (mx_up m.1 (q0 + 15) (Int32.toNatClampNeg ((y1 * 6) + y3)) 0, m.2) (fun m2 => mx_let (mx_up m2.1 (q0 + 16) (Int32.toNatClampNeg ((y1 * 6) + y3)) (-1), m2.2) (fun m4 => mx_let (y3 + 1) (fun v5 => (FX2_startSlot_L2 q0 y1 y2 f v5 m4))))))
set_option maxRecDepth 20000 in
theorem CX2_startSlot_L2 {G : mG} {l : Launch} {e : mE} {Post : Option Value → mS → Prop} {q0 : Nat} {y1 : Int32} {y2 : Int32} (g0 : ly2 e q0) : ∀ (f : Nat) {y3 : Int32} {m : mB} {q : (mB)}, FX2_startSlot_L2 q0 y1 y2 f y3 m = some q → (mx_Fr G l MX2_startSlot 1 0 0 Post 38 [.ref q0, .int y1, .int y2, .float 0] [] (e, q)) → mx_Fr G l MX2_startSlot 1 0 0 Post 2 [.ref q0, .int y1, .int y2, .int y3] [] (e, m) := by
  intro f
  induction f with
  | zero => intro _ _ _ h; cases h
  | succ f ih =>
    intro y3 m q h hex
    rw [FX2_startSlot_L2] at h
    refine mx_iload_n (mx_d tX2_startSlot_0 2 rfl) rfl rfl ?_
    refine mx_bipush (6) (mx_d tX2_startSlot_0 3 rfl) (by decide) ?_
    refine mx_icmp_ge (tgt := 38) (mx_d tX2_startSlot_0 4 rfl) (by decide) (fun hc1 => ?_) (fun hc1 => ?_)
    · rw [if_pos hc1] at h
      obtain rfl := Option.some.inj h
      refine mx_forget (L' := [.ref q0, .int y1, .int y2, .float 0]) ⟨rfl, rfl, rfl, trivial⟩ ?_
      exact hex
    · rw [if_neg hc1] at h
      refine mx_aload_n (mx_d tX2_startSlot_0 5 rfl) rfl rfl ?_
      refine mx_getR (mx_d tX2_startSlot_0 6 rfl) fX2_28 rfl rfl (ly2_o g0) (ly2_r8 g0) ?_
      refine mx_iload_n (mx_d tX2_startSlot_0 7 rfl) rfl rfl ?_
      refine mx_bipush (6) (mx_d tX2_startSlot_0 8 rfl) (by decide) ?_
      refine mx_imul (mx_d tX2_startSlot_0 9 rfl) ?_
      refine mx_iload_n (mx_d tX2_startSlot_0 10 rfl) rfl rfl ?_
      refine mx_iadd (mx_d tX2_startSlot_0 11 rfl) ?_
      refine mx_iconst (0) (mx_d tX2_startSlot_0 12 rfl) (by decide) ?_
      obtain ⟨hi3, h⟩ := mx_chkE h
      obtain ⟨m2, e_m2, h⟩ := mx_letE h
      refine mx_iastore (mx_d tX2_startSlot_0 13 rfl) (ly2_s8 g0) (mx_inbE hi3) (mx_eqz (z' := (e, m2)) (by rw [e_m2]) ?_)
      refine mx_aload_n (mx_d tX2_startSlot_0 14 rfl) rfl rfl ?_
      refine mx_getR (mx_d tX2_startSlot_0 15 rfl) fX2_31 rfl rfl (ly2_o g0) (ly2_r9 g0) ?_
      refine mx_iload_n (mx_d tX2_startSlot_0 16 rfl) rfl rfl ?_
      refine mx_bipush (6) (mx_d tX2_startSlot_0 17 rfl) (by decide) ?_
      refine mx_imul (mx_d tX2_startSlot_0 18 rfl) ?_
      refine mx_iload_n (mx_d tX2_startSlot_0 19 rfl) rfl rfl ?_
      refine mx_iadd (mx_d tX2_startSlot_0 20 rfl) ?_
      refine mx_iconst ((-1)) (mx_d tX2_startSlot_0 21 rfl) (by decide) ?_
      obtain ⟨m4, e_m4, h⟩ := mx_letE h
      refine mx_iastore (mx_d tX2_startSlot_0 22 rfl) (ly2_s9 g0) (mx_inbE hi3) (mx_eqz (z' := (e, m4)) (by rw [e_m4]) ?_)
      obtain ⟨v5, e_v5, h⟩ := mx_letE h
      refine mx_iinc v5 (L2 := [.ref q0, .int y1, .int y2, .int v5]) (mx_d tX2_startSlot_0 23 rfl) rfl (by rw [e_v5]; rfl) (by decide) rfl ?_
      refine mx_goto (tgt := 2) (mx_d tX2_startSlot_0 24 rfl) (by decide) ?_
      exact ih h hex
def FX2_startSlot (a : Nat) (x0 : Int32) (x1 : Int32) (m : mB) : Option mB := Option.bind (FX2_startSlot_L2 a x0 x1 mx_FU 0 m) (fun q6 => mx_chk (mx_inb x0 144) (mx_let (mx_up q6.1 (a + 13) (Int32.toNatClampNeg x0) (-1), q6.2) (fun m7 => mx_let (mx_up m7.1 (a + 14) (Int32.toNatClampNeg x0) (-1), m7.2) (fun m9 => (if x1 = 0 then (some m9) else mx_chk (mx_inb (x0 * 6) 864) (mx_let (mx_up m9.1 (a + 15) (Int32.toNatClampNeg (x0 * 6)) 1, m9.2) (fun m11 => mx_let (mx_up m11.1 (a + 16) (Int32.toNatClampNeg (x0 * 6)) 0, m11.2) (fun m13 => mx_let (mx_up m13.1 (a + 13) (Int32.toNatClampNeg x0) 0, m13.2) (fun m14 => (some m14))))))))))
set_option maxRecDepth 20000 in
theorem CX2_startSlot {G : mG} {l : Launch} {e : mE} {a : Nat} {x0 : Int32} {x1 : Int32} {m : mB} {r : mB} (h0 : ly2 e a) (h : FX2_startSlot a x0 x1 m = some r) : mx_Call G l MX2_startSlot 1 0 0 [.ref a, .int x0, .int x1] (e, m) (fun v z => v = none ∧ z = (e, r)) := by
  refine mx_entry (L := [.ref a, .int x0, .int x1, .float 0]) (by decide +kernel) (Nat.le_of_ble_eq_true rfl) rfl ?_
  unfold FX2_startSlot at h
  refine mx_iconst (0) (mx_d tX2_startSlot_0 0 rfl) (by decide) ?_
  refine mx_istore_n (L2 := [.ref a, .int x0, .int x1, .int 0]) (mx_d tX2_startSlot_0 1 rfl) rfl (by decide) (by rfl) ?_
  obtain ⟨q6, h_q6, h⟩ := Option.bind_eq_some_iff.mp h
  refine CX2_startSlot_L2 h0 mx_FU h_q6 ?_
  refine mx_aload_n (mx_d tX2_startSlot_0 25 rfl) rfl rfl ?_
  refine mx_getR (mx_d tX2_startSlot_0 26 rfl) fX2_22 rfl rfl (ly2_o h0) (ly2_r6 h0) ?_
  refine mx_iload_n (mx_d tX2_startSlot_0 27 rfl) rfl rfl ?_
  refine mx_iconst ((-1)) (mx_d tX2_startSlot_0 28 rfl) (by decide) ?_
  obtain ⟨hi8, h⟩ := mx_chkE h
  obtain ⟨m7, e_m7, h⟩ := mx_letE h
  refine mx_iastore (mx_d tX2_startSlot_0 29 rfl) (ly2_s6 h0) (mx_inbE hi8) (mx_eqz (z' := (e, m7)) (by rw [e_m7]) ?_)
  refine mx_aload_n (mx_d tX2_startSlot_0 30 rfl) rfl rfl ?_
  refine mx_getR (mx_d tX2_startSlot_0 31 rfl) fX2_25 rfl rfl (ly2_o h0) (ly2_r7 h0) ?_
  refine mx_iload_n (mx_d tX2_startSlot_0 32 rfl) rfl rfl ?_
  refine mx_iconst ((-1)) (mx_d tX2_startSlot_0 33 rfl) (by decide) ?_
  obtain ⟨m9, e_m9, h⟩ := mx_letE h
  refine mx_iastore (mx_d tX2_startSlot_0 34 rfl) (ly2_s7 h0) (mx_inbE hi8) (mx_eqz (z' := (e, m9)) (by rw [e_m9]) ?_)
  refine mx_iload_n (mx_d tX2_startSlot_0 35 rfl) rfl rfl ?_
  refine mx_if_eq (tgt := 83) (mx_d tX2_startSlot_0 36 rfl) (by decide) (fun hc10 => ?_) (fun hc10 => ?_)
  · rw [if_pos hc10] at h
    obtain rfl := Option.some.inj h
    exact mx_return (mx_d tX2_startSlot_0 56 rfl) rfl ⟨rfl, rfl⟩
  · rw [if_neg hc10] at h
    refine mx_aload_n (mx_d tX2_startSlot_0 37 rfl) rfl rfl ?_
    refine mx_getR (mx_d tX2_startSlot_0 38 rfl) fX2_28 rfl rfl (ly2_o h0) (ly2_r8 h0) ?_
    refine mx_iload_n (mx_d tX2_startSlot_0 39 rfl) rfl rfl ?_
    refine mx_bipush (6) (mx_d tX2_startSlot_0 40 rfl) (by decide) ?_
    refine mx_imul (mx_d tX2_startSlot_0 41 rfl) ?_
    refine mx_iconst (1) (mx_d tX2_startSlot_0 42 rfl) (by decide) ?_
    obtain ⟨hi12, h⟩ := mx_chkE h
    obtain ⟨m11, e_m11, h⟩ := mx_letE h
    refine mx_iastore (mx_d tX2_startSlot_0 43 rfl) (ly2_s8 h0) (mx_inbE hi12) (mx_eqz (z' := (e, m11)) (by rw [e_m11]) ?_)
    refine mx_aload_n (mx_d tX2_startSlot_0 44 rfl) rfl rfl ?_
    refine mx_getR (mx_d tX2_startSlot_0 45 rfl) fX2_31 rfl rfl (ly2_o h0) (ly2_r9 h0) ?_
    refine mx_iload_n (mx_d tX2_startSlot_0 46 rfl) rfl rfl ?_
    refine mx_bipush (6) (mx_d tX2_startSlot_0 47 rfl) (by decide) ?_
    refine mx_imul (mx_d tX2_startSlot_0 48 rfl) ?_
    refine mx_iconst (0) (mx_d tX2_startSlot_0 49 rfl) (by decide) ?_
    obtain ⟨m13, e_m13, h⟩ := mx_letE h
    refine mx_iastore (mx_d tX2_startSlot_0 50 rfl) (ly2_s9 h0) (mx_inbE hi12) (mx_eqz (z' := (e, m13)) (by rw [e_m13]) ?_)
    refine mx_aload_n (mx_d tX2_startSlot_0 51 rfl) rfl rfl ?_
    refine mx_getR (mx_d tX2_startSlot_0 52 rfl) fX2_22 rfl rfl (ly2_o h0) (ly2_r6 h0) ?_
    refine mx_iload_n (mx_d tX2_startSlot_0 53 rfl) rfl rfl ?_
    refine mx_iconst (0) (mx_d tX2_startSlot_0 54 rfl) (by decide) ?_
    obtain ⟨m14, e_m14, h⟩ := mx_letE h
    refine mx_iastore (mx_d tX2_startSlot_0 55 rfl) (ly2_s6 h0) (mx_inbE hi8) (mx_eqz (z' := (e, m14)) (by rw [e_m14]) ?_)
    obtain rfl := Option.some.inj h
    exact mx_return (mx_d tX2_startSlot_0 56 rfl) rfl ⟨rfl, rfl⟩
def FX2_leastOf_L2 (y0 : Int32) (m : mB) : Nat → Int32 → Option (Int32 ⊕ (Unit))
  | 0, _ => none
  | f + 1, y1 => (if 10 ≤ y1 then (some (.inr ())) else (if ((y0 >>> (y1 &&& 31)) &&& 1) = 0 then mx_let (y1 + 1) (fun v3 => (FX2_leastOf_L2 y0 m f v3)) else (some (.inl y1))))
set_option maxRecDepth 20000 in
theorem CX2_leastOf_L2 {G : mG} {l : Launch} {e : mE} {Post : Option Value → mS → Prop} {y0 : Int32} {m : mB}  : ∀ (f : Nat) {y1 : Int32} {q : (Int32 ⊕ (Unit))}, FX2_leastOf_L2 y0 m f y1 = some q → (∀ rr, q = .inl rr → Post (some (.int rr)) (e, m)) → (∀ u, q = .inr u → mx_Fr G l MX2_leastOf 1 0 0 Post 24 [.float 0, .float 0] [] (e, m)) → mx_Fr G l MX2_leastOf 1 0 0 Post 2 [.int y0, .int y1] [] (e, m) := by
  intro f
  induction f with
  | zero => intro _ _ h; cases h
  | succ f ih =>
    intro y1 q h hret hex
    rw [FX2_leastOf_L2] at h
    refine mx_iload_n (mx_d tX2_leastOf_0 2 rfl) rfl rfl ?_
    refine mx_bipush (10) (mx_d tX2_leastOf_0 3 rfl) (by decide) ?_
    refine mx_icmp_ge (tgt := 24) (mx_d tX2_leastOf_0 4 rfl) (by decide) (fun hc1 => ?_) (fun hc1 => ?_)
    · rw [if_pos hc1] at h
      obtain rfl := Option.some.inj h
      refine mx_forget (L' := [.float 0, .float 0]) trivial ?_
      exact (hex _ rfl)
    · rw [if_neg hc1] at h
      refine mx_iload_n (mx_d tX2_leastOf_0 5 rfl) rfl rfl ?_
      refine mx_iload_n (mx_d tX2_leastOf_0 6 rfl) rfl rfl ?_
      refine mx_ishr (mx_d tX2_leastOf_0 7 rfl) ?_
      refine mx_iconst (1) (mx_d tX2_leastOf_0 8 rfl) (by decide) ?_
      refine mx_iand (mx_d tX2_leastOf_0 9 rfl) ?_
      refine mx_if_eq (tgt := 18) (mx_d tX2_leastOf_0 10 rfl) (by decide) (fun hc2 => ?_) (fun hc2 => ?_)
      · rw [if_pos hc2] at h
        obtain ⟨v3, e_v3, h⟩ := mx_letE h
        refine mx_iinc v3 (L2 := [.int y0, .int v3]) (mx_d tX2_leastOf_0 13 rfl) rfl (by rw [e_v3]; rfl) (by decide) rfl ?_
        refine mx_goto (tgt := 2) (mx_d tX2_leastOf_0 14 rfl) (by decide) ?_
        exact ih h hret hex
      · rw [if_neg hc2] at h
        refine mx_iload_n (mx_d tX2_leastOf_0 11 rfl) rfl rfl ?_
        obtain rfl := Option.some.inj h
        exact mx_ireturn (mx_d tX2_leastOf_0 12 rfl) rfl (hret _ rfl)
def FX2_leastOf (x0 : Int32) (m : mB) : Option Int32 := Option.bind (FX2_leastOf_L2 x0 m mx_FU 0) (fun q4 => Sum.elim (fun rr => some rr) (fun u5 => (some 0)) q4)
set_option maxRecDepth 20000 in
theorem CX2_leastOf {G : mG} {l : Launch} {e : mE} {x0 : Int32} {m : mB} {r : Int32}  (h : FX2_leastOf x0 m = some r) : mx_Call G l MX2_leastOf 1 0 0 [.int x0] (e, m) (fun v z => v = some (.int r) ∧ z = (e, m)) := by
  refine mx_entry (L := [.int x0, .float 0]) (by decide +kernel) (Nat.le_of_ble_eq_true rfl) rfl ?_
  unfold FX2_leastOf at h
  refine mx_iconst (0) (mx_d tX2_leastOf_0 0 rfl) (by decide) ?_
  refine mx_istore_n (L2 := [.int x0, .int 0]) (mx_d tX2_leastOf_0 1 rfl) rfl (by decide) (by rfl) ?_
  obtain ⟨q4, h_q4, h⟩ := Option.bind_eq_some_iff.mp h
  refine CX2_leastOf_L2  mx_FU h_q4 (fun rr6 e_rr6 => ?_) (fun u5 e_u5 => ?_)
  · subst e_rr6
    rw [Sum.elim_inl] at h
    obtain rfl := Option.some.inj h
    exact ⟨rfl, rfl⟩
  · subst e_u5
    rw [Sum.elim_inr] at h
    refine mx_iconst (0) (mx_d tX2_leastOf_0 15 rfl) (by decide) ?_
    obtain rfl := Option.some.inj h
    exact mx_ireturn (mx_d tX2_leastOf_0 16 rfl) rfl ⟨rfl, rfl⟩
def FX2_addTotal (a : Nat) (x0 : Int32) (x1 : Int32) (m : mB) : Option mB := mx_chk (mx_inb x0 144) ((if x1 ≤ (m.1 (a + 13) (Int32.toNatClampNeg x0)) then (if (m.1 (a + 13) (Int32.toNatClampNeg x0)) ≤ x1 then (some m) else (if x1 ≤ (m.1 (a + 14) (Int32.toNatClampNeg x0)) then (some m) else mx_let (mx_up m.1 (a + 14) (Int32.toNatClampNeg x0) x1, m.2) (fun m5 => (some m5)))) else mx_let (mx_up m.1 (a + 14) (Int32.toNatClampNeg x0) (m.1 (a + 13) (Int32.toNatClampNeg x0)), m.2) (fun m6 => mx_let (mx_up m6.1 (a + 13) (Int32.toNatClampNeg x0) x1, m6.2) (fun m7 => (some m7)))))
set_option maxRecDepth 20000 in
theorem CX2_addTotal {G : mG} {l : Launch} {e : mE} {a : Nat} {x0 : Int32} {x1 : Int32} {m : mB} {r : mB} (h0 : ly2 e a) (h : FX2_addTotal a x0 x1 m = some r) : mx_Call G l MX2_addTotal 1 0 0 [.ref a, .int x0, .int x1] (e, m) (fun v z => v = none ∧ z = (e, r)) := by
  refine mx_entry (L := [.ref a, .int x0, .int x1]) (by decide +kernel) (Nat.le_of_ble_eq_true rfl) rfl ?_
  unfold FX2_addTotal at h
  refine mx_iload_n (mx_d tX2_addTotal_0 0 rfl) rfl rfl ?_
  refine mx_aload_n (mx_d tX2_addTotal_0 1 rfl) rfl rfl ?_
  refine mx_getR (mx_d tX2_addTotal_0 2 rfl) fX2_22 rfl rfl (ly2_o h0) (ly2_r6 h0) ?_
  refine mx_iload_n (mx_d tX2_addTotal_0 3 rfl) rfl rfl ?_
  obtain ⟨hi1, h⟩ := mx_chkE h
  refine mx_iaload (mx_d tX2_addTotal_0 4 rfl) (ly2_s6 h0) (mx_inbE hi1) ?_
  refine mx_icmp_le (tgt := 32) (mx_d tX2_addTotal_0 5 rfl) (by decide) (fun hc2 => ?_) (fun hc2 => ?_)
  · rw [if_pos hc2] at h
    refine mx_iload_n (mx_d tX2_addTotal_0 20 rfl) rfl rfl ?_
    refine mx_aload_n (mx_d tX2_addTotal_0 21 rfl) rfl rfl ?_
    refine mx_getR (mx_d tX2_addTotal_0 22 rfl) fX2_22 rfl rfl (ly2_o h0) (ly2_r6 h0) ?_
    refine mx_iload_n (mx_d tX2_addTotal_0 23 rfl) rfl rfl ?_
    refine mx_iaload (mx_d tX2_addTotal_0 24 rfl) (ly2_s6 h0) (mx_inbE hi1) ?_
    refine mx_icmp_ge (tgt := 59) (mx_d tX2_addTotal_0 25 rfl) (by decide) (fun hc3 => ?_) (fun hc3 => ?_)
    · rw [if_pos hc3] at h
      obtain rfl := Option.some.inj h
      exact mx_return (mx_d tX2_addTotal_0 37 rfl) rfl ⟨rfl, rfl⟩
    · rw [if_neg hc3] at h
      refine mx_iload_n (mx_d tX2_addTotal_0 26 rfl) rfl rfl ?_
      refine mx_aload_n (mx_d tX2_addTotal_0 27 rfl) rfl rfl ?_
      refine mx_getR (mx_d tX2_addTotal_0 28 rfl) fX2_25 rfl rfl (ly2_o h0) (ly2_r7 h0) ?_
      refine mx_iload_n (mx_d tX2_addTotal_0 29 rfl) rfl rfl ?_
      refine mx_iaload (mx_d tX2_addTotal_0 30 rfl) (ly2_s7 h0) (mx_inbE hi1) ?_
      refine mx_icmp_le (tgt := 59) (mx_d tX2_addTotal_0 31 rfl) (by decide) (fun hc4 => ?_) (fun hc4 => ?_)
      · rw [if_pos hc4] at h
        obtain rfl := Option.some.inj h
        exact mx_return (mx_d tX2_addTotal_0 37 rfl) rfl ⟨rfl, rfl⟩
      · rw [if_neg hc4] at h
        refine mx_aload_n (mx_d tX2_addTotal_0 32 rfl) rfl rfl ?_
        refine mx_getR (mx_d tX2_addTotal_0 33 rfl) fX2_25 rfl rfl (ly2_o h0) (ly2_r7 h0) ?_
        refine mx_iload_n (mx_d tX2_addTotal_0 34 rfl) rfl rfl ?_
        refine mx_iload_n (mx_d tX2_addTotal_0 35 rfl) rfl rfl ?_
        obtain ⟨m5, e_m5, h⟩ := mx_letE h
        refine mx_iastore (mx_d tX2_addTotal_0 36 rfl) (ly2_s7 h0) (mx_inbE hi1) (mx_eqz (z' := (e, m5)) (by rw [e_m5]) ?_)
        obtain rfl := Option.some.inj h
        exact mx_return (mx_d tX2_addTotal_0 37 rfl) rfl ⟨rfl, rfl⟩
  · rw [if_neg hc2] at h
    refine mx_aload_n (mx_d tX2_addTotal_0 6 rfl) rfl rfl ?_
    refine mx_getR (mx_d tX2_addTotal_0 7 rfl) fX2_25 rfl rfl (ly2_o h0) (ly2_r7 h0) ?_
    refine mx_iload_n (mx_d tX2_addTotal_0 8 rfl) rfl rfl ?_
    refine mx_aload_n (mx_d tX2_addTotal_0 9 rfl) rfl rfl ?_
    refine mx_getR (mx_d tX2_addTotal_0 10 rfl) fX2_22 rfl rfl (ly2_o h0) (ly2_r6 h0) ?_
    refine mx_iload_n (mx_d tX2_addTotal_0 11 rfl) rfl rfl ?_
    refine mx_iaload (mx_d tX2_addTotal_0 12 rfl) (ly2_s6 h0) (mx_inbE hi1) ?_
    obtain ⟨m6, e_m6, h⟩ := mx_letE h
    refine mx_iastore (mx_d tX2_addTotal_0 13 rfl) (ly2_s7 h0) (mx_inbE hi1) (mx_eqz (z' := (e, m6)) (by rw [e_m6]) ?_)
    refine mx_aload_n (mx_d tX2_addTotal_0 14 rfl) rfl rfl ?_
    refine mx_getR (mx_d tX2_addTotal_0 15 rfl) fX2_22 rfl rfl (ly2_o h0) (ly2_r6 h0) ?_
    refine mx_iload_n (mx_d tX2_addTotal_0 16 rfl) rfl rfl ?_
    refine mx_iload_n (mx_d tX2_addTotal_0 17 rfl) rfl rfl ?_
    obtain ⟨m7, e_m7, h⟩ := mx_letE h
    refine mx_iastore (mx_d tX2_addTotal_0 18 rfl) (ly2_s6 h0) (mx_inbE hi1) (mx_eqz (z' := (e, m7)) (by rw [e_m7]) ?_)
    refine mx_goto (tgt := 59) (mx_d tX2_addTotal_0 19 rfl) (by decide) ?_
    obtain rfl := Option.some.inj h
    exact mx_return (mx_d tX2_addTotal_0 37 rfl) rfl ⟨rfl, rfl⟩
def FX2_addWays_L3 (q0 : Nat) (y1 : Int32) (y2 : Int32) (y3 : Int32) (y4 : Int32) : Nat → Int32 → mB → Option (mB)
  | 0, _, _ => none
  | f + 1, y5, m => (if 6 ≤ (y5 + y4) then (some (m)) else mx_let (((y1 * 6) + y5) + y4) (fun v2 => mx_let ((y2 * 6) + y5) (fun v3 => mx_chk (mx_inb v3 864) ((if (m.1 (q0 + 15) (Int32.toNatClampNeg v3)) ≤ 0 then mx_let (y5 + 1) (fun v6 => (FX2_addWays_L3 q0 y1 y2 y3 y4 f v6 m)) else mx_chk (mx_inb v2 864) (mx_let (mx_up m.1 (q0 + 15) (Int32.toNatClampNeg v2) ((m.1 (q0 + 15) (Int32.toNatClampNeg v2)) + (m.1 (q0 + 15) (Int32.toNatClampNeg v3))), m.2) (fun m8 => Option.bind (FJ9_max_7cf53 (m8.1 (q0 + 16) (Int32.toNatClampNeg v2)) ((m8.1 (q0 + 16) (Int32.toNatClampNeg v3)) + y3) m8) (fun r9 => mx_let (mx_up m8.1 (q0 + 16) (Int32.toNatClampNeg v2) r9, m8.2) (fun m10 => mx_let (y5 + 1) (fun v11 => (FX2_addWays_L3 q0 y1 y2 y3 y4 f v11 m10)))))))))))
set_option maxRecDepth 20000 in
theorem CX2_addWays_L3 {G : mG} {l : Launch} {e : mE} {Post : Option Value → mS → Prop} {q0 : Nat} {y1 : Int32} {y2 : Int32} {y3 : Int32} {y4 : Int32} (g0 : ly2 e q0) : ∀ (f : Nat) {y5 : Int32} {m : mB} {q : (mB)}, FX2_addWays_L3 q0 y1 y2 y3 y4 f y5 m = some q → (mx_Fr G l MX2_addWays 2 0 0 Post 93 [.ref q0, .int y1, .int y2, .int y3, .float 0, .float 0, .float 0, .float 0] [] (e, q)) → mx_Fr G l MX2_addWays 2 0 0 Post 3 [.ref q0, .int y1, .int y2, .int y3, .int y4, .int y5, .float 0, .float 0] [] (e, m) := by
  intro f
  induction f with
  | zero => intro _ _ _ h; cases h
  | succ f ih =>
    intro y5 m q h hex
    rw [FX2_addWays_L3] at h
    refine mx_iload (mx_d tX2_addWays_0 2 rfl) rfl ?_
    refine mx_iload (mx_d tX2_addWays_0 3 rfl) rfl ?_
    refine mx_iadd (mx_d tX2_addWays_0 4 rfl) ?_
    refine mx_bipush (6) (mx_d tX2_addWays_0 5 rfl) (by decide) ?_
    refine mx_icmp_ge (tgt := 93) (mx_d tX2_addWays_0 6 rfl) (by decide) (fun hc1 => ?_) (fun hc1 => ?_)
    · rw [if_pos hc1] at h
      obtain rfl := Option.some.inj h
      refine mx_forget (L' := [.ref q0, .int y1, .int y2, .int y3, .float 0, .float 0, .float 0, .float 0]) ⟨rfl, rfl, rfl, rfl, trivial⟩ ?_
      exact hex
    · rw [if_neg hc1] at h
      refine mx_iload_n (mx_d tX2_addWays_0 7 rfl) rfl rfl ?_
      refine mx_bipush (6) (mx_d tX2_addWays_0 8 rfl) (by decide) ?_
      refine mx_imul (mx_d tX2_addWays_0 9 rfl) ?_
      refine mx_iload (mx_d tX2_addWays_0 10 rfl) rfl ?_
      refine mx_iadd (mx_d tX2_addWays_0 11 rfl) ?_
      refine mx_iload (mx_d tX2_addWays_0 12 rfl) rfl ?_
      refine mx_iadd (mx_d tX2_addWays_0 13 rfl) ?_
      obtain ⟨v2, e_v2, h⟩ := mx_letE h
      refine mx_istore (L2 := [.ref q0, .int y1, .int y2, .int y3, .int y4, .int y5, .int v2, .float 0]) (mx_d tX2_addWays_0 14 rfl) (by decide) (by rw [e_v2]; rfl) ?_
      refine mx_iload_n (mx_d tX2_addWays_0 15 rfl) rfl rfl ?_
      refine mx_bipush (6) (mx_d tX2_addWays_0 16 rfl) (by decide) ?_
      refine mx_imul (mx_d tX2_addWays_0 17 rfl) ?_
      refine mx_iload (mx_d tX2_addWays_0 18 rfl) rfl ?_
      refine mx_iadd (mx_d tX2_addWays_0 19 rfl) ?_
      obtain ⟨v3, e_v3, h⟩ := mx_letE h
      refine mx_istore (L2 := [.ref q0, .int y1, .int y2, .int y3, .int y4, .int y5, .int v2, .int v3]) (mx_d tX2_addWays_0 20 rfl) (by decide) (by rw [e_v3]; rfl) ?_
      refine mx_aload_n (mx_d tX2_addWays_0 21 rfl) rfl rfl ?_
      refine mx_getR (mx_d tX2_addWays_0 22 rfl) fX2_28 rfl rfl (ly2_o g0) (ly2_r8 g0) ?_
      refine mx_iload (mx_d tX2_addWays_0 23 rfl) rfl ?_
      obtain ⟨hi4, h⟩ := mx_chkE h
      refine mx_iaload (mx_d tX2_addWays_0 24 rfl) (ly2_s8 g0) (mx_inbE hi4) ?_
      refine mx_if_le (tgt := 87) (mx_d tX2_addWays_0 25 rfl) (by decide) (fun hc5 => ?_) (fun hc5 => ?_)
      · rw [if_pos hc5] at h
        obtain ⟨v6, e_v6, h⟩ := mx_letE h
        refine mx_iinc v6 (L2 := [.ref q0, .int y1, .int y2, .int y3, .int y4, .int v6, .int v2, .int v3]) (mx_d tX2_addWays_0 52 rfl) rfl (by rw [e_v6]; rfl) (by decide) rfl ?_
        refine mx_goto (tgt := 3) (mx_d tX2_addWays_0 53 rfl) (by decide) ?_
        refine mx_forget (L' := [.ref q0, .int y1, .int y2, .int y3, .int y4, .int v6, .float 0, .float 0]) ⟨rfl, rfl, rfl, rfl, rfl, rfl, trivial⟩ ?_
        exact ih h hex
      · rw [if_neg hc5] at h
        refine mx_aload_n (mx_d tX2_addWays_0 26 rfl) rfl rfl ?_
        refine mx_getR (mx_d tX2_addWays_0 27 rfl) fX2_28 rfl rfl (ly2_o g0) (ly2_r8 g0) ?_
        refine mx_iload (mx_d tX2_addWays_0 28 rfl) rfl ?_
        refine mx_dup2 (mx_d tX2_addWays_0 29 rfl) rfl rfl ?_
        obtain ⟨hi7, h⟩ := mx_chkE h
        refine mx_iaload (mx_d tX2_addWays_0 30 rfl) (ly2_s8 g0) (mx_inbE hi7) ?_
        refine mx_aload_n (mx_d tX2_addWays_0 31 rfl) rfl rfl ?_
        refine mx_getR (mx_d tX2_addWays_0 32 rfl) fX2_28 rfl rfl (ly2_o g0) (ly2_r8 g0) ?_
        refine mx_iload (mx_d tX2_addWays_0 33 rfl) rfl ?_
        refine mx_iaload (mx_d tX2_addWays_0 34 rfl) (ly2_s8 g0) (mx_inbE hi4) ?_
        refine mx_iadd (mx_d tX2_addWays_0 35 rfl) ?_
        obtain ⟨m8, e_m8, h⟩ := mx_letE h
        refine mx_iastore (mx_d tX2_addWays_0 36 rfl) (ly2_s8 g0) (mx_inbE hi7) (mx_eqz (z' := (e, m8)) (by rw [e_m8]) ?_)
        refine mx_aload_n (mx_d tX2_addWays_0 37 rfl) rfl rfl ?_
        refine mx_getR (mx_d tX2_addWays_0 38 rfl) fX2_31 rfl rfl (ly2_o g0) (ly2_r9 g0) ?_
        refine mx_iload (mx_d tX2_addWays_0 39 rfl) rfl ?_
        refine mx_aload_n (mx_d tX2_addWays_0 40 rfl) rfl rfl ?_
        refine mx_getR (mx_d tX2_addWays_0 41 rfl) fX2_31 rfl rfl (ly2_o g0) (ly2_r9 g0) ?_
        refine mx_iload (mx_d tX2_addWays_0 42 rfl) rfl ?_
        refine mx_iaload (mx_d tX2_addWays_0 43 rfl) (ly2_s9 g0) (mx_inbE hi7) ?_
        refine mx_aload_n (mx_d tX2_addWays_0 44 rfl) rfl rfl ?_
        refine mx_getR (mx_d tX2_addWays_0 45 rfl) fX2_31 rfl rfl (ly2_o g0) (ly2_r9 g0) ?_
        refine mx_iload (mx_d tX2_addWays_0 46 rfl) rfl ?_
        refine mx_iaload (mx_d tX2_addWays_0 47 rfl) (ly2_s9 g0) (mx_inbE hi4) ?_
        refine mx_iload_n (mx_d tX2_addWays_0 48 rfl) rfl rfl ?_
        refine mx_iadd (mx_d tX2_addWays_0 49 rfl) ?_
        obtain ⟨r9, h_r9, h⟩ := Option.bind_eq_some_iff.mp h
        refine mx_cSi (mx_d tX2_addWays_0 50 rfl) iX2_100 rfl sJ9_max_7cf53 (CJ9_max_7cf53  h_r9) (by decide) rfl rfl (Nat.le_of_ble_eq_true rfl) ?_
        obtain ⟨m10, e_m10, h⟩ := mx_letE h
        refine mx_iastore (mx_d tX2_addWays_0 51 rfl) (ly2_s9 g0) (mx_inbE hi7) (mx_eqz (z' := (e, m10)) (by rw [e_m10]) ?_)
        obtain ⟨v11, e_v11, h⟩ := mx_letE h
        refine mx_iinc v11 (L2 := [.ref q0, .int y1, .int y2, .int y3, .int y4, .int v11, .int v2, .int v3]) (mx_d tX2_addWays_0 52 rfl) rfl (by rw [e_v11]; rfl) (by decide) rfl ?_
        refine mx_goto (tgt := 3) (mx_d tX2_addWays_0 53 rfl) (by decide) ?_
        refine mx_forget (L' := [.ref q0, .int y1, .int y2, .int y3, .int y4, .int v11, .float 0, .float 0]) ⟨rfl, rfl, rfl, rfl, rfl, rfl, trivial⟩ ?_
        exact ih h hex
def FX2_addWays (a : Nat) (x0 : Int32) (x1 : Int32) (x2 : Int32) (x3 : Int32) (m : mB) : Option mB := Option.bind (FX2_addWays_L3 a x0 x1 x2 x3 mx_FU 0 m) (fun q12 => mx_chk (mx_inb x1 144) (Option.bind (FX2_addTotal a x0 ((q12.1 (a + 13) (Int32.toNatClampNeg x1)) + x2) q12) (fun r14 => (if (r14.1 (a + 14) (Int32.toNatClampNeg x1)) = (-1) then (some r14) else Option.bind (FX2_addTotal a x0 ((r14.1 (a + 14) (Int32.toNatClampNeg x1)) + x2) r14) (fun r16 => (some r16))))))
set_option maxRecDepth 20000 in
theorem CX2_addWays {G : mG} {l : Launch} {e : mE} {a : Nat} {x0 : Int32} {x1 : Int32} {x2 : Int32} {x3 : Int32} {m : mB} {r : mB} (h0 : ly2 e a) (h : FX2_addWays a x0 x1 x2 x3 m = some r) : mx_Call G l MX2_addWays 2 0 0 [.ref a, .int x0, .int x1, .int x2, .int x3] (e, m) (fun v z => v = none ∧ z = (e, r)) := by
  refine mx_entry (L := [.ref a, .int x0, .int x1, .int x2, .int x3, .float 0, .float 0, .float 0]) (by decide +kernel) (Nat.le_of_ble_eq_true rfl) rfl ?_
  unfold FX2_addWays at h
  refine mx_iconst (0) (mx_d tX2_addWays_0 0 rfl) (by decide) ?_
  refine mx_istore (L2 := [.ref a, .int x0, .int x1, .int x2, .int x3, .int 0, .float 0, .float 0]) (mx_d tX2_addWays_0 1 rfl) (by decide) (by rfl) ?_
  obtain ⟨q12, h_q12, h⟩ := Option.bind_eq_some_iff.mp h
  refine CX2_addWays_L3 h0 mx_FU h_q12 ?_
  refine mx_aload_n (mx_d tX2_addWays_0 54 rfl) rfl rfl ?_
  refine mx_iload_n (mx_d tX2_addWays_0 55 rfl) rfl rfl ?_
  refine mx_aload_n (mx_d tX2_addWays_0 56 rfl) rfl rfl ?_
  refine mx_getR (mx_d tX2_addWays_0 57 rfl) fX2_22 rfl rfl (ly2_o h0) (ly2_r6 h0) ?_
  refine mx_iload_n (mx_d tX2_addWays_0 58 rfl) rfl rfl ?_
  obtain ⟨hi13, h⟩ := mx_chkE h
  refine mx_iaload (mx_d tX2_addWays_0 59 rfl) (ly2_s6 h0) (mx_inbE hi13) ?_
  refine mx_iload_n (mx_d tX2_addWays_1 0 rfl) rfl rfl ?_
  refine mx_iadd (mx_d tX2_addWays_1 1 rfl) ?_
  obtain ⟨r14, h_r14, h⟩ := Option.bind_eq_some_iff.mp h
  refine mx_cVv (mx_d tX2_addWays_1 2 rfl) iX2_105 rfl vX2_addTotal ⟨_, rfl, rfl⟩ (ly2_o h0) (CX2_addTotal h0 h_r14) (by decide) rfl rfl (Nat.le_of_ble_eq_true rfl) ?_
  refine mx_aload_n (mx_d tX2_addWays_1 3 rfl) rfl rfl ?_
  refine mx_getR (mx_d tX2_addWays_1 4 rfl) fX2_25 rfl rfl (ly2_o h0) (ly2_r7 h0) ?_
  refine mx_iload_n (mx_d tX2_addWays_1 5 rfl) rfl rfl ?_
  refine mx_iaload (mx_d tX2_addWays_1 6 rfl) (ly2_s7 h0) (mx_inbE hi13) ?_
  refine mx_iconst ((-1)) (mx_d tX2_addWays_1 7 rfl) (by decide) ?_
  refine mx_icmp_eq (tgt := 129) (mx_d tX2_addWays_1 8 rfl) (by decide) (fun hc15 => ?_) (fun hc15 => ?_)
  · rw [if_pos hc15] at h
    obtain rfl := Option.some.inj h
    exact mx_return (mx_d tX2_addWays_1 18 rfl) rfl ⟨rfl, rfl⟩
  · rw [if_neg hc15] at h
    refine mx_aload_n (mx_d tX2_addWays_1 9 rfl) rfl rfl ?_
    refine mx_iload_n (mx_d tX2_addWays_1 10 rfl) rfl rfl ?_
    refine mx_aload_n (mx_d tX2_addWays_1 11 rfl) rfl rfl ?_
    refine mx_getR (mx_d tX2_addWays_1 12 rfl) fX2_25 rfl rfl (ly2_o h0) (ly2_r7 h0) ?_
    refine mx_iload_n (mx_d tX2_addWays_1 13 rfl) rfl rfl ?_
    refine mx_iaload (mx_d tX2_addWays_1 14 rfl) (ly2_s7 h0) (mx_inbE hi13) ?_
    refine mx_iload_n (mx_d tX2_addWays_1 15 rfl) rfl rfl ?_
    refine mx_iadd (mx_d tX2_addWays_1 16 rfl) ?_
    obtain ⟨r16, h_r16, h⟩ := Option.bind_eq_some_iff.mp h
    refine mx_cVv (mx_d tX2_addWays_1 17 rfl) iX2_105 rfl vX2_addTotal ⟨_, rfl, rfl⟩ (ly2_o h0) (CX2_addTotal h0 h_r16) (by decide) rfl rfl (Nat.le_of_ble_eq_true rfl) ?_
    obtain rfl := Option.some.inj h
    exact mx_return (mx_d tX2_addWays_1 18 rfl) rfl ⟨rfl, rfl⟩
def FX2_slotFor_L142 (rec : Nat → Int32 → Int32 → mB → Option (Int32 × mB)) (q0 : Nat) (y2 : Int32) (y3 : Int32) (y4 : Int32) (y5 : Int32) (y6 : Int32) : Nat → Int32 → mB → Option (mB)
  | 0, _, _ => none
  | f + 1, y7, m => (if 10 ≤ y7 then (some (m)) else (if ((y6 >>> (y7 &&& 31)) &&& 1) = 0 then mx_let (y7 + 1) (fun v23 => (FX2_slotFor_L142 rec q0 y2 y3 y4 y5 y6 f v23 m)) else Option.bind (rec q0 (y5 &&& (((1 : Int32) <<< (y7 &&& 31)) ^^^ (-1))) (y2 + 1) m) (fun r24 => Option.bind (FX4_weightOf (q0 + 1) y4 y7 r24.2) (fun r25 => Option.bind (FX2_addWays q0 y3 r24.1 r25 1 r24.2) (fun r26 => mx_let (y7 + 1) (fun v27 => (FX2_slotFor_L142 rec q0 y2 y3 y4 y5 y6 f v27 r26)))))))
set_option maxRecDepth 20000 in
theorem CX2_slotFor_L142 {G : mG} {l : Launch} {e : mE} {Post : Option Value → mS → Prop} {rec : Nat → Int32 → Int32 → mB → Option (Int32 × mB)} {D : Nat} {q0 : Nat} {y2 : Int32} {y3 : Int32} {y4 : Int32} {y5 : Int32} {y6 : Int32} (hrec : ∀ {a : Nat} {x0 : Int32} {x1 : Int32} {m : mB} {r : (Int32 × mB)}, ly2 e a → rec a x0 x1 m = some r → mx_Call G l MX2_slotFor D 0 0 [.ref a, .int x0, .int x1] (e, m) (fun v z => v = some (.int r.1) ∧ z = (e, r.2))) (g0 : ly2 e q0) : ∀ (f : Nat) {y7 : Int32} {m : mB} {q : (mB)}, FX2_slotFor_L142 rec q0 y2 y3 y4 y5 y6 f y7 m = some q → (mx_Fr G l MX2_slotFor (D + 4) 0 0 Post 198 [.float 0, .float 0, .float 0, .int y3, .float 0, .float 0, .float 0, .float 0] [] (e, q)) → mx_Fr G l MX2_slotFor (D + 4) 0 0 Post 142 [.ref q0, .float 0, .int y2, .int y3, .int y4, .int y5, .int y6, .int y7] [] (e, m) := by
  intro f
  induction f with
  | zero => intro _ _ _ h; cases h
  | succ f ih =>
    intro y7 m q h hex
    rw [FX2_slotFor_L142] at h
    refine mx_iload (mx_d tX2_slotFor_1 26 rfl) rfl ?_
    refine mx_bipush (10) (mx_d tX2_slotFor_1 27 rfl) (by decide) ?_
    refine mx_icmp_ge (tgt := 198) (mx_d tX2_slotFor_1 28 rfl) (by decide) (fun hc21 => ?_) (fun hc21 => ?_)
    · rw [if_pos hc21] at h
      obtain rfl := Option.some.inj h
      refine mx_forget (L' := [.float 0, .float 0, .float 0, .int y3, .float 0, .float 0, .float 0, .float 0]) ⟨rfl, trivial⟩ ?_
      exact hex
    · rw [if_neg hc21] at h
      refine mx_iload (mx_d tX2_slotFor_1 29 rfl) rfl ?_
      refine mx_iload (mx_d tX2_slotFor_1 30 rfl) rfl ?_
      refine mx_ishr (mx_d tX2_slotFor_1 31 rfl) ?_
      refine mx_iconst (1) (mx_d tX2_slotFor_1 32 rfl) (by decide) ?_
      refine mx_iand (mx_d tX2_slotFor_1 33 rfl) ?_
      refine mx_if_eq (tgt := 192) (mx_d tX2_slotFor_1 34 rfl) (by decide) (fun hc22 => ?_) (fun hc22 => ?_)
      · rw [if_pos hc22] at h
        obtain ⟨v23, e_v23, h⟩ := mx_letE h
        refine mx_iinc v23 (L2 := [.ref q0, .float 0, .int y2, .int y3, .int y4, .int y5, .int y6, .int v23]) (mx_d tX2_slotFor_1 56 rfl) rfl (by rw [e_v23]; rfl) (by decide) rfl ?_
        refine mx_goto (tgt := 142) (mx_d tX2_slotFor_1 57 rfl) (by decide) ?_
        exact ih h hex
      · rw [if_neg hc22] at h
        refine mx_aload_n (mx_d tX2_slotFor_1 35 rfl) rfl rfl ?_
        refine mx_iload_n (mx_d tX2_slotFor_1 36 rfl) rfl rfl ?_
        refine mx_aload_n (mx_d tX2_slotFor_1 37 rfl) rfl rfl ?_
        refine mx_iload (mx_d tX2_slotFor_1 38 rfl) rfl ?_
        refine mx_iconst (1) (mx_d tX2_slotFor_1 39 rfl) (by decide) ?_
        refine mx_iload (mx_d tX2_slotFor_1 40 rfl) rfl ?_
        refine mx_ishl (mx_d tX2_slotFor_1 41 rfl) ?_
        refine mx_iconst ((-1)) (mx_d tX2_slotFor_1 42 rfl) (by decide) ?_
        refine mx_ixor (mx_d tX2_slotFor_1 43 rfl) ?_
        refine mx_iand (mx_d tX2_slotFor_1 44 rfl) ?_
        refine mx_iload_n (mx_d tX2_slotFor_1 45 rfl) rfl rfl ?_
        refine mx_iconst (1) (mx_d tX2_slotFor_1 46 rfl) (by decide) ?_
        refine mx_iadd (mx_d tX2_slotFor_1 47 rfl) ?_
        obtain ⟨r24, h_r24, h⟩ := Option.bind_eq_some_iff.mp h
        refine mx_cVi (mx_d tX2_slotFor_1 48 rfl) iX2_72 rfl vX2_slotFor ⟨_, rfl, rfl⟩ (ly2_o g0) (hrec g0 h_r24) (by omega) rfl rfl (Nat.le_of_ble_eq_true rfl) ?_
        refine mx_aload_n (mx_d tX2_slotFor_1 49 rfl) rfl rfl ?_
        refine mx_getR (mx_d tX2_slotFor_1 50 rfl) fX2_12 rfl rfl (ly2_o g0) (ly2_r0 g0) ?_
        refine mx_iload (mx_d tX2_slotFor_1 51 rfl) rfl ?_
        refine mx_iload (mx_d tX2_slotFor_1 52 rfl) rfl ?_
        obtain ⟨r25, h_r25, h⟩ := Option.bind_eq_some_iff.mp h
        refine mx_cVi (mx_d tX2_slotFor_1 53 rfl) iX2_97 rfl vX4_weightOf ⟨_, rfl, rfl⟩ (ly4_o (ly2_s0 g0)) (CX4_weightOf (ly2_s0 g0) h_r25) (by omega) rfl rfl (Nat.le_of_ble_eq_true rfl) ?_
        refine mx_iconst (1) (mx_d tX2_slotFor_1 54 rfl) (by decide) ?_
        obtain ⟨r26, h_r26, h⟩ := Option.bind_eq_some_iff.mp h
        refine mx_cVv (mx_d tX2_slotFor_1 55 rfl) iX2_90 rfl vX2_addWays ⟨_, rfl, rfl⟩ (ly2_o g0) (CX2_addWays g0 h_r26) (by omega) rfl rfl (Nat.le_of_ble_eq_true rfl) ?_
        obtain ⟨v27, e_v27, h⟩ := mx_letE h
        refine mx_iinc v27 (L2 := [.ref q0, .float 0, .int y2, .int y3, .int y4, .int y5, .int y6, .int v27]) (mx_d tX2_slotFor_1 56 rfl) rfl (by rw [e_v27]; rfl) (by decide) rfl ?_
        refine mx_goto (tgt := 142) (mx_d tX2_slotFor_1 57 rfl) (by decide) ?_
        exact ih h hex
def FX2_slotFor_B (rec : Nat → Int32 → Int32 → mB → Option (Int32 × mB)) (a : Nat) (x0 : Int32) (x1 : Int32) (m : mB) : Option (Int32 × mB) := (if x0 < 0 then (some (0, m)) else (if 1024 ≤ x0 then (some (0, m)) else (if x1 ≤ 10 then mx_chk (mx_inb x0 1024) ((if (m.1 (a + 12) (Int32.toNatClampNeg x0)) = (-1) then mx_let (m.1 a 5) (fun v6 => (if v6 < 0 then (some (0, m)) else (if v6 < 144 then mx_let (mx_up m.1 a 5 ((m.1 a 5) + 1), m.2) (fun m9 => mx_let (mx_up m9.1 (a + 12) (Int32.toNatClampNeg x0) v6, m9.2) (fun m10 => (if x0 = 0 then Option.bind (FX2_startSlot a v6 1 m10) (fun r29 => (if x0 = 0 then (some (v6, r29)) else Option.bind (FX2_leastOf x0 r29) (fun r31 => mx_let (x0 &&& (((1 : Int32) <<< (r31 &&& 31)) ^^^ (-1))) (fun v32 => Option.bind (rec a v32 (x1 + 1) r29) (fun r33 => Option.bind (FX2_addWays a v6 r33.1 0 0 r33.2) (fun r34 => Option.bind (FX4_nearTo (a + 1) r31 r34) (fun r35 => mx_let (r35 &&& v32) (fun v36 => mx_let (r31 + 1) (fun v37 => Option.bind (FX2_slotFor_L142 rec a x1 v6 r31 v32 v36 mx_FU v37 r34) (fun q38 => (some (v6, q38)))))))))))) else Option.bind (FX2_startSlot a v6 0 m10) (fun r12 => (if x0 = 0 then (some (v6, r12)) else Option.bind (FX2_leastOf x0 r12) (fun r14 => mx_let (x0 &&& (((1 : Int32) <<< (r14 &&& 31)) ^^^ (-1))) (fun v15 => Option.bind (rec a v15 (x1 + 1) r12) (fun r16 => Option.bind (FX2_addWays a v6 r16.1 0 0 r16.2) (fun r17 => Option.bind (FX4_nearTo (a + 1) r14 r17) (fun r18 => mx_let (r18 &&& v15) (fun v19 => mx_let (r14 + 1) (fun v20 => Option.bind (FX2_slotFor_L142 rec a x1 v6 r14 v15 v19 mx_FU v20 r17) (fun q28 => (some (v6, q28))))))))))))))) else (some (0, m))))) else Option.bind (FX2_slotKnown a x0 m) (fun r39 => (some (r39, m))))) else (some (0, m)))))
def FX2_slotFor : Nat → Nat → Int32 → Int32 → mB → Option (Int32 × mB)
  | 0, _, _, _, _ => none
  | D + 1, a, x0, x1, m => FX2_slotFor_B (FX2_slotFor D) a x0 x1 m
set_option maxRecDepth 20000 in
theorem CX2_slotFor_B {G : mG} {l : Launch} {e : mE} {rec : Nat → Int32 → Int32 → mB → Option (Int32 × mB)} {D : Nat} {a : Nat} {x0 : Int32} {x1 : Int32} {m : mB} {r : (Int32 × mB)} (hrec : ∀ {a : Nat} {x0 : Int32} {x1 : Int32} {m : mB} {r : (Int32 × mB)}, ly2 e a → rec a x0 x1 m = some r → mx_Call G l MX2_slotFor D 0 0 [.ref a, .int x0, .int x1] (e, m) (fun v z => v = some (.int r.1) ∧ z = (e, r.2))) (h0 : ly2 e a) (h : FX2_slotFor_B rec a x0 x1 m = some r) : mx_Call G l MX2_slotFor (D + 4) 0 0 [.ref a, .int x0, .int x1] (e, m) (fun v z => v = some (.int r.1) ∧ z = (e, r.2)) := by
  refine mx_entry (L := [.ref a, .int x0, .int x1, .float 0, .float 0, .float 0, .float 0, .float 0]) (by decide +kernel) (Nat.le_of_ble_eq_true rfl) rfl ?_
  unfold FX2_slotFor_B at h
  refine mx_iload_n (mx_d tX2_slotFor_0 0 rfl) rfl rfl ?_
  refine mx_if_lt (tgt := 17) (mx_d tX2_slotFor_0 1 rfl) (by decide) (fun hc1 => ?_) (fun hc1 => ?_)
  · rw [if_pos hc1] at h
    refine mx_iconst (0) (mx_d tX2_slotFor_0 8 rfl) (by decide) ?_
    obtain rfl := Option.some.inj h
    exact mx_ireturn (mx_d tX2_slotFor_0 9 rfl) rfl ⟨rfl, rfl⟩
  · rw [if_neg hc1] at h
    refine mx_iload_n (mx_d tX2_slotFor_0 2 rfl) rfl rfl ?_
    refine mx_sipush (1024) (mx_d tX2_slotFor_0 3 rfl) (by decide) ?_
    refine mx_icmp_ge (tgt := 17) (mx_d tX2_slotFor_0 4 rfl) (by decide) (fun hc2 => ?_) (fun hc2 => ?_)
    · rw [if_pos hc2] at h
      refine mx_iconst (0) (mx_d tX2_slotFor_0 8 rfl) (by decide) ?_
      obtain rfl := Option.some.inj h
      exact mx_ireturn (mx_d tX2_slotFor_0 9 rfl) rfl ⟨rfl, rfl⟩
    · rw [if_neg hc2] at h
      refine mx_iload_n (mx_d tX2_slotFor_0 5 rfl) rfl rfl ?_
      refine mx_bipush (10) (mx_d tX2_slotFor_0 6 rfl) (by decide) ?_
      refine mx_icmp_le (tgt := 19) (mx_d tX2_slotFor_0 7 rfl) (by decide) (fun hc3 => ?_) (fun hc3 => ?_)
      · rw [if_pos hc3] at h
        refine mx_aload_n (mx_d tX2_slotFor_0 10 rfl) rfl rfl ?_
        refine mx_getR (mx_d tX2_slotFor_0 11 rfl) fX2_18 rfl rfl (ly2_o h0) (ly2_r4 h0) ?_
        refine mx_iload_n (mx_d tX2_slotFor_0 12 rfl) rfl rfl ?_
        obtain ⟨hi4, h⟩ := mx_chkE h
        refine mx_iaload (mx_d tX2_slotFor_0 13 rfl) (ly2_s4 h0) (mx_inbE hi4) ?_
        refine mx_iconst ((-1)) (mx_d tX2_slotFor_0 14 rfl) (by decide) ?_
        refine mx_icmp_eq (tgt := 35) (mx_d tX2_slotFor_0 15 rfl) (by decide) (fun hc5 => ?_) (fun hc5 => ?_)
        · rw [if_pos hc5] at h
          refine mx_aload_n (mx_d tX2_slotFor_0 20 rfl) rfl rfl ?_
          refine mx_getI (mx_d tX2_slotFor_0 21 rfl) fX2_61 rfl (Or.inl rfl) (ly2_o h0) ?_
          obtain ⟨v6, e_v6, h⟩ := mx_letE h
          refine mx_istore_n (L2 := [.ref a, .int x0, .int x1, .int v6, .float 0, .float 0, .float 0, .float 0]) (mx_d tX2_slotFor_0 22 rfl) rfl (by decide) (by rw [e_v6]; rfl) ?_
          refine mx_iload_n (mx_d tX2_slotFor_0 23 rfl) rfl rfl ?_
          refine mx_if_lt (tgt := 51) (mx_d tX2_slotFor_0 24 rfl) (by decide) (fun hc7 => ?_) (fun hc7 => ?_)
          · rw [if_pos hc7] at h
            refine mx_iconst (0) (mx_d tX2_slotFor_0 28 rfl) (by decide) ?_
            obtain rfl := Option.some.inj h
            exact mx_ireturn (mx_d tX2_slotFor_0 29 rfl) rfl ⟨rfl, rfl⟩
          · rw [if_neg hc7] at h
            refine mx_iload_n (mx_d tX2_slotFor_0 25 rfl) rfl rfl ?_
            refine mx_sipush (144) (mx_d tX2_slotFor_0 26 rfl) (by decide) ?_
            refine mx_icmp_lt (tgt := 53) (mx_d tX2_slotFor_0 27 rfl) (by decide) (fun hc8 => ?_) (fun hc8 => ?_)
            · rw [if_pos hc8] at h
              refine mx_aload_n (mx_d tX2_slotFor_0 30 rfl) rfl rfl ?_
              refine mx_dup (mx_d tX2_slotFor_0 31 rfl) rfl ?_
              refine mx_getI (mx_d tX2_slotFor_0 32 rfl) fX2_61 rfl (Or.inl rfl) (ly2_o h0) ?_
              refine mx_iconst (1) (mx_d tX2_slotFor_0 33 rfl) (by decide) ?_
              refine mx_iadd (mx_d tX2_slotFor_0 34 rfl) ?_
              obtain ⟨m9, e_m9, h⟩ := mx_letE h
              refine mx_putI (mx_d tX2_slotFor_0 35 rfl) fX2_61 rfl ⟨_, rfl, rfl⟩ rfl (ly2_o h0) (mx_eqz (z' := (e, m9)) (by rw [e_m9]) ?_)
              refine mx_aload_n (mx_d tX2_slotFor_0 36 rfl) rfl rfl ?_
              refine mx_getR (mx_d tX2_slotFor_0 37 rfl) fX2_18 rfl rfl (ly2_o h0) (ly2_r4 h0) ?_
              refine mx_iload_n (mx_d tX2_slotFor_0 38 rfl) rfl rfl ?_
              refine mx_iload_n (mx_d tX2_slotFor_0 39 rfl) rfl rfl ?_
              obtain ⟨m10, e_m10, h⟩ := mx_letE h
              refine mx_iastore (mx_d tX2_slotFor_0 40 rfl) (ly2_s4 h0) (mx_inbE hi4) (mx_eqz (z' := (e, m10)) (by rw [e_m10]) ?_)
              refine mx_aload_n (mx_d tX2_slotFor_0 41 rfl) rfl rfl ?_
              refine mx_iload_n (mx_d tX2_slotFor_0 42 rfl) rfl rfl ?_
              refine mx_iload_n (mx_d tX2_slotFor_0 43 rfl) rfl rfl ?_
              refine mx_if_ne (tgt := 80) (mx_d tX2_slotFor_0 44 rfl) (by decide) (fun hc11 => ?_) (fun hc11 => ?_)
              · rw [if_neg hc11] at h
                refine mx_iconst (0) (mx_d tX2_slotFor_0 47 rfl) (by decide) ?_
                obtain ⟨r12, h_r12, h⟩ := Option.bind_eq_some_iff.mp h
                refine mx_cVv (mx_d tX2_slotFor_0 48 rfl) iX2_83 rfl vX2_startSlot ⟨_, rfl, rfl⟩ (ly2_o h0) (CX2_startSlot h0 h_r12) (by omega) rfl rfl (Nat.le_of_ble_eq_true rfl) ?_
                refine mx_iload_n (mx_d tX2_slotFor_0 49 rfl) rfl rfl ?_
                refine mx_if_ne (tgt := 90) (mx_d tX2_slotFor_0 50 rfl) (by decide) (fun hc13 => ?_) (fun hc13 => ?_)
                · rw [if_neg hc13] at h
                  refine mx_iload_n (mx_d tX2_slotFor_0 53 rfl) rfl rfl ?_
                  obtain ⟨r14, h_r14, h⟩ := Option.bind_eq_some_iff.mp h
                  refine mx_cSi (mx_d tX2_slotFor_0 54 rfl) iX2_87 rfl sX2_leastOf (CX2_leastOf  h_r14) (by omega) rfl rfl (Nat.le_of_ble_eq_true rfl) ?_
                  refine mx_istore (L2 := [.ref a, .int x0, .int x1, .int v6, .int r14, .float 0, .float 0, .float 0]) (mx_d tX2_slotFor_0 55 rfl) (by decide) (by rfl) ?_
                  refine mx_iload_n (mx_d tX2_slotFor_0 56 rfl) rfl rfl ?_
                  refine mx_iconst (1) (mx_d tX2_slotFor_0 57 rfl) (by decide) ?_
                  refine mx_iload (mx_d tX2_slotFor_0 58 rfl) rfl ?_
                  refine mx_ishl (mx_d tX2_slotFor_0 59 rfl) ?_
                  refine mx_iconst ((-1)) (mx_d tX2_slotFor_1 0 rfl) (by decide) ?_
                  refine mx_ixor (mx_d tX2_slotFor_1 1 rfl) ?_
                  refine mx_iand (mx_d tX2_slotFor_1 2 rfl) ?_
                  obtain ⟨v15, e_v15, h⟩ := mx_letE h
                  refine mx_istore (L2 := [.ref a, .int x0, .int x1, .int v6, .int r14, .int v15, .float 0, .float 0]) (mx_d tX2_slotFor_1 3 rfl) (by decide) (by rw [e_v15]; rfl) ?_
                  refine mx_aload_n (mx_d tX2_slotFor_1 4 rfl) rfl rfl ?_
                  refine mx_iload_n (mx_d tX2_slotFor_1 5 rfl) rfl rfl ?_
                  refine mx_aload_n (mx_d tX2_slotFor_1 6 rfl) rfl rfl ?_
                  refine mx_iload (mx_d tX2_slotFor_1 7 rfl) rfl ?_
                  refine mx_iload_n (mx_d tX2_slotFor_1 8 rfl) rfl rfl ?_
                  refine mx_iconst (1) (mx_d tX2_slotFor_1 9 rfl) (by decide) ?_
                  refine mx_iadd (mx_d tX2_slotFor_1 10 rfl) ?_
                  obtain ⟨r16, h_r16, h⟩ := Option.bind_eq_some_iff.mp h
                  refine mx_cVi (mx_d tX2_slotFor_1 11 rfl) iX2_72 rfl vX2_slotFor ⟨_, rfl, rfl⟩ (ly2_o h0) (hrec h0 h_r16) (by omega) rfl rfl (Nat.le_of_ble_eq_true rfl) ?_
                  refine mx_iconst (0) (mx_d tX2_slotFor_1 12 rfl) (by decide) ?_
                  refine mx_iconst (0) (mx_d tX2_slotFor_1 13 rfl) (by decide) ?_
                  obtain ⟨r17, h_r17, h⟩ := Option.bind_eq_some_iff.mp h
                  refine mx_cVv (mx_d tX2_slotFor_1 14 rfl) iX2_90 rfl vX2_addWays ⟨_, rfl, rfl⟩ (ly2_o h0) (CX2_addWays h0 h_r17) (by omega) rfl rfl (Nat.le_of_ble_eq_true rfl) ?_
                  refine mx_aload_n (mx_d tX2_slotFor_1 15 rfl) rfl rfl ?_
                  refine mx_getR (mx_d tX2_slotFor_1 16 rfl) fX2_12 rfl rfl (ly2_o h0) (ly2_r0 h0) ?_
                  refine mx_iload (mx_d tX2_slotFor_1 17 rfl) rfl ?_
                  obtain ⟨r18, h_r18, h⟩ := Option.bind_eq_some_iff.mp h
                  refine mx_cVi (mx_d tX2_slotFor_1 18 rfl) iX2_94 rfl vX4_nearTo ⟨_, rfl, rfl⟩ (ly4_o (ly2_s0 h0)) (CX4_nearTo (ly2_s0 h0) h_r18) (by omega) rfl rfl (Nat.le_of_ble_eq_true rfl) ?_
                  refine mx_iload (mx_d tX2_slotFor_1 19 rfl) rfl ?_
                  refine mx_iand (mx_d tX2_slotFor_1 20 rfl) ?_
                  obtain ⟨v19, e_v19, h⟩ := mx_letE h
                  refine mx_istore (L2 := [.ref a, .int x0, .int x1, .int v6, .int r14, .int v15, .int v19, .float 0]) (mx_d tX2_slotFor_1 21 rfl) (by decide) (by rw [e_v19]; rfl) ?_
                  refine mx_iload (mx_d tX2_slotFor_1 22 rfl) rfl ?_
                  refine mx_iconst (1) (mx_d tX2_slotFor_1 23 rfl) (by decide) ?_
                  refine mx_iadd (mx_d tX2_slotFor_1 24 rfl) ?_
                  obtain ⟨v20, e_v20, h⟩ := mx_letE h
                  refine mx_istore (L2 := [.ref a, .int x0, .int x1, .int v6, .int r14, .int v15, .int v19, .int v20]) (mx_d tX2_slotFor_1 25 rfl) (by decide) (by rw [e_v20]; rfl) ?_
                  obtain ⟨q28, h_q28, h⟩ := Option.bind_eq_some_iff.mp h
                  refine mx_forget (L' := [.ref a, .float 0, .int x1, .int v6, .int r14, .int v15, .int v19, .int v20]) ⟨rfl, rfl, rfl, rfl, rfl, rfl, rfl, trivial⟩ ?_
                  refine CX2_slotFor_L142 hrec h0 mx_FU h_q28 ?_
                  refine mx_iload_n (mx_d tX2_slotFor_1 58 rfl) rfl rfl ?_
                  obtain rfl := Option.some.inj h
                  exact mx_ireturn (mx_d tX2_slotFor_1 59 rfl) rfl ⟨rfl, rfl⟩
                · rw [if_pos hc13] at h
                  refine mx_iload_n (mx_d tX2_slotFor_0 51 rfl) rfl rfl ?_
                  obtain rfl := Option.some.inj h
                  exact mx_ireturn (mx_d tX2_slotFor_0 52 rfl) rfl ⟨rfl, rfl⟩
              · rw [if_pos hc11] at h
                refine mx_iconst (1) (mx_d tX2_slotFor_0 45 rfl) (by decide) ?_
                refine mx_goto (tgt := 81) (mx_d tX2_slotFor_0 46 rfl) (by decide) ?_
                obtain ⟨r29, h_r29, h⟩ := Option.bind_eq_some_iff.mp h
                refine mx_cVv (mx_d tX2_slotFor_0 48 rfl) iX2_83 rfl vX2_startSlot ⟨_, rfl, rfl⟩ (ly2_o h0) (CX2_startSlot h0 h_r29) (by omega) rfl rfl (Nat.le_of_ble_eq_true rfl) ?_
                refine mx_iload_n (mx_d tX2_slotFor_0 49 rfl) rfl rfl ?_
                refine mx_if_ne (tgt := 90) (mx_d tX2_slotFor_0 50 rfl) (by decide) (fun hc30 => ?_) (fun hc30 => ?_)
                · rw [if_neg hc30] at h
                  refine mx_iload_n (mx_d tX2_slotFor_0 53 rfl) rfl rfl ?_
                  obtain ⟨r31, h_r31, h⟩ := Option.bind_eq_some_iff.mp h
                  refine mx_cSi (mx_d tX2_slotFor_0 54 rfl) iX2_87 rfl sX2_leastOf (CX2_leastOf  h_r31) (by omega) rfl rfl (Nat.le_of_ble_eq_true rfl) ?_
                  refine mx_istore (L2 := [.ref a, .int x0, .int x1, .int v6, .int r31, .float 0, .float 0, .float 0]) (mx_d tX2_slotFor_0 55 rfl) (by decide) (by rfl) ?_
                  refine mx_iload_n (mx_d tX2_slotFor_0 56 rfl) rfl rfl ?_
                  refine mx_iconst (1) (mx_d tX2_slotFor_0 57 rfl) (by decide) ?_
                  refine mx_iload (mx_d tX2_slotFor_0 58 rfl) rfl ?_
                  refine mx_ishl (mx_d tX2_slotFor_0 59 rfl) ?_
                  refine mx_iconst ((-1)) (mx_d tX2_slotFor_1 0 rfl) (by decide) ?_
                  refine mx_ixor (mx_d tX2_slotFor_1 1 rfl) ?_
                  refine mx_iand (mx_d tX2_slotFor_1 2 rfl) ?_
                  obtain ⟨v32, e_v32, h⟩ := mx_letE h
                  refine mx_istore (L2 := [.ref a, .int x0, .int x1, .int v6, .int r31, .int v32, .float 0, .float 0]) (mx_d tX2_slotFor_1 3 rfl) (by decide) (by rw [e_v32]; rfl) ?_
                  refine mx_aload_n (mx_d tX2_slotFor_1 4 rfl) rfl rfl ?_
                  refine mx_iload_n (mx_d tX2_slotFor_1 5 rfl) rfl rfl ?_
                  refine mx_aload_n (mx_d tX2_slotFor_1 6 rfl) rfl rfl ?_
                  refine mx_iload (mx_d tX2_slotFor_1 7 rfl) rfl ?_
                  refine mx_iload_n (mx_d tX2_slotFor_1 8 rfl) rfl rfl ?_
                  refine mx_iconst (1) (mx_d tX2_slotFor_1 9 rfl) (by decide) ?_
                  refine mx_iadd (mx_d tX2_slotFor_1 10 rfl) ?_
                  obtain ⟨r33, h_r33, h⟩ := Option.bind_eq_some_iff.mp h
                  refine mx_cVi (mx_d tX2_slotFor_1 11 rfl) iX2_72 rfl vX2_slotFor ⟨_, rfl, rfl⟩ (ly2_o h0) (hrec h0 h_r33) (by omega) rfl rfl (Nat.le_of_ble_eq_true rfl) ?_
                  refine mx_iconst (0) (mx_d tX2_slotFor_1 12 rfl) (by decide) ?_
                  refine mx_iconst (0) (mx_d tX2_slotFor_1 13 rfl) (by decide) ?_
                  obtain ⟨r34, h_r34, h⟩ := Option.bind_eq_some_iff.mp h
                  refine mx_cVv (mx_d tX2_slotFor_1 14 rfl) iX2_90 rfl vX2_addWays ⟨_, rfl, rfl⟩ (ly2_o h0) (CX2_addWays h0 h_r34) (by omega) rfl rfl (Nat.le_of_ble_eq_true rfl) ?_
                  refine mx_aload_n (mx_d tX2_slotFor_1 15 rfl) rfl rfl ?_
                  refine mx_getR (mx_d tX2_slotFor_1 16 rfl) fX2_12 rfl rfl (ly2_o h0) (ly2_r0 h0) ?_
                  refine mx_iload (mx_d tX2_slotFor_1 17 rfl) rfl ?_
                  obtain ⟨r35, h_r35, h⟩ := Option.bind_eq_some_iff.mp h
                  refine mx_cVi (mx_d tX2_slotFor_1 18 rfl) iX2_94 rfl vX4_nearTo ⟨_, rfl, rfl⟩ (ly4_o (ly2_s0 h0)) (CX4_nearTo (ly2_s0 h0) h_r35) (by omega) rfl rfl (Nat.le_of_ble_eq_true rfl) ?_
                  refine mx_iload (mx_d tX2_slotFor_1 19 rfl) rfl ?_
                  refine mx_iand (mx_d tX2_slotFor_1 20 rfl) ?_
                  obtain ⟨v36, e_v36, h⟩ := mx_letE h
                  refine mx_istore (L2 := [.ref a, .int x0, .int x1, .int v6, .int r31, .int v32, .int v36, .float 0]) (mx_d tX2_slotFor_1 21 rfl) (by decide) (by rw [e_v36]; rfl) ?_
                  refine mx_iload (mx_d tX2_slotFor_1 22 rfl) rfl ?_
                  refine mx_iconst (1) (mx_d tX2_slotFor_1 23 rfl) (by decide) ?_
                  refine mx_iadd (mx_d tX2_slotFor_1 24 rfl) ?_
                  obtain ⟨v37, e_v37, h⟩ := mx_letE h
                  refine mx_istore (L2 := [.ref a, .int x0, .int x1, .int v6, .int r31, .int v32, .int v36, .int v37]) (mx_d tX2_slotFor_1 25 rfl) (by decide) (by rw [e_v37]; rfl) ?_
                  obtain ⟨q38, h_q38, h⟩ := Option.bind_eq_some_iff.mp h
                  refine mx_forget (L' := [.ref a, .float 0, .int x1, .int v6, .int r31, .int v32, .int v36, .int v37]) ⟨rfl, rfl, rfl, rfl, rfl, rfl, rfl, trivial⟩ ?_
                  refine CX2_slotFor_L142 hrec h0 mx_FU h_q38 ?_
                  refine mx_iload_n (mx_d tX2_slotFor_1 58 rfl) rfl rfl ?_
                  obtain rfl := Option.some.inj h
                  exact mx_ireturn (mx_d tX2_slotFor_1 59 rfl) rfl ⟨rfl, rfl⟩
                · rw [if_pos hc30] at h
                  refine mx_iload_n (mx_d tX2_slotFor_0 51 rfl) rfl rfl ?_
                  obtain rfl := Option.some.inj h
                  exact mx_ireturn (mx_d tX2_slotFor_0 52 rfl) rfl ⟨rfl, rfl⟩
            · rw [if_neg hc8] at h
              refine mx_iconst (0) (mx_d tX2_slotFor_0 28 rfl) (by decide) ?_
              obtain rfl := Option.some.inj h
              exact mx_ireturn (mx_d tX2_slotFor_0 29 rfl) rfl ⟨rfl, rfl⟩
        · rw [if_neg hc5] at h
          refine mx_aload_n (mx_d tX2_slotFor_0 16 rfl) rfl rfl ?_
          refine mx_iload_n (mx_d tX2_slotFor_0 17 rfl) rfl rfl ?_
          obtain ⟨r39, h_r39, h⟩ := Option.bind_eq_some_iff.mp h
          refine mx_cVi (mx_d tX2_slotFor_0 18 rfl) iX2_80 rfl vX2_slotKnown ⟨_, rfl, rfl⟩ (ly2_o h0) (CX2_slotKnown h0 h_r39) (by omega) rfl rfl (Nat.le_of_ble_eq_true rfl) ?_
          obtain rfl := Option.some.inj h
          exact mx_ireturn (mx_d tX2_slotFor_0 19 rfl) rfl ⟨rfl, rfl⟩
      · rw [if_neg hc3] at h
        refine mx_iconst (0) (mx_d tX2_slotFor_0 8 rfl) (by decide) ?_
        obtain rfl := Option.some.inj h
        exact mx_ireturn (mx_d tX2_slotFor_0 9 rfl) rfl ⟨rfl, rfl⟩
theorem CX2_slotFor {G : mG} {l : Launch} {e : mE} : ∀ (D : Nat) {a : Nat} {x0 : Int32} {x1 : Int32} {m : mB} {r : (Int32 × mB)}, ly2 e a → FX2_slotFor D a x0 x1 m = some r → mx_Call G l MX2_slotFor (4 * D) 0 0 [.ref a, .int x0, .int x1] (e, m) (fun v z => v = some (.int r.1) ∧ z = (e, r.2)) := by
  intro D
  induction D with
  | zero => intro _ _ _ _ _ _ h; cases h
  | succ D ih =>
    intro a x0 x1 m r h0 h
    rw [FX2_slotFor] at h
    have hh := CX2_slotFor_B (rec := FX2_slotFor D) (D := 4 * D) (fun {_ _ _} {_} {_} zh0 hz => ih zh0 hz) h0 h
    rw [show 4 * (D + 1) = 4 * D + 4 by omega]
    exact hh
def FX2_lookAt_L44 (q0 : Nat) : Nat → Int32 → mB → Option (mB)
  | 0, _, _ => none
  | f + 1, y2, m => (if 1024 ≤ y2 then (some (m)) else mx_chk (mx_inb y2 1024) (mx_let (mx_up m.1 (q0 + 12) (Int32.toNatClampNeg y2) (-1), m.2) (fun m8 => mx_let (y2 + 1) (fun v10 => (FX2_lookAt_L44 q0 f v10 m8)))))
set_option maxRecDepth 20000 in
theorem CX2_lookAt_L44 {G : mG} {l : Launch} {e : mE} {Post : Option Value → mS → Prop} {q0 : Nat} (g0 : ly2 e q0) : ∀ (f : Nat) {y2 : Int32} {m : mB} {q : (mB)}, FX2_lookAt_L44 q0 f y2 m = some q → (mx_Fr G l MX2_lookAt 257 0 0 Post 64 [.ref q0, .float 0, .float 0] [] (e, q)) → mx_Fr G l MX2_lookAt 257 0 0 Post 44 [.ref q0, .float 0, .int y2] [] (e, m) := by
  intro f
  induction f with
  | zero => intro _ _ _ h; cases h
  | succ f ih =>
    intro y2 m q h hex
    rw [FX2_lookAt_L44] at h
    refine mx_iload_n (mx_d tX2_lookAt_0 24 rfl) rfl rfl ?_
    refine mx_sipush (1024) (mx_d tX2_lookAt_0 25 rfl) (by decide) ?_
    refine mx_icmp_ge (tgt := 64) (mx_d tX2_lookAt_0 26 rfl) (by decide) (fun hc7 => ?_) (fun hc7 => ?_)
    · rw [if_pos hc7] at h
      obtain rfl := Option.some.inj h
      refine mx_forget (L' := [.ref q0, .float 0, .float 0]) ⟨rfl, trivial⟩ ?_
      exact hex
    · rw [if_neg hc7] at h
      refine mx_aload_n (mx_d tX2_lookAt_0 27 rfl) rfl rfl ?_
      refine mx_getR (mx_d tX2_lookAt_0 28 rfl) fX2_18 rfl rfl (ly2_o g0) (ly2_r4 g0) ?_
      refine mx_iload_n (mx_d tX2_lookAt_0 29 rfl) rfl rfl ?_
      refine mx_iconst ((-1)) (mx_d tX2_lookAt_0 30 rfl) (by decide) ?_
      obtain ⟨hi9, h⟩ := mx_chkE h
      obtain ⟨m8, e_m8, h⟩ := mx_letE h
      refine mx_iastore (mx_d tX2_lookAt_0 31 rfl) (ly2_s4 g0) (mx_inbE hi9) (mx_eqz (z' := (e, m8)) (by rw [e_m8]) ?_)
      obtain ⟨v10, e_v10, h⟩ := mx_letE h
      refine mx_iinc v10 (L2 := [.ref q0, .float 0, .int v10]) (mx_d tX2_lookAt_0 32 rfl) rfl (by rw [e_v10]; rfl) (by decide) rfl ?_
      refine mx_goto (tgt := 44) (mx_d tX2_lookAt_0 33 rfl) (by decide) ?_
      exact ih h hex
def FX2_lookAt (a : Nat) (p0 : Nat) (m : mB) : Option mB := mx_let (Option.bind (FX4_copyLinksFrom (a + 1) p0 m) (fun r3 => mx_let (mx_up r3.1 a 1 1, r3.2) (fun m4 => mx_let (mx_up m4.1 a 2 0, m4.2) (fun m5 => mx_let (mx_up m5.1 a 5 0, m5.2) (fun m6 => Option.bind (FX2_lookAt_L44 a mx_FU 0 m6) (fun q11 => Option.bind (FX4_points (a + 1) q11) (fun r12 => mx_let (mx_up q11.1 a 3 (((1 : Int32) <<< (r12 &&& 31)) - 1), q11.2) (fun m13 => Option.bind (FX2_slotFor 64 a (m13.1 a 3) 0 m13) (fun r14 => (some r14.2)))))))))) (fun k2 => (if (m.1 a 1) = 0 then k2 else Option.bind (FX4_hasLinksOf (a + 1) p0 m) (fun r15 => (if r15 = 0 then k2 else (some m)))))
set_option maxRecDepth 20000 in
theorem CX2_lookAt {G : mG} {l : Launch} {e : mE} {a : Nat} {p0 : Nat} {m : mB} {r : mB} (h0 : ly2 e a) (h1 : ly4 e p0) (h : FX2_lookAt a p0 m = some r) : mx_Call G l MX2_lookAt 257 0 0 [.ref a, .ref p0] (e, m) (fun v z => v = none ∧ z = (e, r)) := by
  refine mx_entry (L := [.ref a, .ref p0, .float 0]) (by decide +kernel) (Nat.le_of_ble_eq_true rfl) rfl ?_
  unfold FX2_lookAt at h
  refine mx_aload_n (mx_d tX2_lookAt_0 0 rfl) rfl rfl ?_
  refine mx_getI (mx_d tX2_lookAt_0 1 rfl) fX2_46 rfl (Or.inr rfl) (ly2_o h0) ?_
  refine mx_letK (J := fun k2 => k2 = some r → mx_Fr G l MX2_lookAt 257 0 0 (fun v z => v = none ∧ z = (e, r)) 19 [.ref a, .ref p0, .float 0] [] (e, m)) h ?_ (fun k2 j_k2 h => ?_)
  · intro h
    refine mx_aload_n (mx_d tX2_lookAt_0 9 rfl) rfl rfl ?_
    refine mx_getR (mx_d tX2_lookAt_0 10 rfl) fX2_12 rfl rfl (ly2_o h0) (ly2_r0 h0) ?_
    refine mx_aload_n (mx_d tX2_lookAt_0 11 rfl) rfl rfl ?_
    obtain ⟨r3, h_r3, h⟩ := Option.bind_eq_some_iff.mp h
    refine mx_cVv (mx_d tX2_lookAt_0 12 rfl) iX2_54 rfl vX4_copyLinksFrom ⟨_, rfl, rfl⟩ (ly4_o (ly2_s0 h0)) (CX4_copyLinksFrom (ly2_s0 h0) h1 h_r3) (by decide) rfl rfl (Nat.le_of_ble_eq_true rfl) ?_
    refine mx_aload_n (mx_d tX2_lookAt_0 13 rfl) rfl rfl ?_
    refine mx_iconst (1) (mx_d tX2_lookAt_0 14 rfl) (by decide) ?_
    obtain ⟨m4, e_m4, h⟩ := mx_letE h
    refine mx_putZ (mx_d tX2_lookAt_0 15 rfl) fX2_46 rfl ⟨_, rfl, rfl⟩ rfl (by decide) (ly2_o h0) (mx_eqz (z' := (e, m4)) (by rw [e_m4]) ?_)
    refine mx_aload_n (mx_d tX2_lookAt_0 16 rfl) rfl rfl ?_
    refine mx_iconst (0) (mx_d tX2_lookAt_0 17 rfl) (by decide) ?_
    obtain ⟨m5, e_m5, h⟩ := mx_letE h
    refine mx_putZ (mx_d tX2_lookAt_0 18 rfl) fX2_58 rfl ⟨_, rfl, rfl⟩ rfl (by decide) (ly2_o h0) (mx_eqz (z' := (e, m5)) (by rw [e_m5]) ?_)
    refine mx_aload_n (mx_d tX2_lookAt_0 19 rfl) rfl rfl ?_
    refine mx_iconst (0) (mx_d tX2_lookAt_0 20 rfl) (by decide) ?_
    obtain ⟨m6, e_m6, h⟩ := mx_letE h
    refine mx_putI (mx_d tX2_lookAt_0 21 rfl) fX2_61 rfl ⟨_, rfl, rfl⟩ rfl (ly2_o h0) (mx_eqz (z' := (e, m6)) (by rw [e_m6]) ?_)
    refine mx_iconst (0) (mx_d tX2_lookAt_0 22 rfl) (by decide) ?_
    refine mx_istore_n (L2 := [.ref a, .ref p0, .int 0]) (mx_d tX2_lookAt_0 23 rfl) rfl (by decide) (by rfl) ?_
    obtain ⟨q11, h_q11, h⟩ := Option.bind_eq_some_iff.mp h
    refine mx_forget (L' := [.ref a, .float 0, .int 0]) ⟨rfl, rfl, trivial⟩ ?_
    refine CX2_lookAt_L44 h0 mx_FU h_q11 ?_
    refine mx_aload_n (mx_d tX2_lookAt_0 34 rfl) rfl rfl ?_
    refine mx_iconst (1) (mx_d tX2_lookAt_0 35 rfl) (by decide) ?_
    refine mx_aload_n (mx_d tX2_lookAt_0 36 rfl) rfl rfl ?_
    refine mx_getR (mx_d tX2_lookAt_0 37 rfl) fX2_12 rfl rfl (ly2_o h0) (ly2_r0 h0) ?_
    obtain ⟨r12, h_r12, h⟩ := Option.bind_eq_some_iff.mp h
    refine mx_cVi (mx_d tX2_lookAt_0 38 rfl) iX2_65 rfl vX4_points ⟨_, rfl, rfl⟩ (ly4_o (ly2_s0 h0)) (CX4_points (ly2_s0 h0) h_r12) (by decide) rfl rfl (Nat.le_of_ble_eq_true rfl) ?_
    refine mx_ishl (mx_d tX2_lookAt_0 39 rfl) ?_
    refine mx_iconst (1) (mx_d tX2_lookAt_0 40 rfl) (by decide) ?_
    refine mx_isub (mx_d tX2_lookAt_0 41 rfl) ?_
    obtain ⟨m13, e_m13, h⟩ := mx_letE h
    refine mx_putI (mx_d tX2_lookAt_0 42 rfl) fX2_69 rfl ⟨_, rfl, rfl⟩ rfl (ly2_o h0) (mx_eqz (z' := (e, m13)) (by rw [e_m13]) ?_)
    refine mx_aload_n (mx_d tX2_lookAt_0 43 rfl) rfl rfl ?_
    refine mx_aload_n (mx_d tX2_lookAt_0 44 rfl) rfl rfl ?_
    refine mx_getI (mx_d tX2_lookAt_0 45 rfl) fX2_69 rfl (Or.inl rfl) (ly2_o h0) ?_
    refine mx_iconst (0) (mx_d tX2_lookAt_0 46 rfl) (by decide) ?_
    obtain ⟨r14, h_r14, h⟩ := Option.bind_eq_some_iff.mp h
    refine mx_cVi (mx_d tX2_lookAt_0 47 rfl) iX2_72 rfl vX2_slotFor ⟨_, rfl, rfl⟩ (ly2_o h0) (CX2_slotFor 64 h0 h_r14) (by decide) rfl rfl (Nat.le_of_ble_eq_true rfl) ?_
    refine mx_pop (mx_d tX2_lookAt_0 48 rfl) rfl ?_
    obtain rfl := Option.some.inj h
    exact mx_return (mx_d tX2_lookAt_0 49 rfl) rfl ⟨rfl, rfl⟩
  refine mx_if_eq (tgt := 19) (mx_d tX2_lookAt_0 2 rfl) (by decide) (fun hc1 => ?_) (fun hc1 => ?_)
  · rw [if_pos hc1] at h
    exact j_k2 h
  · rw [if_neg hc1] at h
    refine mx_aload_n (mx_d tX2_lookAt_0 3 rfl) rfl rfl ?_
    refine mx_getR (mx_d tX2_lookAt_0 4 rfl) fX2_12 rfl rfl (ly2_o h0) (ly2_r0 h0) ?_
    refine mx_aload_n (mx_d tX2_lookAt_0 5 rfl) rfl rfl ?_
    obtain ⟨r15, h_r15, h⟩ := Option.bind_eq_some_iff.mp h
    refine mx_cVi (mx_d tX2_lookAt_0 6 rfl) iX2_50 rfl vX4_hasLinksOf ⟨_, rfl, rfl⟩ (ly4_o (ly2_s0 h0)) (CX4_hasLinksOf (ly2_s0 h0) h1 h_r15) (by decide) rfl rfl (Nat.le_of_ble_eq_true rfl) ?_
    refine mx_if_eq (tgt := 19) (mx_d tX2_lookAt_0 7 rfl) (by decide) (fun hc16 => ?_) (fun hc16 => ?_)
    · rw [if_pos hc16] at h
      exact j_k2 h
    · rw [if_neg hc16] at h
      obtain rfl := Option.some.inj h
      exact mx_return (mx_d tX2_lookAt_0 8 rfl) rfl ⟨rfl, rfl⟩
def FX2_topFor (a : Nat) (x0 : Int32) (m : mB) : Option Int32 := Option.bind (FX2_slotKnown a x0 m) (fun r1 => mx_chk (mx_inb r1 144) ((some (m.1 (a + 13) (Int32.toNatClampNeg r1)))))
set_option maxRecDepth 20000 in
theorem CX2_topFor {G : mG} {l : Launch} {e : mE} {a : Nat} {x0 : Int32} {m : mB} {r : Int32} (h0 : ly2 e a) (h : FX2_topFor a x0 m = some r) : mx_Call G l MX2_topFor 2 0 0 [.ref a, .int x0] (e, m) (fun v z => v = some (.int r) ∧ z = (e, m)) := by
  refine mx_entry (L := [.ref a, .int x0]) (by decide +kernel) (Nat.le_of_ble_eq_true rfl) rfl ?_
  unfold FX2_topFor at h
  refine mx_aload_n (mx_d tX2_topFor_0 0 rfl) rfl rfl ?_
  refine mx_getR (mx_d tX2_topFor_0 1 rfl) fX2_22 rfl rfl (ly2_o h0) (ly2_r6 h0) ?_
  refine mx_aload_n (mx_d tX2_topFor_0 2 rfl) rfl rfl ?_
  refine mx_iload_n (mx_d tX2_topFor_0 3 rfl) rfl rfl ?_
  obtain ⟨r1, h_r1, h⟩ := Option.bind_eq_some_iff.mp h
  refine mx_cVi (mx_d tX2_topFor_0 4 rfl) iX2_80 rfl vX2_slotKnown ⟨_, rfl, rfl⟩ (ly2_o h0) (CX2_slotKnown h0 h_r1) (by decide) rfl rfl (Nat.le_of_ble_eq_true rfl) ?_
  obtain ⟨hi2, h⟩ := mx_chkE h
  refine mx_iaload (mx_d tX2_topFor_0 5 rfl) (ly2_s6 h0) (mx_inbE hi2) ?_
  obtain rfl := Option.some.inj h
  exact mx_ireturn (mx_d tX2_topFor_0 6 rfl) rfl ⟨rfl, rfl⟩
def FX2_top (a : Nat) (m : mB) : Option Int32 := Option.bind (FX2_topFor a (m.1 a 3) m) (fun r1 => (some r1))
set_option maxRecDepth 20000 in
theorem CX2_top {G : mG} {l : Launch} {e : mE} {a : Nat} {m : mB} {r : Int32} (h0 : ly2 e a) (h : FX2_top a m = some r) : mx_Call G l MX2_top 3 0 0 [.ref a] (e, m) (fun v z => v = some (.int r) ∧ z = (e, m)) := by
  refine mx_entry (L := [.ref a]) (by decide +kernel) (Nat.le_of_ble_eq_true rfl) rfl ?_
  unfold FX2_top at h
  refine mx_aload_n (mx_d tX2_top_0 0 rfl) rfl rfl ?_
  refine mx_aload_n (mx_d tX2_top_0 1 rfl) rfl rfl ?_
  refine mx_getI (mx_d tX2_top_0 2 rfl) fX2_69 rfl (Or.inl rfl) (ly2_o h0) ?_
  obtain ⟨r1, h_r1, h⟩ := Option.bind_eq_some_iff.mp h
  refine mx_cVi (mx_d tX2_top_0 3 rfl) iX2_76 rfl vX2_topFor ⟨_, rfl, rfl⟩ (ly2_o h0) (CX2_topFor h0 h_r1) (by decide) rfl rfl (Nat.le_of_ble_eq_true rfl) ?_
  obtain rfl := Option.some.inj h
  exact mx_ireturn (mx_d tX2_top_0 4 rfl) rfl ⟨rfl, rfl⟩
def FX2_second (a : Nat) (m : mB) : Option Int32 := Option.bind (FX2_slotKnown a (m.1 a 3) m) (fun r1 => mx_chk (mx_inb r1 144) ((some (m.1 (a + 14) (Int32.toNatClampNeg r1)))))
set_option maxRecDepth 20000 in
theorem CX2_second {G : mG} {l : Launch} {e : mE} {a : Nat} {m : mB} {r : Int32} (h0 : ly2 e a) (h : FX2_second a m = some r) : mx_Call G l MX2_second 2 0 0 [.ref a] (e, m) (fun v z => v = some (.int r) ∧ z = (e, m)) := by
  refine mx_entry (L := [.ref a]) (by decide +kernel) (Nat.le_of_ble_eq_true rfl) rfl ?_
  unfold FX2_second at h
  refine mx_aload_n (mx_d tX2_second_0 0 rfl) rfl rfl ?_
  refine mx_getR (mx_d tX2_second_0 1 rfl) fX2_25 rfl rfl (ly2_o h0) (ly2_r7 h0) ?_
  refine mx_aload_n (mx_d tX2_second_0 2 rfl) rfl rfl ?_
  refine mx_aload_n (mx_d tX2_second_0 3 rfl) rfl rfl ?_
  refine mx_getI (mx_d tX2_second_0 4 rfl) fX2_69 rfl (Or.inl rfl) (ly2_o h0) ?_
  obtain ⟨r1, h_r1, h⟩ := Option.bind_eq_some_iff.mp h
  refine mx_cVi (mx_d tX2_second_0 5 rfl) iX2_80 rfl vX2_slotKnown ⟨_, rfl, rfl⟩ (ly2_o h0) (CX2_slotKnown h0 h_r1) (by decide) rfl rfl (Nat.le_of_ble_eq_true rfl) ?_
  obtain ⟨hi2, h⟩ := mx_chkE h
  refine mx_iaload (mx_d tX2_second_0 6 rfl) (ly2_s7 h0) (mx_inbE hi2) ?_
  obtain rfl := Option.some.inj h
  exact mx_ireturn (mx_d tX2_second_0 7 rfl) rfl ⟨rfl, rfl⟩
def FX2_heaviestOf (a : Nat) (x0 : Int32) (m : mB) : Option Int32 := (if x0 < 0 then (some (-1)) else (if 6 ≤ x0 then (some (-1)) else Option.bind (FX2_slotKnown a (m.1 a 3) m) (fun r3 => mx_chk (mx_inb ((r3 * 6) + x0) 864) ((some (m.1 (a + 16) (Int32.toNatClampNeg ((r3 * 6) + x0))))))))
set_option maxRecDepth 20000 in
theorem CX2_heaviestOf {G : mG} {l : Launch} {e : mE} {a : Nat} {x0 : Int32} {m : mB} {r : Int32} (h0 : ly2 e a) (h : FX2_heaviestOf a x0 m = some r) : mx_Call G l MX2_heaviestOf 2 0 0 [.ref a, .int x0] (e, m) (fun v z => v = some (.int r) ∧ z = (e, m)) := by
  refine mx_entry (L := [.ref a, .int x0]) (by decide +kernel) (Nat.le_of_ble_eq_true rfl) rfl ?_
  unfold FX2_heaviestOf at h
  refine mx_iload_n (mx_d tX2_heaviestOf_0 0 rfl) rfl rfl ?_
  refine mx_if_lt (tgt := 31) (mx_d tX2_heaviestOf_0 1 rfl) (by decide) (fun hc1 => ?_) (fun hc1 => ?_)
  · rw [if_pos hc1] at h
    refine mx_iconst ((-1)) (mx_d tX2_heaviestOf_0 17 rfl) (by decide) ?_
    obtain rfl := Option.some.inj h
    exact mx_ireturn (mx_d tX2_heaviestOf_0 18 rfl) rfl ⟨rfl, rfl⟩
  · rw [if_neg hc1] at h
    refine mx_iload_n (mx_d tX2_heaviestOf_0 2 rfl) rfl rfl ?_
    refine mx_bipush (6) (mx_d tX2_heaviestOf_0 3 rfl) (by decide) ?_
    refine mx_icmp_ge (tgt := 31) (mx_d tX2_heaviestOf_0 4 rfl) (by decide) (fun hc2 => ?_) (fun hc2 => ?_)
    · rw [if_pos hc2] at h
      refine mx_iconst ((-1)) (mx_d tX2_heaviestOf_0 17 rfl) (by decide) ?_
      obtain rfl := Option.some.inj h
      exact mx_ireturn (mx_d tX2_heaviestOf_0 18 rfl) rfl ⟨rfl, rfl⟩
    · rw [if_neg hc2] at h
      refine mx_aload_n (mx_d tX2_heaviestOf_0 5 rfl) rfl rfl ?_
      refine mx_getR (mx_d tX2_heaviestOf_0 6 rfl) fX2_31 rfl rfl (ly2_o h0) (ly2_r9 h0) ?_
      refine mx_aload_n (mx_d tX2_heaviestOf_0 7 rfl) rfl rfl ?_
      refine mx_aload_n (mx_d tX2_heaviestOf_0 8 rfl) rfl rfl ?_
      refine mx_getI (mx_d tX2_heaviestOf_0 9 rfl) fX2_69 rfl (Or.inl rfl) (ly2_o h0) ?_
      obtain ⟨r3, h_r3, h⟩ := Option.bind_eq_some_iff.mp h
      refine mx_cVi (mx_d tX2_heaviestOf_0 10 rfl) iX2_80 rfl vX2_slotKnown ⟨_, rfl, rfl⟩ (ly2_o h0) (CX2_slotKnown h0 h_r3) (by decide) rfl rfl (Nat.le_of_ble_eq_true rfl) ?_
      refine mx_bipush (6) (mx_d tX2_heaviestOf_0 11 rfl) (by decide) ?_
      refine mx_imul (mx_d tX2_heaviestOf_0 12 rfl) ?_
      refine mx_iload_n (mx_d tX2_heaviestOf_0 13 rfl) rfl rfl ?_
      refine mx_iadd (mx_d tX2_heaviestOf_0 14 rfl) ?_
      obtain ⟨hi4, h⟩ := mx_chkE h
      refine mx_iaload (mx_d tX2_heaviestOf_0 15 rfl) (ly2_s9 h0) (mx_inbE hi4) ?_
      refine mx_goto (tgt := 32) (mx_d tX2_heaviestOf_0 16 rfl) (by decide) ?_
      obtain rfl := Option.some.inj h
      exact mx_ireturn (mx_d tX2_heaviestOf_0 18 rfl) rfl ⟨rfl, rfl⟩
def FX2_countOf (a : Nat) (x0 : Int32) (m : mB) : Option Int32 := (if x0 < 0 then (some 0) else (if 6 ≤ x0 then (some 0) else Option.bind (FX2_slotKnown a (m.1 a 3) m) (fun r3 => mx_chk (mx_inb ((r3 * 6) + x0) 864) ((some (m.1 (a + 15) (Int32.toNatClampNeg ((r3 * 6) + x0))))))))
set_option maxRecDepth 20000 in
theorem CX2_countOf {G : mG} {l : Launch} {e : mE} {a : Nat} {x0 : Int32} {m : mB} {r : Int32} (h0 : ly2 e a) (h : FX2_countOf a x0 m = some r) : mx_Call G l MX2_countOf 2 0 0 [.ref a, .int x0] (e, m) (fun v z => v = some (.int r) ∧ z = (e, m)) := by
  refine mx_entry (L := [.ref a, .int x0]) (by decide +kernel) (Nat.le_of_ble_eq_true rfl) rfl ?_
  unfold FX2_countOf at h
  refine mx_iload_n (mx_d tX2_countOf_0 0 rfl) rfl rfl ?_
  refine mx_if_lt (tgt := 31) (mx_d tX2_countOf_0 1 rfl) (by decide) (fun hc1 => ?_) (fun hc1 => ?_)
  · rw [if_pos hc1] at h
    refine mx_iconst (0) (mx_d tX2_countOf_0 17 rfl) (by decide) ?_
    obtain rfl := Option.some.inj h
    exact mx_ireturn (mx_d tX2_countOf_0 18 rfl) rfl ⟨rfl, rfl⟩
  · rw [if_neg hc1] at h
    refine mx_iload_n (mx_d tX2_countOf_0 2 rfl) rfl rfl ?_
    refine mx_bipush (6) (mx_d tX2_countOf_0 3 rfl) (by decide) ?_
    refine mx_icmp_ge (tgt := 31) (mx_d tX2_countOf_0 4 rfl) (by decide) (fun hc2 => ?_) (fun hc2 => ?_)
    · rw [if_pos hc2] at h
      refine mx_iconst (0) (mx_d tX2_countOf_0 17 rfl) (by decide) ?_
      obtain rfl := Option.some.inj h
      exact mx_ireturn (mx_d tX2_countOf_0 18 rfl) rfl ⟨rfl, rfl⟩
    · rw [if_neg hc2] at h
      refine mx_aload_n (mx_d tX2_countOf_0 5 rfl) rfl rfl ?_
      refine mx_getR (mx_d tX2_countOf_0 6 rfl) fX2_28 rfl rfl (ly2_o h0) (ly2_r8 h0) ?_
      refine mx_aload_n (mx_d tX2_countOf_0 7 rfl) rfl rfl ?_
      refine mx_aload_n (mx_d tX2_countOf_0 8 rfl) rfl rfl ?_
      refine mx_getI (mx_d tX2_countOf_0 9 rfl) fX2_69 rfl (Or.inl rfl) (ly2_o h0) ?_
      obtain ⟨r3, h_r3, h⟩ := Option.bind_eq_some_iff.mp h
      refine mx_cVi (mx_d tX2_countOf_0 10 rfl) iX2_80 rfl vX2_slotKnown ⟨_, rfl, rfl⟩ (ly2_o h0) (CX2_slotKnown h0 h_r3) (by decide) rfl rfl (Nat.le_of_ble_eq_true rfl) ?_
      refine mx_bipush (6) (mx_d tX2_countOf_0 11 rfl) (by decide) ?_
      refine mx_imul (mx_d tX2_countOf_0 12 rfl) ?_
      refine mx_iload_n (mx_d tX2_countOf_0 13 rfl) rfl rfl ?_
      refine mx_iadd (mx_d tX2_countOf_0 14 rfl) ?_
      obtain ⟨hi4, h⟩ := mx_chkE h
      refine mx_iaload (mx_d tX2_countOf_0 15 rfl) (ly2_s8 h0) (mx_inbE hi4) ?_
      refine mx_goto (tgt := 32) (mx_d tX2_countOf_0 16 rfl) (by decide) ?_
      obtain rfl := Option.some.inj h
      exact mx_ireturn (mx_d tX2_countOf_0 18 rfl) rfl ⟨rfl, rfl⟩
def FX2_keepsTop (a : Nat) (x0 : Int32) (x1 : Int32) (x2 : Int32) (m : mB) : Option Int32 := mx_let ((x2 &&& (((1 : Int32) <<< (x0 &&& 31)) ^^^ (-1))) &&& (((1 : Int32) <<< (x1 &&& 31)) ^^^ (-1))) (fun v1 => Option.bind (FX2_topFor a v1 m) (fun r2 => Option.bind (FX4_weightOf (a + 1) x0 x1 m) (fun r3 => Option.bind (FX2_topFor a x2 m) (fun r4 => (if (r2 + r3) = r4 then (some 1) else (some 0))))))
set_option maxRecDepth 20000 in
theorem CX2_keepsTop {G : mG} {l : Launch} {e : mE} {a : Nat} {x0 : Int32} {x1 : Int32} {x2 : Int32} {m : mB} {r : Int32} (h0 : ly2 e a) (h : FX2_keepsTop a x0 x1 x2 m = some r) : mx_Call G l MX2_keepsTop 4 0 0 [.ref a, .int x0, .int x1, .int x2] (e, m) (fun v z => v = some (.int r) ∧ z = (e, m)) := by
  refine mx_entry (L := [.ref a, .int x0, .int x1, .int x2, .float 0]) (by decide +kernel) (Nat.le_of_ble_eq_true rfl) rfl ?_
  unfold FX2_keepsTop at h
  refine mx_iload_n (mx_d tX2_keepsTop_0 0 rfl) rfl rfl ?_
  refine mx_iconst (1) (mx_d tX2_keepsTop_0 1 rfl) (by decide) ?_
  refine mx_iload_n (mx_d tX2_keepsTop_0 2 rfl) rfl rfl ?_
  refine mx_ishl (mx_d tX2_keepsTop_0 3 rfl) ?_
  refine mx_iconst ((-1)) (mx_d tX2_keepsTop_0 4 rfl) (by decide) ?_
  refine mx_ixor (mx_d tX2_keepsTop_0 5 rfl) ?_
  refine mx_iand (mx_d tX2_keepsTop_0 6 rfl) ?_
  refine mx_iconst (1) (mx_d tX2_keepsTop_0 7 rfl) (by decide) ?_
  refine mx_iload_n (mx_d tX2_keepsTop_0 8 rfl) rfl rfl ?_
  refine mx_ishl (mx_d tX2_keepsTop_0 9 rfl) ?_
  refine mx_iconst ((-1)) (mx_d tX2_keepsTop_0 10 rfl) (by decide) ?_
  refine mx_ixor (mx_d tX2_keepsTop_0 11 rfl) ?_
  refine mx_iand (mx_d tX2_keepsTop_0 12 rfl) ?_
  obtain ⟨v1, e_v1, h⟩ := mx_letE h
  refine mx_istore (L2 := [.ref a, .int x0, .int x1, .int x2, .int v1]) (mx_d tX2_keepsTop_0 13 rfl) (by decide) (by rw [e_v1]; rfl) ?_
  refine mx_aload_n (mx_d tX2_keepsTop_0 14 rfl) rfl rfl ?_
  refine mx_iload (mx_d tX2_keepsTop_0 15 rfl) rfl ?_
  obtain ⟨r2, h_r2, h⟩ := Option.bind_eq_some_iff.mp h
  refine mx_cVi (mx_d tX2_keepsTop_0 16 rfl) iX2_76 rfl vX2_topFor ⟨_, rfl, rfl⟩ (ly2_o h0) (CX2_topFor h0 h_r2) (by decide) rfl rfl (Nat.le_of_ble_eq_true rfl) ?_
  refine mx_aload_n (mx_d tX2_keepsTop_0 17 rfl) rfl rfl ?_
  refine mx_getR (mx_d tX2_keepsTop_0 18 rfl) fX2_12 rfl rfl (ly2_o h0) (ly2_r0 h0) ?_
  refine mx_iload_n (mx_d tX2_keepsTop_0 19 rfl) rfl rfl ?_
  refine mx_iload_n (mx_d tX2_keepsTop_0 20 rfl) rfl rfl ?_
  obtain ⟨r3, h_r3, h⟩ := Option.bind_eq_some_iff.mp h
  refine mx_cVi (mx_d tX2_keepsTop_0 21 rfl) iX2_97 rfl vX4_weightOf ⟨_, rfl, rfl⟩ (ly4_o (ly2_s0 h0)) (CX4_weightOf (ly2_s0 h0) h_r3) (by decide) rfl rfl (Nat.le_of_ble_eq_true rfl) ?_
  refine mx_iadd (mx_d tX2_keepsTop_0 22 rfl) ?_
  refine mx_aload_n (mx_d tX2_keepsTop_0 23 rfl) rfl rfl ?_
  refine mx_iload_n (mx_d tX2_keepsTop_0 24 rfl) rfl rfl ?_
  obtain ⟨r4, h_r4, h⟩ := Option.bind_eq_some_iff.mp h
  refine mx_cVi (mx_d tX2_keepsTop_0 25 rfl) iX2_76 rfl vX2_topFor ⟨_, rfl, rfl⟩ (ly2_o h0) (CX2_topFor h0 h_r4) (by decide) rfl rfl (Nat.le_of_ble_eq_true rfl) ?_
  refine mx_icmp_ne (tgt := 43) (mx_d tX2_keepsTop_0 26 rfl) (by decide) (fun hc5 => ?_) (fun hc5 => ?_)
  · rw [if_neg hc5] at h
    refine mx_iconst (0) (mx_d tX2_keepsTop_0 29 rfl) (by decide) ?_
    obtain rfl := Option.some.inj h
    exact mx_zreturn (mx_d tX2_keepsTop_0 30 rfl) rfl rfl ⟨rfl, rfl⟩
  · rw [if_pos hc5] at h
    refine mx_iconst (1) (mx_d tX2_keepsTop_0 27 rfl) (by decide) ?_
    refine mx_goto (tgt := 44) (mx_d tX2_keepsTop_0 28 rfl) (by decide) ?_
    obtain rfl := Option.some.inj h
    exact mx_zreturn (mx_d tX2_keepsTop_0 30 rfl) rfl rfl ⟨rfl, rfl⟩
def FX2_firstBestPartner_L16 (q0 : Nat) (y1 : Int32) (y2 : Int32) (y3 : Int32) (m : mB) : Nat → Int32 → Option (Int32 ⊕ (Unit))
  | 0, _ => none
  | f + 1, y4 => (if 10 ≤ y4 then (some (.inr ())) else (if ((y3 >>> (y4 &&& 31)) &&& 1) = 0 then mx_let (y4 + 1) (fun v6 => (FX2_firstBestPartner_L16 q0 y1 y2 y3 m f v6)) else Option.bind (FX2_keepsTop q0 y1 y4 y2 m) (fun r7 => (if r7 = 0 then mx_let (y4 + 1) (fun v9 => (FX2_firstBestPartner_L16 q0 y1 y2 y3 m f v9)) else (some (.inl y4))))))
set_option maxRecDepth 20000 in
theorem CX2_firstBestPartner_L16 {G : mG} {l : Launch} {e : mE} {Post : Option Value → mS → Prop} {q0 : Nat} {y1 : Int32} {y2 : Int32} {y3 : Int32} {m : mB} (g0 : ly2 e q0) : ∀ (f : Nat) {y4 : Int32} {q : (Int32 ⊕ (Unit))}, FX2_firstBestPartner_L16 q0 y1 y2 y3 m f y4 = some q → (∀ rr, q = .inl rr → Post (some (.int rr)) (e, m)) → (∀ u, q = .inr u → mx_Fr G l MX2_firstBestPartner 5 0 0 Post 52 [.float 0, .float 0, .float 0, .float 0, .float 0] [] (e, m)) → mx_Fr G l MX2_firstBestPartner 5 0 0 Post 16 [.ref q0, .int y1, .int y2, .int y3, .int y4] [] (e, m) := by
  intro f
  induction f with
  | zero => intro _ _ h; cases h
  | succ f ih =>
    intro y4 q h hret hex
    rw [FX2_firstBestPartner_L16] at h
    refine mx_iload (mx_d tX2_firstBestPartner_0 11 rfl) rfl ?_
    refine mx_bipush (10) (mx_d tX2_firstBestPartner_0 12 rfl) (by decide) ?_
    refine mx_icmp_ge (tgt := 52) (mx_d tX2_firstBestPartner_0 13 rfl) (by decide) (fun hc4 => ?_) (fun hc4 => ?_)
    · rw [if_pos hc4] at h
      obtain rfl := Option.some.inj h
      refine mx_forget (L' := [.float 0, .float 0, .float 0, .float 0, .float 0]) trivial ?_
      exact (hex _ rfl)
    · rw [if_neg hc4] at h
      refine mx_iload_n (mx_d tX2_firstBestPartner_0 14 rfl) rfl rfl ?_
      refine mx_iload (mx_d tX2_firstBestPartner_0 15 rfl) rfl ?_
      refine mx_ishr (mx_d tX2_firstBestPartner_0 16 rfl) ?_
      refine mx_iconst (1) (mx_d tX2_firstBestPartner_0 17 rfl) (by decide) ?_
      refine mx_iand (mx_d tX2_firstBestPartner_0 18 rfl) ?_
      refine mx_if_eq (tgt := 46) (mx_d tX2_firstBestPartner_0 19 rfl) (by decide) (fun hc5 => ?_) (fun hc5 => ?_)
      · rw [if_pos hc5] at h
        obtain ⟨v6, e_v6, h⟩ := mx_letE h
        refine mx_iinc v6 (L2 := [.ref q0, .int y1, .int y2, .int y3, .int v6]) (mx_d tX2_firstBestPartner_0 28 rfl) rfl (by rw [e_v6]; rfl) (by decide) rfl ?_
        refine mx_goto (tgt := 16) (mx_d tX2_firstBestPartner_0 29 rfl) (by decide) ?_
        exact ih h hret hex
      · rw [if_neg hc5] at h
        refine mx_aload_n (mx_d tX2_firstBestPartner_0 20 rfl) rfl rfl ?_
        refine mx_iload_n (mx_d tX2_firstBestPartner_0 21 rfl) rfl rfl ?_
        refine mx_iload (mx_d tX2_firstBestPartner_0 22 rfl) rfl ?_
        refine mx_iload_n (mx_d tX2_firstBestPartner_0 23 rfl) rfl rfl ?_
        obtain ⟨r7, h_r7, h⟩ := Option.bind_eq_some_iff.mp h
        refine mx_cVi (mx_d tX2_firstBestPartner_0 24 rfl) iX2_124 rfl vX2_keepsTop ⟨_, rfl, rfl⟩ (ly2_o g0) (CX2_keepsTop g0 h_r7) (by decide) rfl rfl (Nat.le_of_ble_eq_true rfl) ?_
        refine mx_if_eq (tgt := 46) (mx_d tX2_firstBestPartner_0 25 rfl) (by decide) (fun hc8 => ?_) (fun hc8 => ?_)
        · rw [if_pos hc8] at h
          obtain ⟨v9, e_v9, h⟩ := mx_letE h
          refine mx_iinc v9 (L2 := [.ref q0, .int y1, .int y2, .int y3, .int v9]) (mx_d tX2_firstBestPartner_0 28 rfl) rfl (by rw [e_v9]; rfl) (by decide) rfl ?_
          refine mx_goto (tgt := 16) (mx_d tX2_firstBestPartner_0 29 rfl) (by decide) ?_
          exact ih h hret hex
        · rw [if_neg hc8] at h
          refine mx_iload (mx_d tX2_firstBestPartner_0 26 rfl) rfl ?_
          obtain rfl := Option.some.inj h
          exact mx_ireturn (mx_d tX2_firstBestPartner_0 27 rfl) rfl (hret _ rfl)
def FX2_firstBestPartner (a : Nat) (x0 : Int32) (x1 : Int32) (m : mB) : Option Int32 := Option.bind (FX4_nearTo (a + 1) x0 m) (fun r1 => mx_let (r1 &&& x1) (fun v2 => mx_let (x0 + 1) (fun v3 => Option.bind (FX2_firstBestPartner_L16 a x0 x1 v2 m mx_FU v3) (fun q10 => Sum.elim (fun rr => some rr) (fun u11 => (some (-1))) q10))))
set_option maxRecDepth 20000 in
theorem CX2_firstBestPartner {G : mG} {l : Launch} {e : mE} {a : Nat} {x0 : Int32} {x1 : Int32} {m : mB} {r : Int32} (h0 : ly2 e a) (h : FX2_firstBestPartner a x0 x1 m = some r) : mx_Call G l MX2_firstBestPartner 5 0 0 [.ref a, .int x0, .int x1] (e, m) (fun v z => v = some (.int r) ∧ z = (e, m)) := by
  refine mx_entry (L := [.ref a, .int x0, .int x1, .float 0, .float 0]) (by decide +kernel) (Nat.le_of_ble_eq_true rfl) rfl ?_
  unfold FX2_firstBestPartner at h
  refine mx_aload_n (mx_d tX2_firstBestPartner_0 0 rfl) rfl rfl ?_
  refine mx_getR (mx_d tX2_firstBestPartner_0 1 rfl) fX2_12 rfl rfl (ly2_o h0) (ly2_r0 h0) ?_
  refine mx_iload_n (mx_d tX2_firstBestPartner_0 2 rfl) rfl rfl ?_
  obtain ⟨r1, h_r1, h⟩ := Option.bind_eq_some_iff.mp h
  refine mx_cVi (mx_d tX2_firstBestPartner_0 3 rfl) iX2_94 rfl vX4_nearTo ⟨_, rfl, rfl⟩ (ly4_o (ly2_s0 h0)) (CX4_nearTo (ly2_s0 h0) h_r1) (by decide) rfl rfl (Nat.le_of_ble_eq_true rfl) ?_
  refine mx_iload_n (mx_d tX2_firstBestPartner_0 4 rfl) rfl rfl ?_
  refine mx_iand (mx_d tX2_firstBestPartner_0 5 rfl) ?_
  obtain ⟨v2, e_v2, h⟩ := mx_letE h
  refine mx_istore_n (L2 := [.ref a, .int x0, .int x1, .int v2, .float 0]) (mx_d tX2_firstBestPartner_0 6 rfl) rfl (by decide) (by rw [e_v2]; rfl) ?_
  refine mx_iload_n (mx_d tX2_firstBestPartner_0 7 rfl) rfl rfl ?_
  refine mx_iconst (1) (mx_d tX2_firstBestPartner_0 8 rfl) (by decide) ?_
  refine mx_iadd (mx_d tX2_firstBestPartner_0 9 rfl) ?_
  obtain ⟨v3, e_v3, h⟩ := mx_letE h
  refine mx_istore (L2 := [.ref a, .int x0, .int x1, .int v2, .int v3]) (mx_d tX2_firstBestPartner_0 10 rfl) (by decide) (by rw [e_v3]; rfl) ?_
  obtain ⟨q10, h_q10, h⟩ := Option.bind_eq_some_iff.mp h
  refine CX2_firstBestPartner_L16 h0 mx_FU h_q10 (fun rr12 e_rr12 => ?_) (fun u11 e_u11 => ?_)
  · subst e_rr12
    rw [Sum.elim_inl] at h
    obtain rfl := Option.some.inj h
    exact ⟨rfl, rfl⟩
  · subst e_u11
    rw [Sum.elim_inr] at h
    refine mx_iconst ((-1)) (mx_d tX2_firstBestPartner_0 30 rfl) (by decide) ?_
    obtain rfl := Option.some.inj h
    exact mx_ireturn (mx_d tX2_firstBestPartner_0 31 rfl) rfl ⟨rfl, rfl⟩
def FX2_choose (a : Nat) (x0 : Int32) (x1 : Int32) (m : mB) : Option mB := (if x0 < 0 then (some m) else (if 10 ≤ x0 then (some m) else (if x1 < 0 then (some m) else (if 10 ≤ x1 then (some m) else mx_chk (mx_inb x0 10) (mx_let (mx_up m.1 (a + 18) (Int32.toNatClampNeg x0) x1, m.2) (fun m5 => mx_chk (mx_inb x1 10) (mx_let (mx_up m5.1 (a + 18) (Int32.toNatClampNeg x1) x0, m5.2) (fun m7 => (some m7)))))))))
set_option maxRecDepth 20000 in
theorem CX2_choose {G : mG} {l : Launch} {e : mE} {a : Nat} {x0 : Int32} {x1 : Int32} {m : mB} {r : mB} (h0 : ly2 e a) (h : FX2_choose a x0 x1 m = some r) : mx_Call G l MX2_choose 1 0 0 [.ref a, .int x0, .int x1] (e, m) (fun v z => v = none ∧ z = (e, r)) := by
  refine mx_entry (L := [.ref a, .int x0, .int x1]) (by decide +kernel) (Nat.le_of_ble_eq_true rfl) rfl ?_
  unfold FX2_choose at h
  refine mx_iload_n (mx_d tX2_choose_0 0 rfl) rfl rfl ?_
  refine mx_if_lt (tgt := 34) (mx_d tX2_choose_0 1 rfl) (by decide) (fun hc1 => ?_) (fun hc1 => ?_)
  · rw [if_pos hc1] at h
    obtain rfl := Option.some.inj h
    exact mx_return (mx_d tX2_choose_0 20 rfl) rfl ⟨rfl, rfl⟩
  · rw [if_neg hc1] at h
    refine mx_iload_n (mx_d tX2_choose_0 2 rfl) rfl rfl ?_
    refine mx_bipush (10) (mx_d tX2_choose_0 3 rfl) (by decide) ?_
    refine mx_icmp_ge (tgt := 34) (mx_d tX2_choose_0 4 rfl) (by decide) (fun hc2 => ?_) (fun hc2 => ?_)
    · rw [if_pos hc2] at h
      obtain rfl := Option.some.inj h
      exact mx_return (mx_d tX2_choose_0 20 rfl) rfl ⟨rfl, rfl⟩
    · rw [if_neg hc2] at h
      refine mx_iload_n (mx_d tX2_choose_0 5 rfl) rfl rfl ?_
      refine mx_if_lt (tgt := 34) (mx_d tX2_choose_0 6 rfl) (by decide) (fun hc3 => ?_) (fun hc3 => ?_)
      · rw [if_pos hc3] at h
        obtain rfl := Option.some.inj h
        exact mx_return (mx_d tX2_choose_0 20 rfl) rfl ⟨rfl, rfl⟩
      · rw [if_neg hc3] at h
        refine mx_iload_n (mx_d tX2_choose_0 7 rfl) rfl rfl ?_
        refine mx_bipush (10) (mx_d tX2_choose_0 8 rfl) (by decide) ?_
        refine mx_icmp_ge (tgt := 34) (mx_d tX2_choose_0 9 rfl) (by decide) (fun hc4 => ?_) (fun hc4 => ?_)
        · rw [if_pos hc4] at h
          obtain rfl := Option.some.inj h
          exact mx_return (mx_d tX2_choose_0 20 rfl) rfl ⟨rfl, rfl⟩
        · rw [if_neg hc4] at h
          refine mx_aload_n (mx_d tX2_choose_0 10 rfl) rfl rfl ?_
          refine mx_getR (mx_d tX2_choose_0 11 rfl) fX2_37 rfl rfl (ly2_o h0) (ly2_r12 h0) ?_
          refine mx_iload_n (mx_d tX2_choose_0 12 rfl) rfl rfl ?_
          refine mx_iload_n (mx_d tX2_choose_0 13 rfl) rfl rfl ?_
          obtain ⟨hi6, h⟩ := mx_chkE h
          obtain ⟨m5, e_m5, h⟩ := mx_letE h
          refine mx_iastore (mx_d tX2_choose_0 14 rfl) (ly2_s12 h0) (mx_inbE hi6) (mx_eqz (z' := (e, m5)) (by rw [e_m5]) ?_)
          refine mx_aload_n (mx_d tX2_choose_0 15 rfl) rfl rfl ?_
          refine mx_getR (mx_d tX2_choose_0 16 rfl) fX2_37 rfl rfl (ly2_o h0) (ly2_r12 h0) ?_
          refine mx_iload_n (mx_d tX2_choose_0 17 rfl) rfl rfl ?_
          refine mx_iload_n (mx_d tX2_choose_0 18 rfl) rfl rfl ?_
          obtain ⟨hi8, h⟩ := mx_chkE h
          obtain ⟨m7, e_m7, h⟩ := mx_letE h
          refine mx_iastore (mx_d tX2_choose_0 19 rfl) (ly2_s12 h0) (mx_inbE hi8) (mx_eqz (z' := (e, m7)) (by rw [e_m7]) ?_)
          obtain rfl := Option.some.inj h
          exact mx_return (mx_d tX2_choose_0 20 rfl) rfl ⟨rfl, rfl⟩
def FX2_bestInto_L7 (q0 : Nat) (q1 : Nat) : Nat → Int32 → Int32 → mB → Option (mB)
  | 0, _, _, _ => none
  | f + 1, y2, y3, m => (if 10 ≤ y3 then (some (m)) else (if ((y2 >>> (y3 &&& 31)) &&& 1) = 0 then mx_let (y3 + 1) (fun v15 => (FX2_bestInto_L7 q0 q1 f y2 v15 m)) else mx_chk (mx_inb y3 10) (mx_let (mx_up m.1 (q0 + 18) (Int32.toNatClampNeg y3) (-1), m.2) (fun m4 => Option.bind (FX2_firstBestPartner q0 y3 y2 m4) (fun r6 => mx_let (fun (y8 : Int32) (m9 : mB) => mx_let (y8 &&& (((1 : Int32) <<< (y3 &&& 31)) ^^^ (-1))) (fun v11 => mx_let (y3 + 1) (fun v12 => (FX2_bestInto_L7 q0 q1 f v11 v12 m9)))) (fun k10 => (if r6 = (-1) then (k10 y2 m4) else Option.bind (FX2_choose q0 y3 r6 m4) (fun r13 => mx_let (y2 &&& (((1 : Int32) <<< (r6 &&& 31)) ^^^ (-1))) (fun v14 => (k10 v14 r13))))))))))
set_option maxRecDepth 20000 in
theorem CX2_bestInto_L7 {G : mG} {l : Launch} {e : mE} {Post : Option Value → mS → Prop} {q0 : Nat} {q1 : Nat} (g0 : ly2 e q0) (g1 : ly7 e q1) : ∀ (f : Nat) {y2 : Int32} {y3 : Int32} {m : mB} {q : (mB)}, FX2_bestInto_L7 q0 q1 f y2 y3 m = some q → (mx_Fr G l MX2_bestInto 6 0 0 Post 75 [.ref q0, .ref q1, .float 0, .float 0, .float 0] [] (e, q)) → mx_Fr G l MX2_bestInto 6 0 0 Post 7 [.ref q0, .ref q1, .int y2, .int y3, .float 0] [] (e, m) := by
  intro f
  induction f with
  | zero => intro _ _ _ _ h; cases h
  | succ f ih =>
    intro y2 y3 m q h hex
    rw [FX2_bestInto_L7] at h
    refine mx_iload_n (mx_d tX2_bestInto_0 5 rfl) rfl rfl ?_
    refine mx_bipush (10) (mx_d tX2_bestInto_0 6 rfl) (by decide) ?_
    refine mx_icmp_ge (tgt := 75) (mx_d tX2_bestInto_0 7 rfl) (by decide) (fun hc2 => ?_) (fun hc2 => ?_)
    · rw [if_pos hc2] at h
      obtain rfl := Option.some.inj h
      refine mx_forget (L' := [.ref q0, .ref q1, .float 0, .float 0, .float 0]) ⟨rfl, rfl, trivial⟩ ?_
      exact hex
    · rw [if_neg hc2] at h
      refine mx_iload_n (mx_d tX2_bestInto_0 8 rfl) rfl rfl ?_
      refine mx_iload_n (mx_d tX2_bestInto_0 9 rfl) rfl rfl ?_
      refine mx_ishr (mx_d tX2_bestInto_0 10 rfl) ?_
      refine mx_iconst (1) (mx_d tX2_bestInto_0 11 rfl) (by decide) ?_
      refine mx_iand (mx_d tX2_bestInto_0 12 rfl) ?_
      refine mx_if_ne (tgt := 24) (mx_d tX2_bestInto_0 13 rfl) (by decide) (fun hc3 => ?_) (fun hc3 => ?_)
      · rw [if_neg hc3] at h
        refine mx_aload_n (mx_d tX2_bestInto_0 15 rfl) rfl rfl ?_
        refine mx_getR (mx_d tX2_bestInto_0 16 rfl) fX2_37 rfl rfl (ly2_o g0) (ly2_r12 g0) ?_
        refine mx_iload_n (mx_d tX2_bestInto_0 17 rfl) rfl rfl ?_
        refine mx_iconst ((-1)) (mx_d tX2_bestInto_0 18 rfl) (by decide) ?_
        obtain ⟨hi5, h⟩ := mx_chkE h
        obtain ⟨m4, e_m4, h⟩ := mx_letE h
        refine mx_iastore (mx_d tX2_bestInto_0 19 rfl) (ly2_s12 g0) (mx_inbE hi5) (mx_eqz (z' := (e, m4)) (by rw [e_m4]) ?_)
        refine mx_aload_n (mx_d tX2_bestInto_0 20 rfl) rfl rfl ?_
        refine mx_iload_n (mx_d tX2_bestInto_0 21 rfl) rfl rfl ?_
        refine mx_iload_n (mx_d tX2_bestInto_0 22 rfl) rfl rfl ?_
        obtain ⟨r6, h_r6, h⟩ := Option.bind_eq_some_iff.mp h
        refine mx_cVi (mx_d tX2_bestInto_0 23 rfl) iX2_109 rfl vX2_firstBestPartner ⟨_, rfl, rfl⟩ (ly2_o g0) (CX2_firstBestPartner g0 h_r6) (by decide) rfl rfl (Nat.le_of_ble_eq_true rfl) ?_
        refine mx_istore (L2 := [.ref q0, .ref q1, .int y2, .int y3, .int r6]) (mx_d tX2_bestInto_0 24 rfl) (by decide) (by rfl) ?_
        refine mx_iload (mx_d tX2_bestInto_0 25 rfl) rfl ?_
        refine mx_iconst ((-1)) (mx_d tX2_bestInto_0 26 rfl) (by decide) ?_
        refine mx_letK (J := fun k10 => ∀ {y8 : Int32} {m9 : mB}, k10 y8 m9 = some q → mx_Fr G l MX2_bestInto 6 0 0 Post 61 [.ref q0, .ref q1, .int y8, .int y3, .float 0] [] (e, m9)) h ?_ (fun k10 j_k10 h => ?_)
        · intro y8 m9 h
          dsimp only at h
          refine mx_iload_n (mx_d tX2_bestInto_0 40 rfl) rfl rfl ?_
          refine mx_iconst (1) (mx_d tX2_bestInto_0 41 rfl) (by decide) ?_
          refine mx_iload_n (mx_d tX2_bestInto_0 42 rfl) rfl rfl ?_
          refine mx_ishl (mx_d tX2_bestInto_0 43 rfl) ?_
          refine mx_iconst ((-1)) (mx_d tX2_bestInto_0 44 rfl) (by decide) ?_
          refine mx_ixor (mx_d tX2_bestInto_0 45 rfl) ?_
          refine mx_iand (mx_d tX2_bestInto_0 46 rfl) ?_
          obtain ⟨v11, e_v11, h⟩ := mx_letE h
          refine mx_istore_n (L2 := [.ref q0, .ref q1, .int v11, .int y3, .float 0]) (mx_d tX2_bestInto_0 47 rfl) rfl (by decide) (by rw [e_v11]; rfl) ?_
          obtain ⟨v12, e_v12, h⟩ := mx_letE h
          refine mx_iinc v12 (L2 := [.ref q0, .ref q1, .int v11, .int v12, .float 0]) (mx_d tX2_bestInto_0 48 rfl) rfl (by rw [e_v12]; rfl) (by decide) rfl ?_
          refine mx_goto (tgt := 7) (mx_d tX2_bestInto_0 49 rfl) (by decide) ?_
          exact ih h hex
        refine mx_icmp_eq (tgt := 61) (mx_d tX2_bestInto_0 27 rfl) (by decide) (fun hc7 => ?_) (fun hc7 => ?_)
        · rw [if_pos hc7] at h
          refine mx_forget (L' := [.ref q0, .ref q1, .int y2, .int y3, .float 0]) ⟨rfl, rfl, rfl, rfl, trivial⟩ ?_
          exact j_k10 h
        · rw [if_neg hc7] at h
          refine mx_aload_n (mx_d tX2_bestInto_0 28 rfl) rfl rfl ?_
          refine mx_iload_n (mx_d tX2_bestInto_0 29 rfl) rfl rfl ?_
          refine mx_iload (mx_d tX2_bestInto_0 30 rfl) rfl ?_
          obtain ⟨r13, h_r13, h⟩ := Option.bind_eq_some_iff.mp h
          refine mx_cVv (mx_d tX2_bestInto_0 31 rfl) iX2_112 rfl vX2_choose ⟨_, rfl, rfl⟩ (ly2_o g0) (CX2_choose g0 h_r13) (by decide) rfl rfl (Nat.le_of_ble_eq_true rfl) ?_
          refine mx_iload_n (mx_d tX2_bestInto_0 32 rfl) rfl rfl ?_
          refine mx_iconst (1) (mx_d tX2_bestInto_0 33 rfl) (by decide) ?_
          refine mx_iload (mx_d tX2_bestInto_0 34 rfl) rfl ?_
          refine mx_ishl (mx_d tX2_bestInto_0 35 rfl) ?_
          refine mx_iconst ((-1)) (mx_d tX2_bestInto_0 36 rfl) (by decide) ?_
          refine mx_ixor (mx_d tX2_bestInto_0 37 rfl) ?_
          refine mx_iand (mx_d tX2_bestInto_0 38 rfl) ?_
          obtain ⟨v14, e_v14, h⟩ := mx_letE h
          refine mx_istore_n (L2 := [.ref q0, .ref q1, .int v14, .int y3, .int r6]) (mx_d tX2_bestInto_0 39 rfl) rfl (by decide) (by rw [e_v14]; rfl) ?_
          refine mx_forget (L' := [.ref q0, .ref q1, .int v14, .int y3, .float 0]) ⟨rfl, rfl, rfl, rfl, trivial⟩ ?_
          exact j_k10 h
      · rw [if_pos hc3] at h
        refine mx_goto (tgt := 69) (mx_d tX2_bestInto_0 14 rfl) (by decide) ?_
        obtain ⟨v15, e_v15, h⟩ := mx_letE h
        refine mx_iinc v15 (L2 := [.ref q0, .ref q1, .int y2, .int v15, .float 0]) (mx_d tX2_bestInto_0 48 rfl) rfl (by rw [e_v15]; rfl) (by decide) rfl ?_
        refine mx_goto (tgt := 7) (mx_d tX2_bestInto_0 49 rfl) (by decide) ?_
        exact ih h hex
def FX2_bestInto_L81 (q0 : Nat) (q1 : Nat) : Nat → Int32 → mB → Option (mB)
  | 0, _, _ => none
  | f + 1, y3, m => Option.bind (FX4_points (q0 + 1) m) (fun r18 => (if r18 ≤ y3 then (some (m)) else (if 10 ≤ y3 then (some (m)) else mx_chk (mx_inb y3 10) (Option.bind (FX7_add q1 (m.1 (q0 + 18) (Int32.toNatClampNeg y3)) m) (fun r22 => mx_let (y3 + 1) (fun v23 => (FX2_bestInto_L81 q0 q1 f v23 r22)))))))
set_option maxRecDepth 20000 in
theorem CX2_bestInto_L81 {G : mG} {l : Launch} {e : mE} {Post : Option Value → mS → Prop} {q0 : Nat} {q1 : Nat} (g0 : ly2 e q0) (g1 : ly7 e q1) : ∀ (f : Nat) {y3 : Int32} {m : mB} {q : (mB)}, FX2_bestInto_L81 q0 q1 f y3 m = some q → (mx_Fr G l MX2_bestInto 6 0 0 Post 114 [.float 0, .float 0, .float 0, .float 0, .float 0] [] (e, q)) → mx_Fr G l MX2_bestInto 6 0 0 Post 81 [.ref q0, .ref q1, .float 0, .int y3, .float 0] [] (e, m) := by
  intro f
  induction f with
  | zero => intro _ _ _ h; cases h
  | succ f ih =>
    intro y3 m q h hex
    rw [FX2_bestInto_L81] at h
    refine mx_iload_n (mx_d tX2_bestInto_0 54 rfl) rfl rfl ?_
    refine mx_aload_n (mx_d tX2_bestInto_0 55 rfl) rfl rfl ?_
    refine mx_getR (mx_d tX2_bestInto_0 56 rfl) fX2_12 rfl rfl (ly2_o g0) (ly2_r0 g0) ?_
    obtain ⟨r18, h_r18, h⟩ := Option.bind_eq_some_iff.mp h
    refine mx_cVi (mx_d tX2_bestInto_0 57 rfl) iX2_65 rfl vX4_points ⟨_, rfl, rfl⟩ (ly4_o (ly2_s0 g0)) (CX4_points (ly2_s0 g0) h_r18) (by decide) rfl rfl (Nat.le_of_ble_eq_true rfl) ?_
    refine mx_icmp_ge (tgt := 114) (mx_d tX2_bestInto_0 58 rfl) (by decide) (fun hc19 => ?_) (fun hc19 => ?_)
    · rw [if_pos hc19] at h
      obtain rfl := Option.some.inj h
      refine mx_forget (L' := [.float 0, .float 0, .float 0, .float 0, .float 0]) trivial ?_
      exact hex
    · rw [if_neg hc19] at h
      refine mx_iload_n (mx_d tX2_bestInto_0 59 rfl) rfl rfl ?_
      refine mx_bipush (10) (mx_d tX2_bestInto_1 0 rfl) (by decide) ?_
      refine mx_icmp_ge (tgt := 114) (mx_d tX2_bestInto_1 1 rfl) (by decide) (fun hc20 => ?_) (fun hc20 => ?_)
      · rw [if_pos hc20] at h
        obtain rfl := Option.some.inj h
        refine mx_forget (L' := [.float 0, .float 0, .float 0, .float 0, .float 0]) trivial ?_
        exact hex
      · rw [if_neg hc20] at h
        refine mx_aload_n (mx_d tX2_bestInto_1 2 rfl) rfl rfl ?_
        refine mx_aload_n (mx_d tX2_bestInto_1 3 rfl) rfl rfl ?_
        refine mx_getR (mx_d tX2_bestInto_1 4 rfl) fX2_37 rfl rfl (ly2_o g0) (ly2_r12 g0) ?_
        refine mx_iload_n (mx_d tX2_bestInto_1 5 rfl) rfl rfl ?_
        obtain ⟨hi21, h⟩ := mx_chkE h
        refine mx_iaload (mx_d tX2_bestInto_1 6 rfl) (ly2_s12 g0) (mx_inbE hi21) ?_
        obtain ⟨r22, h_r22, h⟩ := Option.bind_eq_some_iff.mp h
        refine mx_cVv (mx_d tX2_bestInto_1 7 rfl) iX2_120 rfl vX7_add ⟨_, rfl, rfl⟩ (ly7_o g1) (CX7_add g1 h_r22) (by decide) rfl rfl (Nat.le_of_ble_eq_true rfl) ?_
        obtain ⟨v23, e_v23, h⟩ := mx_letE h
        refine mx_iinc v23 (L2 := [.ref q0, .ref q1, .float 0, .int v23, .float 0]) (mx_d tX2_bestInto_1 8 rfl) rfl (by rw [e_v23]; rfl) (by decide) rfl ?_
        refine mx_goto (tgt := 81) (mx_d tX2_bestInto_1 9 rfl) (by decide) ?_
        exact ih h hex
def FX2_bestInto (a : Nat) (p0 : Nat) (m : mB) : Option mB := mx_let (m.1 a 3) (fun v1 => Option.bind (FX2_bestInto_L7 a p0 mx_FU v1 0 m) (fun q16 => Option.bind (FX7_clear p0 q16) (fun r17 => Option.bind (FX2_bestInto_L81 a p0 mx_FU 0 r17) (fun q24 => (some q24)))))
set_option maxRecDepth 20000 in
theorem CX2_bestInto {G : mG} {l : Launch} {e : mE} {a : Nat} {p0 : Nat} {m : mB} {r : mB} (h0 : ly2 e a) (h1 : ly7 e p0) (h : FX2_bestInto a p0 m = some r) : mx_Call G l MX2_bestInto 6 0 0 [.ref a, .ref p0] (e, m) (fun v z => v = none ∧ z = (e, r)) := by
  refine mx_entry (L := [.ref a, .ref p0, .float 0, .float 0, .float 0]) (by decide +kernel) (Nat.le_of_ble_eq_true rfl) rfl ?_
  unfold FX2_bestInto at h
  refine mx_aload_n (mx_d tX2_bestInto_0 0 rfl) rfl rfl ?_
  refine mx_getI (mx_d tX2_bestInto_0 1 rfl) fX2_69 rfl (Or.inl rfl) (ly2_o h0) ?_
  obtain ⟨v1, e_v1, h⟩ := mx_letE h
  refine mx_istore_n (L2 := [.ref a, .ref p0, .int v1, .float 0, .float 0]) (mx_d tX2_bestInto_0 2 rfl) rfl (by decide) (by rw [e_v1]; rfl) ?_
  refine mx_iconst (0) (mx_d tX2_bestInto_0 3 rfl) (by decide) ?_
  refine mx_istore_n (L2 := [.ref a, .ref p0, .int v1, .int 0, .float 0]) (mx_d tX2_bestInto_0 4 rfl) rfl (by decide) (by rfl) ?_
  obtain ⟨q16, h_q16, h⟩ := Option.bind_eq_some_iff.mp h
  refine CX2_bestInto_L7 h0 h1 mx_FU h_q16 ?_
  refine mx_aload_n (mx_d tX2_bestInto_0 50 rfl) rfl rfl ?_
  obtain ⟨r17, h_r17, h⟩ := Option.bind_eq_some_iff.mp h
  refine mx_cVv (mx_d tX2_bestInto_0 51 rfl) iX2_115 rfl vX7_clear ⟨_, rfl, rfl⟩ (ly7_o h1) (CX7_clear h1 h_r17) (by decide) rfl rfl (Nat.le_of_ble_eq_true rfl) ?_
  refine mx_iconst (0) (mx_d tX2_bestInto_0 52 rfl) (by decide) ?_
  refine mx_istore_n (L2 := [.ref a, .ref p0, .float 0, .int 0, .float 0]) (mx_d tX2_bestInto_0 53 rfl) rfl (by decide) (by rfl) ?_
  obtain ⟨q24, h_q24, h⟩ := Option.bind_eq_some_iff.mp h
  refine CX2_bestInto_L81 h0 h1 mx_FU h_q24 ?_
  obtain rfl := Option.some.inj h
  exact mx_return (mx_d tX2_bestInto_1 10 rfl) rfl ⟨rfl, rfl⟩
def FX2_wantNothing_L7 (q0 : Nat) : Nat → Int32 → mB → Option (mB)
  | 0, _, _ => none
  | f + 1, y1, m => (if 10 ≤ y1 then (some (m)) else mx_chk (mx_inb y1 10) (mx_let (mx_up m.1 (q0 + 17) (Int32.toNatClampNeg y1) (-1), m.2) (fun m3 => mx_let (y1 + 1) (fun v5 => (FX2_wantNothing_L7 q0 f v5 m3)))))
set_option maxRecDepth 20000 in
theorem CX2_wantNothing_L7 {G : mG} {l : Launch} {e : mE} {Post : Option Value → mS → Prop} {q0 : Nat} (g0 : ly2 e q0) : ∀ (f : Nat) {y1 : Int32} {m : mB} {q : (mB)}, FX2_wantNothing_L7 q0 f y1 m = some q → (mx_Fr G l MX2_wantNothing 1 0 0 Post 26 [.float 0, .float 0] [] (e, q)) → mx_Fr G l MX2_wantNothing 1 0 0 Post 7 [.ref q0, .int y1] [] (e, m) := by
  intro f
  induction f with
  | zero => intro _ _ _ h; cases h
  | succ f ih =>
    intro y1 m q h hex
    rw [FX2_wantNothing_L7] at h
    refine mx_iload_n (mx_d tX2_wantNothing_0 5 rfl) rfl rfl ?_
    refine mx_bipush (10) (mx_d tX2_wantNothing_0 6 rfl) (by decide) ?_
    refine mx_icmp_ge (tgt := 26) (mx_d tX2_wantNothing_0 7 rfl) (by decide) (fun hc2 => ?_) (fun hc2 => ?_)
    · rw [if_pos hc2] at h
      obtain rfl := Option.some.inj h
      refine mx_forget (L' := [.float 0, .float 0]) trivial ?_
      exact hex
    · rw [if_neg hc2] at h
      refine mx_aload_n (mx_d tX2_wantNothing_0 8 rfl) rfl rfl ?_
      refine mx_getR (mx_d tX2_wantNothing_0 9 rfl) fX2_34 rfl rfl (ly2_o g0) (ly2_r10 g0) ?_
      refine mx_iload_n (mx_d tX2_wantNothing_0 10 rfl) rfl rfl ?_
      refine mx_iconst ((-1)) (mx_d tX2_wantNothing_0 11 rfl) (by decide) ?_
      obtain ⟨hi4, h⟩ := mx_chkE h
      obtain ⟨m3, e_m3, h⟩ := mx_letE h
      refine mx_iastore (mx_d tX2_wantNothing_0 12 rfl) (ly2_s10 g0) (mx_inbE hi4) (mx_eqz (z' := (e, m3)) (by rw [e_m3]) ?_)
      obtain ⟨v5, e_v5, h⟩ := mx_letE h
      refine mx_iinc v5 (L2 := [.ref q0, .int v5]) (mx_d tX2_wantNothing_0 13 rfl) rfl (by rw [e_v5]; rfl) (by decide) rfl ?_
      refine mx_goto (tgt := 7) (mx_d tX2_wantNothing_0 14 rfl) (by decide) ?_
      exact ih h hex
def FX2_wantNothing (a : Nat) (m : mB) : Option mB := mx_let (mx_up m.1 a 11 0, m.2) (fun m1 => Option.bind (FX2_wantNothing_L7 a mx_FU 0 m1) (fun q6 => (some q6)))
set_option maxRecDepth 20000 in
theorem CX2_wantNothing {G : mG} {l : Launch} {e : mE} {a : Nat} {m : mB} {r : mB} (h0 : ly2 e a) (h : FX2_wantNothing a m = some r) : mx_Call G l MX2_wantNothing 1 0 0 [.ref a] (e, m) (fun v z => v = none ∧ z = (e, r)) := by
  refine mx_entry (L := [.ref a, .float 0]) (by decide +kernel) (Nat.le_of_ble_eq_true rfl) rfl ?_
  unfold FX2_wantNothing at h
  refine mx_aload_n (mx_d tX2_wantNothing_0 0 rfl) rfl rfl ?_
  refine mx_iconst (0) (mx_d tX2_wantNothing_0 1 rfl) (by decide) ?_
  obtain ⟨m1, e_m1, h⟩ := mx_letE h
  refine mx_putZ (mx_d tX2_wantNothing_0 2 rfl) fX2_146 rfl ⟨_, rfl, rfl⟩ rfl (by decide) (ly2_o h0) (mx_eqz (z' := (e, m1)) (by rw [e_m1]) ?_)
  refine mx_iconst (0) (mx_d tX2_wantNothing_0 3 rfl) (by decide) ?_
  refine mx_istore_n (L2 := [.ref a, .int 0]) (mx_d tX2_wantNothing_0 4 rfl) rfl (by decide) (by rfl) ?_
  obtain ⟨q6, h_q6, h⟩ := Option.bind_eq_some_iff.mp h
  refine CX2_wantNothing_L7 h0 mx_FU h_q6 ?_
  obtain rfl := Option.some.inj h
  exact mx_return (mx_d tX2_wantNothing_0 15 rfl) rfl ⟨rfl, rfl⟩
def FX2_tallyChosen_L12 (q0 : Nat) : Nat → Int32 → mB → Option (mB)
  | 0, _, _ => none
  | f + 1, y1, m => Option.bind (FX4_points (q0 + 1) m) (fun r2 => (if r2 ≤ y1 then (some (m)) else (if 10 ≤ y1 then (some (m)) else mx_chk (mx_inb y1 10) (mx_let (m.1 (q0 + 18) (Int32.toNatClampNeg y1)) (fun v6 => (if v6 < 0 then mx_let (y1 + 1) (fun v8 => (FX2_tallyChosen_L12 q0 f v8 m)) else (if 11 ≤ v6 then mx_let (y1 + 1) (fun v10 => (FX2_tallyChosen_L12 q0 f v10 m)) else mx_chk (mx_inb ((y1 * 11) + v6) 110) (mx_let (mx_up m.1 (q0 + 19) (Int32.toNatClampNeg ((y1 * 11) + v6)) ((m.1 (q0 + 19) (Int32.toNatClampNeg ((y1 * 11) + v6))) + 1), m.2) (fun m12 => mx_let (y1 + 1) (fun v13 => (FX2_tallyChosen_L12 q0 f v13 m12)))))))))))
set_option maxRecDepth 20000 in
theorem CX2_tallyChosen_L12 {G : mG} {l : Launch} {e : mE} {Post : Option Value → mS → Prop} {q0 : Nat} (g0 : ly2 e q0) : ∀ (f : Nat) {y1 : Int32} {m : mB} {q : (mB)}, FX2_tallyChosen_L12 q0 f y1 m = some q → (mx_Fr G l MX2_tallyChosen 2 0 0 Post 67 [.float 0, .float 0, .float 0] [] (e, q)) → mx_Fr G l MX2_tallyChosen 2 0 0 Post 12 [.ref q0, .int y1, .float 0] [] (e, m) := by
  intro f
  induction f with
  | zero => intro _ _ _ h; cases h
  | succ f ih =>
    intro y1 m q h hex
    rw [FX2_tallyChosen_L12] at h
    refine mx_iload_n (mx_d tX2_tallyChosen_0 8 rfl) rfl rfl ?_
    refine mx_aload_n (mx_d tX2_tallyChosen_0 9 rfl) rfl rfl ?_
    refine mx_getR (mx_d tX2_tallyChosen_0 10 rfl) fX2_12 rfl rfl (ly2_o g0) (ly2_r0 g0) ?_
    obtain ⟨r2, h_r2, h⟩ := Option.bind_eq_some_iff.mp h
    refine mx_cVi (mx_d tX2_tallyChosen_0 11 rfl) iX2_65 rfl vX4_points ⟨_, rfl, rfl⟩ (ly4_o (ly2_s0 g0)) (CX4_points (ly2_s0 g0) h_r2) (by decide) rfl rfl (Nat.le_of_ble_eq_true rfl) ?_
    refine mx_icmp_ge (tgt := 67) (mx_d tX2_tallyChosen_0 12 rfl) (by decide) (fun hc3 => ?_) (fun hc3 => ?_)
    · rw [if_pos hc3] at h
      obtain rfl := Option.some.inj h
      refine mx_forget (L' := [.float 0, .float 0, .float 0]) trivial ?_
      exact hex
    · rw [if_neg hc3] at h
      refine mx_iload_n (mx_d tX2_tallyChosen_0 13 rfl) rfl rfl ?_
      refine mx_bipush (10) (mx_d tX2_tallyChosen_0 14 rfl) (by decide) ?_
      refine mx_icmp_ge (tgt := 67) (mx_d tX2_tallyChosen_0 15 rfl) (by decide) (fun hc4 => ?_) (fun hc4 => ?_)
      · rw [if_pos hc4] at h
        obtain rfl := Option.some.inj h
        refine mx_forget (L' := [.float 0, .float 0, .float 0]) trivial ?_
        exact hex
      · rw [if_neg hc4] at h
        refine mx_aload_n (mx_d tX2_tallyChosen_0 16 rfl) rfl rfl ?_
        refine mx_getR (mx_d tX2_tallyChosen_0 17 rfl) fX2_37 rfl rfl (ly2_o g0) (ly2_r12 g0) ?_
        refine mx_iload_n (mx_d tX2_tallyChosen_0 18 rfl) rfl rfl ?_
        obtain ⟨hi5, h⟩ := mx_chkE h
        refine mx_iaload (mx_d tX2_tallyChosen_0 19 rfl) (ly2_s12 g0) (mx_inbE hi5) ?_
        obtain ⟨v6, e_v6, h⟩ := mx_letE h
        refine mx_istore_n (L2 := [.ref q0, .int y1, .int v6]) (mx_d tX2_tallyChosen_0 20 rfl) rfl (by decide) (by rw [e_v6]; rfl) ?_
        refine mx_iload_n (mx_d tX2_tallyChosen_0 21 rfl) rfl rfl ?_
        refine mx_if_lt (tgt := 61) (mx_d tX2_tallyChosen_0 22 rfl) (by decide) (fun hc7 => ?_) (fun hc7 => ?_)
        · rw [if_pos hc7] at h
          obtain ⟨v8, e_v8, h⟩ := mx_letE h
          refine mx_iinc v8 (L2 := [.ref q0, .int v8, .int v6]) (mx_d tX2_tallyChosen_0 38 rfl) rfl (by rw [e_v8]; rfl) (by decide) rfl ?_
          refine mx_goto (tgt := 12) (mx_d tX2_tallyChosen_0 39 rfl) (by decide) ?_
          refine mx_forget (L' := [.ref q0, .int v8, .float 0]) ⟨rfl, rfl, trivial⟩ ?_
          exact ih h hex
        · rw [if_neg hc7] at h
          refine mx_iload_n (mx_d tX2_tallyChosen_0 23 rfl) rfl rfl ?_
          refine mx_bipush (11) (mx_d tX2_tallyChosen_0 24 rfl) (by decide) ?_
          refine mx_icmp_ge (tgt := 61) (mx_d tX2_tallyChosen_0 25 rfl) (by decide) (fun hc9 => ?_) (fun hc9 => ?_)
          · rw [if_pos hc9] at h
            obtain ⟨v10, e_v10, h⟩ := mx_letE h
            refine mx_iinc v10 (L2 := [.ref q0, .int v10, .int v6]) (mx_d tX2_tallyChosen_0 38 rfl) rfl (by rw [e_v10]; rfl) (by decide) rfl ?_
            refine mx_goto (tgt := 12) (mx_d tX2_tallyChosen_0 39 rfl) (by decide) ?_
            refine mx_forget (L' := [.ref q0, .int v10, .float 0]) ⟨rfl, rfl, trivial⟩ ?_
            exact ih h hex
          · rw [if_neg hc9] at h
            refine mx_aload_n (mx_d tX2_tallyChosen_0 26 rfl) rfl rfl ?_
            refine mx_getR (mx_d tX2_tallyChosen_0 27 rfl) fX2_40 rfl rfl (ly2_o g0) (ly2_r13 g0) ?_
            refine mx_iload_n (mx_d tX2_tallyChosen_0 28 rfl) rfl rfl ?_
            refine mx_bipush (11) (mx_d tX2_tallyChosen_0 29 rfl) (by decide) ?_
            refine mx_imul (mx_d tX2_tallyChosen_0 30 rfl) ?_
            refine mx_iload_n (mx_d tX2_tallyChosen_0 31 rfl) rfl rfl ?_
            refine mx_iadd (mx_d tX2_tallyChosen_0 32 rfl) ?_
            refine mx_dup2 (mx_d tX2_tallyChosen_0 33 rfl) rfl rfl ?_
            obtain ⟨hi11, h⟩ := mx_chkE h
            refine mx_iaload (mx_d tX2_tallyChosen_0 34 rfl) (ly2_s13 g0) (mx_inbE hi11) ?_
            refine mx_iconst (1) (mx_d tX2_tallyChosen_0 35 rfl) (by decide) ?_
            refine mx_iadd (mx_d tX2_tallyChosen_0 36 rfl) ?_
            obtain ⟨m12, e_m12, h⟩ := mx_letE h
            refine mx_iastore (mx_d tX2_tallyChosen_0 37 rfl) (ly2_s13 g0) (mx_inbE hi11) (mx_eqz (z' := (e, m12)) (by rw [e_m12]) ?_)
            obtain ⟨v13, e_v13, h⟩ := mx_letE h
            refine mx_iinc v13 (L2 := [.ref q0, .int v13, .int v6]) (mx_d tX2_tallyChosen_0 38 rfl) rfl (by rw [e_v13]; rfl) (by decide) rfl ?_
            refine mx_goto (tgt := 12) (mx_d tX2_tallyChosen_0 39 rfl) (by decide) ?_
            refine mx_forget (L' := [.ref q0, .int v13, .float 0]) ⟨rfl, rfl, trivial⟩ ?_
            exact ih h hex
def FX2_tallyChosen (a : Nat) (m : mB) : Option mB := mx_let (mx_up m.1 a 15 ((m.1 a 15) + 1), m.2) (fun m1 => Option.bind (FX2_tallyChosen_L12 a mx_FU 0 m1) (fun q14 => (some q14)))
set_option maxRecDepth 20000 in
theorem CX2_tallyChosen {G : mG} {l : Launch} {e : mE} {a : Nat} {m : mB} {r : mB} (h0 : ly2 e a) (h : FX2_tallyChosen a m = some r) : mx_Call G l MX2_tallyChosen 2 0 0 [.ref a] (e, m) (fun v z => v = none ∧ z = (e, r)) := by
  refine mx_entry (L := [.ref a, .float 0, .float 0]) (by decide +kernel) (Nat.le_of_ble_eq_true rfl) rfl ?_
  unfold FX2_tallyChosen at h
  refine mx_aload_n (mx_d tX2_tallyChosen_0 0 rfl) rfl rfl ?_
  refine mx_dup (mx_d tX2_tallyChosen_0 1 rfl) rfl ?_
  refine mx_getI (mx_d tX2_tallyChosen_0 2 rfl) fX2_143 rfl (Or.inl rfl) (ly2_o h0) ?_
  refine mx_iconst (1) (mx_d tX2_tallyChosen_0 3 rfl) (by decide) ?_
  refine mx_iadd (mx_d tX2_tallyChosen_0 4 rfl) ?_
  obtain ⟨m1, e_m1, h⟩ := mx_letE h
  refine mx_putI (mx_d tX2_tallyChosen_0 5 rfl) fX2_143 rfl ⟨_, rfl, rfl⟩ rfl (ly2_o h0) (mx_eqz (z' := (e, m1)) (by rw [e_m1]) ?_)
  refine mx_iconst (0) (mx_d tX2_tallyChosen_0 6 rfl) (by decide) ?_
  refine mx_istore_n (L2 := [.ref a, .int 0, .float 0]) (mx_d tX2_tallyChosen_0 7 rfl) rfl (by decide) (by rfl) ?_
  obtain ⟨q14, h_q14, h⟩ := Option.bind_eq_some_iff.mp h
  refine CX2_tallyChosen_L12 h0 mx_FU h_q14 ?_
  obtain rfl := Option.some.inj h
  exact mx_return (mx_d tX2_tallyChosen_0 40 rfl) rfl ⟨rfl, rfl⟩
def FX2_mayBe (a : Nat) (x0 : Int32) (x1 : Int32) (m : mB) : Option Int32 := (if x0 < 0 then (some 0) else (if 10 ≤ x0 then (some 0) else mx_chk (mx_inb x0 10) ((if (m.1 (a + 17) (Int32.toNatClampNeg x0)) = (-1) then (some 1) else (if (m.1 (a + 17) (Int32.toNatClampNeg x0)) = x1 then (some 1) else (some 0))))))
set_option maxRecDepth 20000 in
theorem CX2_mayBe {G : mG} {l : Launch} {e : mE} {a : Nat} {x0 : Int32} {x1 : Int32} {m : mB} {r : Int32} (h0 : ly2 e a) (h : FX2_mayBe a x0 x1 m = some r) : mx_Call G l MX2_mayBe 1 0 0 [.ref a, .int x0, .int x1] (e, m) (fun v z => v = some (.int r) ∧ z = (e, m)) := by
  refine mx_entry (L := [.ref a, .int x0, .int x1]) (by decide +kernel) (Nat.le_of_ble_eq_true rfl) rfl ?_
  unfold FX2_mayBe at h
  refine mx_iload_n (mx_d tX2_mayBe_0 0 rfl) rfl rfl ?_
  refine mx_if_lt (tgt := 34) (mx_d tX2_mayBe_0 1 rfl) (by decide) (fun hc1 => ?_) (fun hc1 => ?_)
  · rw [if_pos hc1] at h
    refine mx_iconst (0) (mx_d tX2_mayBe_0 19 rfl) (by decide) ?_
    obtain rfl := Option.some.inj h
    exact mx_zreturn (mx_d tX2_mayBe_0 20 rfl) rfl rfl ⟨rfl, rfl⟩
  · rw [if_neg hc1] at h
    refine mx_iload_n (mx_d tX2_mayBe_0 2 rfl) rfl rfl ?_
    refine mx_bipush (10) (mx_d tX2_mayBe_0 3 rfl) (by decide) ?_
    refine mx_icmp_ge (tgt := 34) (mx_d tX2_mayBe_0 4 rfl) (by decide) (fun hc2 => ?_) (fun hc2 => ?_)
    · rw [if_pos hc2] at h
      refine mx_iconst (0) (mx_d tX2_mayBe_0 19 rfl) (by decide) ?_
      obtain rfl := Option.some.inj h
      exact mx_zreturn (mx_d tX2_mayBe_0 20 rfl) rfl rfl ⟨rfl, rfl⟩
    · rw [if_neg hc2] at h
      refine mx_aload_n (mx_d tX2_mayBe_0 5 rfl) rfl rfl ?_
      refine mx_getR (mx_d tX2_mayBe_0 6 rfl) fX2_34 rfl rfl (ly2_o h0) (ly2_r10 h0) ?_
      refine mx_iload_n (mx_d tX2_mayBe_0 7 rfl) rfl rfl ?_
      obtain ⟨hi3, h⟩ := mx_chkE h
      refine mx_iaload (mx_d tX2_mayBe_0 8 rfl) (ly2_s10 h0) (mx_inbE hi3) ?_
      refine mx_iconst ((-1)) (mx_d tX2_mayBe_0 9 rfl) (by decide) ?_
      refine mx_icmp_eq (tgt := 30) (mx_d tX2_mayBe_0 10 rfl) (by decide) (fun hc4 => ?_) (fun hc4 => ?_)
      · rw [if_pos hc4] at h
        refine mx_iconst (1) (mx_d tX2_mayBe_0 17 rfl) (by decide) ?_
        refine mx_goto (tgt := 35) (mx_d tX2_mayBe_0 18 rfl) (by decide) ?_
        obtain rfl := Option.some.inj h
        exact mx_zreturn (mx_d tX2_mayBe_0 20 rfl) rfl rfl ⟨rfl, rfl⟩
      · rw [if_neg hc4] at h
        refine mx_aload_n (mx_d tX2_mayBe_0 11 rfl) rfl rfl ?_
        refine mx_getR (mx_d tX2_mayBe_0 12 rfl) fX2_34 rfl rfl (ly2_o h0) (ly2_r10 h0) ?_
        refine mx_iload_n (mx_d tX2_mayBe_0 13 rfl) rfl rfl ?_
        refine mx_iaload (mx_d tX2_mayBe_0 14 rfl) (ly2_s10 h0) (mx_inbE hi3) ?_
        refine mx_iload_n (mx_d tX2_mayBe_0 15 rfl) rfl rfl ?_
        refine mx_icmp_ne (tgt := 34) (mx_d tX2_mayBe_0 16 rfl) (by decide) (fun hc5 => ?_) (fun hc5 => ?_)
        · rw [if_neg hc5] at h
          refine mx_iconst (0) (mx_d tX2_mayBe_0 19 rfl) (by decide) ?_
          obtain rfl := Option.some.inj h
          exact mx_zreturn (mx_d tX2_mayBe_0 20 rfl) rfl rfl ⟨rfl, rfl⟩
        · rw [if_pos hc5] at h
          refine mx_iconst (1) (mx_d tX2_mayBe_0 17 rfl) (by decide) ?_
          refine mx_goto (tgt := 35) (mx_d tX2_mayBe_0 18 rfl) (by decide) ?_
          obtain rfl := Option.some.inj h
          exact mx_zreturn (mx_d tX2_mayBe_0 20 rfl) rfl rfl ⟨rfl, rfl⟩
def FX2_walkBest_L48 (rec : Nat → Int32 → Int32 → mB → Option mB) (q0 : Nat) (y1 : Int32) (y2 : Int32) (y3 : Int32) (y4 : Int32) (y5 : Int32) : Nat → Int32 → mB → Option (mB)
  | 0, _, _ => none
  | f + 1, y6, m => (if 10 ≤ y6 then (some (m)) else (if ((y5 >>> (y6 &&& 31)) &&& 1) = 0 then mx_let (y6 + 1) (fun v10 => (FX2_walkBest_L48 rec q0 y1 y2 y3 y4 y5 f v10 m)) else Option.bind (FX2_mayBe q0 y3 y6 m) (fun r11 => (if r11 = 0 then mx_let (y6 + 1) (fun v13 => (FX2_walkBest_L48 rec q0 y1 y2 y3 y4 y5 f v13 m)) else Option.bind (FX2_mayBe q0 y6 y3 m) (fun r14 => (if r14 = 0 then mx_let (y6 + 1) (fun v16 => (FX2_walkBest_L48 rec q0 y1 y2 y3 y4 y5 f v16 m)) else Option.bind (FX2_keepsTop q0 y3 y6 y1 m) (fun r17 => (if r17 = 0 then mx_let (y6 + 1) (fun v19 => (FX2_walkBest_L48 rec q0 y1 y2 y3 y4 y5 f v19 m)) else Option.bind (FX2_choose q0 y3 y6 m) (fun r20 => Option.bind (rec q0 (y4 &&& (((1 : Int32) <<< (y6 &&& 31)) ^^^ (-1))) (y2 + 1) r20) (fun r21 => mx_let (y6 + 1) (fun v22 => (FX2_walkBest_L48 rec q0 y1 y2 y3 y4 y5 f v22 r21))))))))))))
set_option maxRecDepth 20000 in
theorem CX2_walkBest_L48 {G : mG} {l : Launch} {e : mE} {Post : Option Value → mS → Prop} {rec : Nat → Int32 → Int32 → mB → Option mB} {D : Nat} {q0 : Nat} {y1 : Int32} {y2 : Int32} {y3 : Int32} {y4 : Int32} {y5 : Int32} (hrec : ∀ {a : Nat} {x0 : Int32} {x1 : Int32} {m : mB} {r : mB}, ly2 e a → rec a x0 x1 m = some r → mx_Call G l MX2_walkBest D 0 0 [.ref a, .int x0, .int x1] (e, m) (fun v z => v = none ∧ z = (e, r))) (g0 : ly2 e q0) : ∀ (f : Nat) {y6 : Int32} {m : mB} {q : (mB)}, FX2_walkBest_L48 rec q0 y1 y2 y3 y4 y5 f y6 m = some q → (mx_Fr G l MX2_walkBest (D + 5) 0 0 Post 125 [.ref q0, .int y1, .int y2, .int y3, .int y4, .float 0, .float 0] [] (e, q)) → mx_Fr G l MX2_walkBest (D + 5) 0 0 Post 48 [.ref q0, .int y1, .int y2, .int y3, .int y4, .int y5, .int y6] [] (e, m) := by
  intro f
  induction f with
  | zero => intro _ _ _ h; cases h
  | succ f ih =>
    intro y6 m q h hex
    rw [FX2_walkBest_L48] at h
    refine mx_iload (mx_d tX2_walkBest_0 31 rfl) rfl ?_
    refine mx_bipush (10) (mx_d tX2_walkBest_0 32 rfl) (by decide) ?_
    refine mx_icmp_ge (tgt := 125) (mx_d tX2_walkBest_0 33 rfl) (by decide) (fun hc8 => ?_) (fun hc8 => ?_)
    · rw [if_pos hc8] at h
      obtain rfl := Option.some.inj h
      refine mx_forget (L' := [.ref q0, .int y1, .int y2, .int y3, .int y4, .float 0, .float 0]) ⟨rfl, rfl, rfl, rfl, rfl, trivial⟩ ?_
      exact hex
    · rw [if_neg hc8] at h
      refine mx_iload (mx_d tX2_walkBest_0 34 rfl) rfl ?_
      refine mx_iload (mx_d tX2_walkBest_0 35 rfl) rfl ?_
      refine mx_ishr (mx_d tX2_walkBest_0 36 rfl) ?_
      refine mx_iconst (1) (mx_d tX2_walkBest_0 37 rfl) (by decide) ?_
      refine mx_iand (mx_d tX2_walkBest_0 38 rfl) ?_
      refine mx_if_eq (tgt := 119) (mx_d tX2_walkBest_0 39 rfl) (by decide) (fun hc9 => ?_) (fun hc9 => ?_)
      · rw [if_pos hc9] at h
        obtain ⟨v10, e_v10, h⟩ := mx_letE h
        refine mx_iinc v10 (L2 := [.ref q0, .int y1, .int y2, .int y3, .int y4, .int y5, .int v10]) (mx_d tX2_walkBest_1 12 rfl) rfl (by rw [e_v10]; rfl) (by decide) rfl ?_
        refine mx_goto (tgt := 48) (mx_d tX2_walkBest_1 13 rfl) (by decide) ?_
        exact ih h hex
      · rw [if_neg hc9] at h
        refine mx_aload_n (mx_d tX2_walkBest_0 40 rfl) rfl rfl ?_
        refine mx_iload_n (mx_d tX2_walkBest_0 41 rfl) rfl rfl ?_
        refine mx_iload (mx_d tX2_walkBest_0 42 rfl) rfl ?_
        obtain ⟨r11, h_r11, h⟩ := Option.bind_eq_some_iff.mp h
        refine mx_cVi (mx_d tX2_walkBest_0 43 rfl) iX2_155 rfl vX2_mayBe ⟨_, rfl, rfl⟩ (ly2_o g0) (CX2_mayBe g0 h_r11) (by omega) rfl rfl (Nat.le_of_ble_eq_true rfl) ?_
        refine mx_if_eq (tgt := 119) (mx_d tX2_walkBest_0 44 rfl) (by decide) (fun hc12 => ?_) (fun hc12 => ?_)
        · rw [if_pos hc12] at h
          obtain ⟨v13, e_v13, h⟩ := mx_letE h
          refine mx_iinc v13 (L2 := [.ref q0, .int y1, .int y2, .int y3, .int y4, .int y5, .int v13]) (mx_d tX2_walkBest_1 12 rfl) rfl (by rw [e_v13]; rfl) (by decide) rfl ?_
          refine mx_goto (tgt := 48) (mx_d tX2_walkBest_1 13 rfl) (by decide) ?_
          exact ih h hex
        · rw [if_neg hc12] at h
          refine mx_aload_n (mx_d tX2_walkBest_0 45 rfl) rfl rfl ?_
          refine mx_iload (mx_d tX2_walkBest_0 46 rfl) rfl ?_
          refine mx_iload_n (mx_d tX2_walkBest_0 47 rfl) rfl rfl ?_
          obtain ⟨r14, h_r14, h⟩ := Option.bind_eq_some_iff.mp h
          refine mx_cVi (mx_d tX2_walkBest_0 48 rfl) iX2_155 rfl vX2_mayBe ⟨_, rfl, rfl⟩ (ly2_o g0) (CX2_mayBe g0 h_r14) (by omega) rfl rfl (Nat.le_of_ble_eq_true rfl) ?_
          refine mx_if_eq (tgt := 119) (mx_d tX2_walkBest_0 49 rfl) (by decide) (fun hc15 => ?_) (fun hc15 => ?_)
          · rw [if_pos hc15] at h
            obtain ⟨v16, e_v16, h⟩ := mx_letE h
            refine mx_iinc v16 (L2 := [.ref q0, .int y1, .int y2, .int y3, .int y4, .int y5, .int v16]) (mx_d tX2_walkBest_1 12 rfl) rfl (by rw [e_v16]; rfl) (by decide) rfl ?_
            refine mx_goto (tgt := 48) (mx_d tX2_walkBest_1 13 rfl) (by decide) ?_
            exact ih h hex
          · rw [if_neg hc15] at h
            refine mx_aload_n (mx_d tX2_walkBest_0 50 rfl) rfl rfl ?_
            refine mx_iload_n (mx_d tX2_walkBest_0 51 rfl) rfl rfl ?_
            refine mx_iload (mx_d tX2_walkBest_0 52 rfl) rfl ?_
            refine mx_iload_n (mx_d tX2_walkBest_0 53 rfl) rfl rfl ?_
            obtain ⟨r17, h_r17, h⟩ := Option.bind_eq_some_iff.mp h
            refine mx_cVi (mx_d tX2_walkBest_0 54 rfl) iX2_124 rfl vX2_keepsTop ⟨_, rfl, rfl⟩ (ly2_o g0) (CX2_keepsTop g0 h_r17) (by omega) rfl rfl (Nat.le_of_ble_eq_true rfl) ?_
            refine mx_if_eq (tgt := 119) (mx_d tX2_walkBest_0 55 rfl) (by decide) (fun hc18 => ?_) (fun hc18 => ?_)
            · rw [if_pos hc18] at h
              obtain ⟨v19, e_v19, h⟩ := mx_letE h
              refine mx_iinc v19 (L2 := [.ref q0, .int y1, .int y2, .int y3, .int y4, .int y5, .int v19]) (mx_d tX2_walkBest_1 12 rfl) rfl (by rw [e_v19]; rfl) (by decide) rfl ?_
              refine mx_goto (tgt := 48) (mx_d tX2_walkBest_1 13 rfl) (by decide) ?_
              exact ih h hex
            · rw [if_neg hc18] at h
              refine mx_aload_n (mx_d tX2_walkBest_0 56 rfl) rfl rfl ?_
              refine mx_iload_n (mx_d tX2_walkBest_0 57 rfl) rfl rfl ?_
              refine mx_iload (mx_d tX2_walkBest_0 58 rfl) rfl ?_
              obtain ⟨r20, h_r20, h⟩ := Option.bind_eq_some_iff.mp h
              refine mx_cVv (mx_d tX2_walkBest_0 59 rfl) iX2_112 rfl vX2_choose ⟨_, rfl, rfl⟩ (ly2_o g0) (CX2_choose g0 h_r20) (by omega) rfl rfl (Nat.le_of_ble_eq_true rfl) ?_
              refine mx_aload_n (mx_d tX2_walkBest_1 0 rfl) rfl rfl ?_
              refine mx_iload (mx_d tX2_walkBest_1 1 rfl) rfl ?_
              refine mx_iconst (1) (mx_d tX2_walkBest_1 2 rfl) (by decide) ?_
              refine mx_iload (mx_d tX2_walkBest_1 3 rfl) rfl ?_
              refine mx_ishl (mx_d tX2_walkBest_1 4 rfl) ?_
              refine mx_iconst ((-1)) (mx_d tX2_walkBest_1 5 rfl) (by decide) ?_
              refine mx_ixor (mx_d tX2_walkBest_1 6 rfl) ?_
              refine mx_iand (mx_d tX2_walkBest_1 7 rfl) ?_
              refine mx_iload_n (mx_d tX2_walkBest_1 8 rfl) rfl rfl ?_
              refine mx_iconst (1) (mx_d tX2_walkBest_1 9 rfl) (by decide) ?_
              refine mx_iadd (mx_d tX2_walkBest_1 10 rfl) ?_
              obtain ⟨r21, h_r21, h⟩ := Option.bind_eq_some_iff.mp h
              refine mx_cVv (mx_d tX2_walkBest_1 11 rfl) iX2_149 rfl vX2_walkBest ⟨_, rfl, rfl⟩ (ly2_o g0) (hrec g0 h_r21) (by omega) rfl rfl (Nat.le_of_ble_eq_true rfl) ?_
              obtain ⟨v22, e_v22, h⟩ := mx_letE h
              refine mx_iinc v22 (L2 := [.ref q0, .int y1, .int y2, .int y3, .int y4, .int y5, .int v22]) (mx_d tX2_walkBest_1 12 rfl) rfl (by rw [e_v22]; rfl) (by decide) rfl ?_
              refine mx_goto (tgt := 48) (mx_d tX2_walkBest_1 13 rfl) (by decide) ?_
              exact ih h hex
def FX2_walkBest_B (rec : Nat → Int32 → Int32 → mB → Option mB) (a : Nat) (x0 : Int32) (x1 : Int32) (m : mB) : Option mB := (if x0 = 0 then Option.bind (FX2_tallyChosen a m) (fun r32 => (some r32)) else (if x1 < 10 then Option.bind (FX2_leastOf x0 m) (fun r3 => mx_let (x0 &&& (((1 : Int32) <<< (r3 &&& 31)) ^^^ (-1))) (fun v4 => Option.bind (FX4_nearTo (a + 1) r3 m) (fun r5 => mx_let (r5 &&& v4) (fun v6 => mx_let (r3 + 1) (fun v7 => Option.bind (FX2_walkBest_L48 rec a x0 x1 r3 v4 v6 mx_FU v7 m) (fun q23 => Option.bind (FX2_mayBe a r3 10 q23) (fun r24 => (if r24 = 0 then (some q23) else Option.bind (FX2_topFor a v4 q23) (fun r26 => Option.bind (FX2_topFor a x0 q23) (fun r27 => (if r26 = r27 then mx_chk (mx_inb r3 10) (mx_let (mx_up q23.1 (a + 18) (Int32.toNatClampNeg r3) 10, q23.2) (fun m29 => Option.bind (rec a v4 (x1 + 1) m29) (fun r31 => (some r31)))) else (some q23)))))))))))) else (some m)))
def FX2_walkBest : Nat → Nat → Int32 → Int32 → mB → Option mB
  | 0, _, _, _, _ => none
  | D + 1, a, x0, x1, m => FX2_walkBest_B (FX2_walkBest D) a x0 x1 m
set_option maxRecDepth 20000 in
theorem CX2_walkBest_B {G : mG} {l : Launch} {e : mE} {rec : Nat → Int32 → Int32 → mB → Option mB} {D : Nat} {a : Nat} {x0 : Int32} {x1 : Int32} {m : mB} {r : mB} (hrec : ∀ {a : Nat} {x0 : Int32} {x1 : Int32} {m : mB} {r : mB}, ly2 e a → rec a x0 x1 m = some r → mx_Call G l MX2_walkBest D 0 0 [.ref a, .int x0, .int x1] (e, m) (fun v z => v = none ∧ z = (e, r))) (h0 : ly2 e a) (h : FX2_walkBest_B rec a x0 x1 m = some r) : mx_Call G l MX2_walkBest (D + 5) 0 0 [.ref a, .int x0, .int x1] (e, m) (fun v z => v = none ∧ z = (e, r)) := by
  refine mx_entry (L := [.ref a, .int x0, .int x1, .float 0, .float 0, .float 0, .float 0]) (by decide +kernel) (Nat.le_of_ble_eq_true rfl) rfl ?_
  unfold FX2_walkBest_B at h
  refine mx_iload_n (mx_d tX2_walkBest_0 0 rfl) rfl rfl ?_
  refine mx_if_ne (tgt := 9) (mx_d tX2_walkBest_0 1 rfl) (by decide) (fun hc1 => ?_) (fun hc1 => ?_)
  · rw [if_neg hc1] at h
    refine mx_iload_n (mx_d tX2_walkBest_0 5 rfl) rfl rfl ?_
    refine mx_bipush (10) (mx_d tX2_walkBest_0 6 rfl) (by decide) ?_
    refine mx_icmp_lt (tgt := 16) (mx_d tX2_walkBest_0 7 rfl) (by decide) (fun hc2 => ?_) (fun hc2 => ?_)
    · rw [if_pos hc2] at h
      refine mx_iload_n (mx_d tX2_walkBest_0 9 rfl) rfl rfl ?_
      obtain ⟨r3, h_r3, h⟩ := Option.bind_eq_some_iff.mp h
      refine mx_cSi (mx_d tX2_walkBest_0 10 rfl) iX2_87 rfl sX2_leastOf (CX2_leastOf  h_r3) (by omega) rfl rfl (Nat.le_of_ble_eq_true rfl) ?_
      refine mx_istore_n (L2 := [.ref a, .int x0, .int x1, .int r3, .float 0, .float 0, .float 0]) (mx_d tX2_walkBest_0 11 rfl) rfl (by decide) (by rfl) ?_
      refine mx_iload_n (mx_d tX2_walkBest_0 12 rfl) rfl rfl ?_
      refine mx_iconst (1) (mx_d tX2_walkBest_0 13 rfl) (by decide) ?_
      refine mx_iload_n (mx_d tX2_walkBest_0 14 rfl) rfl rfl ?_
      refine mx_ishl (mx_d tX2_walkBest_0 15 rfl) ?_
      refine mx_iconst ((-1)) (mx_d tX2_walkBest_0 16 rfl) (by decide) ?_
      refine mx_ixor (mx_d tX2_walkBest_0 17 rfl) ?_
      refine mx_iand (mx_d tX2_walkBest_0 18 rfl) ?_
      obtain ⟨v4, e_v4, h⟩ := mx_letE h
      refine mx_istore (L2 := [.ref a, .int x0, .int x1, .int r3, .int v4, .float 0, .float 0]) (mx_d tX2_walkBest_0 19 rfl) (by decide) (by rw [e_v4]; rfl) ?_
      refine mx_aload_n (mx_d tX2_walkBest_0 20 rfl) rfl rfl ?_
      refine mx_getR (mx_d tX2_walkBest_0 21 rfl) fX2_12 rfl rfl (ly2_o h0) (ly2_r0 h0) ?_
      refine mx_iload_n (mx_d tX2_walkBest_0 22 rfl) rfl rfl ?_
      obtain ⟨r5, h_r5, h⟩ := Option.bind_eq_some_iff.mp h
      refine mx_cVi (mx_d tX2_walkBest_0 23 rfl) iX2_94 rfl vX4_nearTo ⟨_, rfl, rfl⟩ (ly4_o (ly2_s0 h0)) (CX4_nearTo (ly2_s0 h0) h_r5) (by omega) rfl rfl (Nat.le_of_ble_eq_true rfl) ?_
      refine mx_iload (mx_d tX2_walkBest_0 24 rfl) rfl ?_
      refine mx_iand (mx_d tX2_walkBest_0 25 rfl) ?_
      obtain ⟨v6, e_v6, h⟩ := mx_letE h
      refine mx_istore (L2 := [.ref a, .int x0, .int x1, .int r3, .int v4, .int v6, .float 0]) (mx_d tX2_walkBest_0 26 rfl) (by decide) (by rw [e_v6]; rfl) ?_
      refine mx_iload_n (mx_d tX2_walkBest_0 27 rfl) rfl rfl ?_
      refine mx_iconst (1) (mx_d tX2_walkBest_0 28 rfl) (by decide) ?_
      refine mx_iadd (mx_d tX2_walkBest_0 29 rfl) ?_
      obtain ⟨v7, e_v7, h⟩ := mx_letE h
      refine mx_istore (L2 := [.ref a, .int x0, .int x1, .int r3, .int v4, .int v6, .int v7]) (mx_d tX2_walkBest_0 30 rfl) (by decide) (by rw [e_v7]; rfl) ?_
      obtain ⟨q23, h_q23, h⟩ := Option.bind_eq_some_iff.mp h
      refine CX2_walkBest_L48 hrec h0 mx_FU h_q23 ?_
      refine mx_aload_n (mx_d tX2_walkBest_1 14 rfl) rfl rfl ?_
      refine mx_iload_n (mx_d tX2_walkBest_1 15 rfl) rfl rfl ?_
      refine mx_bipush (10) (mx_d tX2_walkBest_1 16 rfl) (by decide) ?_
      obtain ⟨r24, h_r24, h⟩ := Option.bind_eq_some_iff.mp h
      refine mx_cVi (mx_d tX2_walkBest_1 17 rfl) iX2_155 rfl vX2_mayBe ⟨_, rfl, rfl⟩ (ly2_o h0) (CX2_mayBe h0 h_r24) (by omega) rfl rfl (Nat.le_of_ble_eq_true rfl) ?_
      refine mx_if_eq (tgt := 166) (mx_d tX2_walkBest_1 18 rfl) (by decide) (fun hc25 => ?_) (fun hc25 => ?_)
      · rw [if_pos hc25] at h
        obtain rfl := Option.some.inj h
        exact mx_return (mx_d tX2_walkBest_1 37 rfl) rfl ⟨rfl, rfl⟩
      · rw [if_neg hc25] at h
        refine mx_aload_n (mx_d tX2_walkBest_1 19 rfl) rfl rfl ?_
        refine mx_iload (mx_d tX2_walkBest_1 20 rfl) rfl ?_
        obtain ⟨r26, h_r26, h⟩ := Option.bind_eq_some_iff.mp h
        refine mx_cVi (mx_d tX2_walkBest_1 21 rfl) iX2_76 rfl vX2_topFor ⟨_, rfl, rfl⟩ (ly2_o h0) (CX2_topFor h0 h_r26) (by omega) rfl rfl (Nat.le_of_ble_eq_true rfl) ?_
        refine mx_aload_n (mx_d tX2_walkBest_1 22 rfl) rfl rfl ?_
        refine mx_iload_n (mx_d tX2_walkBest_1 23 rfl) rfl rfl ?_
        obtain ⟨r27, h_r27, h⟩ := Option.bind_eq_some_iff.mp h
        refine mx_cVi (mx_d tX2_walkBest_1 24 rfl) iX2_76 rfl vX2_topFor ⟨_, rfl, rfl⟩ (ly2_o h0) (CX2_topFor h0 h_r27) (by omega) rfl rfl (Nat.le_of_ble_eq_true rfl) ?_
        refine mx_icmp_ne (tgt := 166) (mx_d tX2_walkBest_1 25 rfl) (by decide) (fun hc28 => ?_) (fun hc28 => ?_)
        · rw [if_neg hc28] at h
          obtain rfl := Option.some.inj h
          exact mx_return (mx_d tX2_walkBest_1 37 rfl) rfl ⟨rfl, rfl⟩
        · rw [if_pos hc28] at h
          refine mx_aload_n (mx_d tX2_walkBest_1 26 rfl) rfl rfl ?_
          refine mx_getR (mx_d tX2_walkBest_1 27 rfl) fX2_37 rfl rfl (ly2_o h0) (ly2_r12 h0) ?_
          refine mx_iload_n (mx_d tX2_walkBest_1 28 rfl) rfl rfl ?_
          refine mx_bipush (10) (mx_d tX2_walkBest_1 29 rfl) (by decide) ?_
          obtain ⟨hi30, h⟩ := mx_chkE h
          obtain ⟨m29, e_m29, h⟩ := mx_letE h
          refine mx_iastore (mx_d tX2_walkBest_1 30 rfl) (ly2_s12 h0) (mx_inbE hi30) (mx_eqz (z' := (e, m29)) (by rw [e_m29]) ?_)
          refine mx_aload_n (mx_d tX2_walkBest_1 31 rfl) rfl rfl ?_
          refine mx_iload (mx_d tX2_walkBest_1 32 rfl) rfl ?_
          refine mx_iload_n (mx_d tX2_walkBest_1 33 rfl) rfl rfl ?_
          refine mx_iconst (1) (mx_d tX2_walkBest_1 34 rfl) (by decide) ?_
          refine mx_iadd (mx_d tX2_walkBest_1 35 rfl) ?_
          obtain ⟨r31, h_r31, h⟩ := Option.bind_eq_some_iff.mp h
          refine mx_cVv (mx_d tX2_walkBest_1 36 rfl) iX2_149 rfl vX2_walkBest ⟨_, rfl, rfl⟩ (ly2_o h0) (hrec h0 h_r31) (by omega) rfl rfl (Nat.le_of_ble_eq_true rfl) ?_
          obtain rfl := Option.some.inj h
          exact mx_return (mx_d tX2_walkBest_1 37 rfl) rfl ⟨rfl, rfl⟩
    · rw [if_neg hc2] at h
      obtain rfl := Option.some.inj h
      exact mx_return (mx_d tX2_walkBest_0 8 rfl) rfl ⟨rfl, rfl⟩
  · rw [if_pos hc1] at h
    refine mx_aload_n (mx_d tX2_walkBest_0 2 rfl) rfl rfl ?_
    obtain ⟨r32, h_r32, h⟩ := Option.bind_eq_some_iff.mp h
    refine mx_cVv (mx_d tX2_walkBest_0 3 rfl) iX2_152 rfl vX2_tallyChosen ⟨_, rfl, rfl⟩ (ly2_o h0) (CX2_tallyChosen h0 h_r32) (by omega) rfl rfl (Nat.le_of_ble_eq_true rfl) ?_
    obtain rfl := Option.some.inj h
    exact mx_return (mx_d tX2_walkBest_0 4 rfl) rfl ⟨rfl, rfl⟩
theorem CX2_walkBest {G : mG} {l : Launch} {e : mE} : ∀ (D : Nat) {a : Nat} {x0 : Int32} {x1 : Int32} {m : mB} {r : mB}, ly2 e a → FX2_walkBest D a x0 x1 m = some r → mx_Call G l MX2_walkBest (5 * D) 0 0 [.ref a, .int x0, .int x1] (e, m) (fun v z => v = none ∧ z = (e, r)) := by
  intro D
  induction D with
  | zero => intro _ _ _ _ _ _ h; cases h
  | succ D ih =>
    intro a x0 x1 m r h0 h
    rw [FX2_walkBest] at h
    have hh := CX2_walkBest_B (rec := FX2_walkBest D) (D := 5 * D) (fun {_ _ _} {_} {_} zh0 hz => ih zh0 hz) h0 h
    rw [show 5 * (D + 1) = 5 * D + 5 by omega]
    exact hh
def FX2_countWanted_L7 (q0 : Nat) : Nat → Int32 → mB → Option (mB)
  | 0, _, _ => none
  | f + 1, y1, m => (if 110 ≤ y1 then (some (m)) else mx_chk (mx_inb y1 110) (mx_let (mx_up m.1 (q0 + 19) (Int32.toNatClampNeg y1) 0, m.2) (fun m3 => mx_let (y1 + 1) (fun v5 => (FX2_countWanted_L7 q0 f v5 m3)))))
set_option maxRecDepth 20000 in
theorem CX2_countWanted_L7 {G : mG} {l : Launch} {e : mE} {Post : Option Value → mS → Prop} {q0 : Nat} (g0 : ly2 e q0) : ∀ (f : Nat) {y1 : Int32} {m : mB} {q : (mB)}, FX2_countWanted_L7 q0 f y1 m = some q → (mx_Fr G l MX2_countWanted 321 0 0 Post 29 [.ref q0, .float 0] [] (e, q)) → mx_Fr G l MX2_countWanted 321 0 0 Post 7 [.ref q0, .int y1] [] (e, m) := by
  intro f
  induction f with
  | zero => intro _ _ _ h; cases h
  | succ f ih =>
    intro y1 m q h hex
    rw [FX2_countWanted_L7] at h
    refine mx_iload_n (mx_d tX2_countWanted_0 5 rfl) rfl rfl ?_
    refine mx_aload_n (mx_d tX2_countWanted_0 6 rfl) rfl rfl ?_
    refine mx_getR (mx_d tX2_countWanted_0 7 rfl) fX2_40 rfl rfl (ly2_o g0) (ly2_r13 g0) ?_
    refine mx_alen 110 (mx_d tX2_countWanted_0 8 rfl) (ly2_s13 g0) (Or.inl rfl) (by decide) ?_
    refine mx_icmp_ge (tgt := 29) (mx_d tX2_countWanted_0 9 rfl) (by decide) (fun hc2 => ?_) (fun hc2 => ?_)
    · rw [if_pos hc2] at h
      obtain rfl := Option.some.inj h
      refine mx_forget (L' := [.ref q0, .float 0]) ⟨rfl, trivial⟩ ?_
      exact hex
    · rw [if_neg hc2] at h
      refine mx_aload_n (mx_d tX2_countWanted_0 10 rfl) rfl rfl ?_
      refine mx_getR (mx_d tX2_countWanted_0 11 rfl) fX2_40 rfl rfl (ly2_o g0) (ly2_r13 g0) ?_
      refine mx_iload_n (mx_d tX2_countWanted_0 12 rfl) rfl rfl ?_
      refine mx_iconst (0) (mx_d tX2_countWanted_0 13 rfl) (by decide) ?_
      obtain ⟨hi4, h⟩ := mx_chkE h
      obtain ⟨m3, e_m3, h⟩ := mx_letE h
      refine mx_iastore (mx_d tX2_countWanted_0 14 rfl) (ly2_s13 g0) (mx_inbE hi4) (mx_eqz (z' := (e, m3)) (by rw [e_m3]) ?_)
      obtain ⟨v5, e_v5, h⟩ := mx_letE h
      refine mx_iinc v5 (L2 := [.ref q0, .int v5]) (mx_d tX2_countWanted_0 15 rfl) rfl (by rw [e_v5]; rfl) (by decide) rfl ?_
      refine mx_goto (tgt := 7) (mx_d tX2_countWanted_0 16 rfl) (by decide) ?_
      exact ih h hex
def FX2_countWanted (a : Nat) (m : mB) : Option (Int32 × mB) := mx_let (mx_up m.1 a 15 0, m.2) (fun m1 => Option.bind (FX2_countWanted_L7 a mx_FU 0 m1) (fun q6 => (if (q6.1 a 11) = 0 then Option.bind (FX2_walkBest 64 a (q6.1 a 3) 0 q6) (fun r8 => (some ((r8.1 a 15), r8))) else (some ((q6.1 a 15), q6)))))
set_option maxRecDepth 20000 in
theorem CX2_countWanted {G : mG} {l : Launch} {e : mE} {a : Nat} {m : mB} {r : (Int32 × mB)} (h0 : ly2 e a) (h : FX2_countWanted a m = some r) : mx_Call G l MX2_countWanted 321 0 0 [.ref a] (e, m) (fun v z => v = some (.int r.1) ∧ z = (e, r.2)) := by
  refine mx_entry (L := [.ref a, .float 0]) (by decide +kernel) (Nat.le_of_ble_eq_true rfl) rfl ?_
  unfold FX2_countWanted at h
  refine mx_aload_n (mx_d tX2_countWanted_0 0 rfl) rfl rfl ?_
  refine mx_iconst (0) (mx_d tX2_countWanted_0 1 rfl) (by decide) ?_
  obtain ⟨m1, e_m1, h⟩ := mx_letE h
  refine mx_putI (mx_d tX2_countWanted_0 2 rfl) fX2_143 rfl ⟨_, rfl, rfl⟩ rfl (ly2_o h0) (mx_eqz (z' := (e, m1)) (by rw [e_m1]) ?_)
  refine mx_iconst (0) (mx_d tX2_countWanted_0 3 rfl) (by decide) ?_
  refine mx_istore_n (L2 := [.ref a, .int 0]) (mx_d tX2_countWanted_0 4 rfl) rfl (by decide) (by rfl) ?_
  obtain ⟨q6, h_q6, h⟩ := Option.bind_eq_some_iff.mp h
  refine CX2_countWanted_L7 h0 mx_FU h_q6 ?_
  refine mx_aload_n (mx_d tX2_countWanted_0 17 rfl) rfl rfl ?_
  refine mx_getI (mx_d tX2_countWanted_0 18 rfl) fX2_146 rfl (Or.inr rfl) (ly2_o h0) ?_
  refine mx_if_ne (tgt := 45) (mx_d tX2_countWanted_0 19 rfl) (by decide) (fun hc7 => ?_) (fun hc7 => ?_)
  · rw [if_neg hc7] at h
    refine mx_aload_n (mx_d tX2_countWanted_0 25 rfl) rfl rfl ?_
    refine mx_getI (mx_d tX2_countWanted_0 26 rfl) fX2_143 rfl (Or.inl rfl) (ly2_o h0) ?_
    obtain rfl := Option.some.inj h
    exact mx_ireturn (mx_d tX2_countWanted_0 27 rfl) rfl ⟨rfl, rfl⟩
  · rw [if_pos hc7] at h
    refine mx_aload_n (mx_d tX2_countWanted_0 20 rfl) rfl rfl ?_
    refine mx_aload_n (mx_d tX2_countWanted_0 21 rfl) rfl rfl ?_
    refine mx_getI (mx_d tX2_countWanted_0 22 rfl) fX2_69 rfl (Or.inl rfl) (ly2_o h0) ?_
    refine mx_iconst (0) (mx_d tX2_countWanted_0 23 rfl) (by decide) ?_
    obtain ⟨r8, h_r8, h⟩ := Option.bind_eq_some_iff.mp h
    refine mx_cVv (mx_d tX2_countWanted_0 24 rfl) iX2_149 rfl vX2_walkBest ⟨_, rfl, rfl⟩ (ly2_o h0) (CX2_walkBest 64 h0 h_r8) (by decide) rfl rfl (Nat.le_of_ble_eq_true rfl) ?_
    refine mx_aload_n (mx_d tX2_countWanted_0 25 rfl) rfl rfl ?_
    refine mx_getI (mx_d tX2_countWanted_0 26 rfl) fX2_143 rfl (Or.inl rfl) (ly2_o h0) ?_
    obtain rfl := Option.some.inj h
    exact mx_ireturn (mx_d tX2_countWanted_0 27 rfl) rfl ⟨rfl, rfl⟩
def FX2_tallyAt (a : Nat) (x0 : Int32) (x1 : Int32) (m : mB) : Option Int32 := (if x0 < 0 then (some 0) else (if 10 ≤ x0 then (some 0) else (if x1 < 0 then (some 0) else (if 11 ≤ x1 then (some 0) else mx_chk (mx_inb ((x0 * 11) + x1) 110) ((some (m.1 (a + 19) (Int32.toNatClampNeg ((x0 * 11) + x1)))))))))
set_option maxRecDepth 20000 in
theorem CX2_tallyAt {G : mG} {l : Launch} {e : mE} {a : Nat} {x0 : Int32} {x1 : Int32} {m : mB} {r : Int32} (h0 : ly2 e a) (h : FX2_tallyAt a x0 x1 m = some r) : mx_Call G l MX2_tallyAt 1 0 0 [.ref a, .int x0, .int x1] (e, m) (fun v z => v = some (.int r) ∧ z = (e, m)) := by
  refine mx_entry (L := [.ref a, .int x0, .int x1]) (by decide +kernel) (Nat.le_of_ble_eq_true rfl) rfl ?_
  unfold FX2_tallyAt at h
  refine mx_iload_n (mx_d tX2_tallyAt_0 0 rfl) rfl rfl ?_
  refine mx_if_lt (tgt := 34) (mx_d tX2_tallyAt_0 1 rfl) (by decide) (fun hc1 => ?_) (fun hc1 => ?_)
  · rw [if_pos hc1] at h
    refine mx_iconst (0) (mx_d tX2_tallyAt_0 19 rfl) (by decide) ?_
    obtain rfl := Option.some.inj h
    exact mx_ireturn (mx_d tX2_tallyAt_0 20 rfl) rfl ⟨rfl, rfl⟩
  · rw [if_neg hc1] at h
    refine mx_iload_n (mx_d tX2_tallyAt_0 2 rfl) rfl rfl ?_
    refine mx_bipush (10) (mx_d tX2_tallyAt_0 3 rfl) (by decide) ?_
    refine mx_icmp_ge (tgt := 34) (mx_d tX2_tallyAt_0 4 rfl) (by decide) (fun hc2 => ?_) (fun hc2 => ?_)
    · rw [if_pos hc2] at h
      refine mx_iconst (0) (mx_d tX2_tallyAt_0 19 rfl) (by decide) ?_
      obtain rfl := Option.some.inj h
      exact mx_ireturn (mx_d tX2_tallyAt_0 20 rfl) rfl ⟨rfl, rfl⟩
    · rw [if_neg hc2] at h
      refine mx_iload_n (mx_d tX2_tallyAt_0 5 rfl) rfl rfl ?_
      refine mx_if_lt (tgt := 34) (mx_d tX2_tallyAt_0 6 rfl) (by decide) (fun hc3 => ?_) (fun hc3 => ?_)
      · rw [if_pos hc3] at h
        refine mx_iconst (0) (mx_d tX2_tallyAt_0 19 rfl) (by decide) ?_
        obtain rfl := Option.some.inj h
        exact mx_ireturn (mx_d tX2_tallyAt_0 20 rfl) rfl ⟨rfl, rfl⟩
      · rw [if_neg hc3] at h
        refine mx_iload_n (mx_d tX2_tallyAt_0 7 rfl) rfl rfl ?_
        refine mx_bipush (11) (mx_d tX2_tallyAt_0 8 rfl) (by decide) ?_
        refine mx_icmp_ge (tgt := 34) (mx_d tX2_tallyAt_0 9 rfl) (by decide) (fun hc4 => ?_) (fun hc4 => ?_)
        · rw [if_pos hc4] at h
          refine mx_iconst (0) (mx_d tX2_tallyAt_0 19 rfl) (by decide) ?_
          obtain rfl := Option.some.inj h
          exact mx_ireturn (mx_d tX2_tallyAt_0 20 rfl) rfl ⟨rfl, rfl⟩
        · rw [if_neg hc4] at h
          refine mx_aload_n (mx_d tX2_tallyAt_0 10 rfl) rfl rfl ?_
          refine mx_getR (mx_d tX2_tallyAt_0 11 rfl) fX2_40 rfl rfl (ly2_o h0) (ly2_r13 h0) ?_
          refine mx_iload_n (mx_d tX2_tallyAt_0 12 rfl) rfl rfl ?_
          refine mx_bipush (11) (mx_d tX2_tallyAt_0 13 rfl) (by decide) ?_
          refine mx_imul (mx_d tX2_tallyAt_0 14 rfl) ?_
          refine mx_iload_n (mx_d tX2_tallyAt_0 15 rfl) rfl rfl ?_
          refine mx_iadd (mx_d tX2_tallyAt_0 16 rfl) ?_
          obtain ⟨hi5, h⟩ := mx_chkE h
          refine mx_iaload (mx_d tX2_tallyAt_0 17 rfl) (ly2_s13 h0) (mx_inbE hi5) ?_
          refine mx_goto (tgt := 35) (mx_d tX2_tallyAt_0 18 rfl) (by decide) ?_
          obtain rfl := Option.some.inj h
          exact mx_ireturn (mx_d tX2_tallyAt_0 20 rfl) rfl ⟨rfl, rfl⟩
def FX2_fateOf_L18 (q0 : Nat) (y1 : Int32) : Nat → Int32 → mB → Option (mB)
  | 0, _, _ => none
  | f + 1, y2, m => (if 30 ≤ y2 then (some (m)) else Option.bind (FX4_fromOf (q0 + 1) y2 m) (fun r10 => Option.bind (FX4_toOf (q0 + 1) y2 m) (fun r11 => Option.bind (FX2_tallyAt q0 r10 r11 m) (fun r12 => (if r12 = 0 then mx_chk (mx_inb y2 30) (mx_let (mx_up m.1 (q0 + 20) (Int32.toNatClampNeg y2) 0, m.2) (fun m21 => mx_let (y2 + 1) (fun v23 => (FX2_fateOf_L18 q0 y1 f v23 m21)))) else (if (m.1 q0 15) ≤ r12 then mx_chk (mx_inb y2 30) (mx_let (mx_up m.1 (q0 + 20) (Int32.toNatClampNeg y2) 2, m.2) (fun m15 => mx_let (y2 + 1) (fun v17 => (FX2_fateOf_L18 q0 y1 f v17 m15)))) else mx_chk (mx_inb y2 30) (mx_let (mx_up m.1 (q0 + 20) (Int32.toNatClampNeg y2) 1, m.2) (fun m18 => mx_let (y2 + 1) (fun v20 => (FX2_fateOf_L18 q0 y1 f v20 m18))))))))))
set_option maxRecDepth 20000 in
theorem CX2_fateOf_L18 {G : mG} {l : Launch} {e : mE} {Post : Option Value → mS → Prop} {q0 : Nat} {y1 : Int32} (g0 : ly2 e q0) : ∀ (f : Nat) {y2 : Int32} {m : mB} {q : (mB)}, FX2_fateOf_L18 q0 y1 f y2 m = some q → (mx_Fr G l MX2_fateOf 322 0 0 Post 78 [.ref q0, .int y1, .float 0, .float 0] [] (e, q)) → mx_Fr G l MX2_fateOf 322 0 0 Post 18 [.ref q0, .int y1, .int y2, .float 0] [] (e, m) := by
  intro f
  induction f with
  | zero => intro _ _ _ h; cases h
  | succ f ih =>
    intro y2 m q h hex
    rw [FX2_fateOf_L18] at h
    refine mx_iload_n (mx_d tX2_fateOf_0 10 rfl) rfl rfl ?_
    refine mx_bipush (30) (mx_d tX2_fateOf_0 11 rfl) (by decide) ?_
    refine mx_icmp_ge (tgt := 78) (mx_d tX2_fateOf_0 12 rfl) (by decide) (fun hc9 => ?_) (fun hc9 => ?_)
    · rw [if_pos hc9] at h
      obtain rfl := Option.some.inj h
      refine mx_forget (L' := [.ref q0, .int y1, .float 0, .float 0]) ⟨rfl, rfl, trivial⟩ ?_
      exact hex
    · rw [if_neg hc9] at h
      refine mx_aload_n (mx_d tX2_fateOf_0 13 rfl) rfl rfl ?_
      refine mx_aload_n (mx_d tX2_fateOf_0 14 rfl) rfl rfl ?_
      refine mx_getR (mx_d tX2_fateOf_0 15 rfl) fX2_12 rfl rfl (ly2_o g0) (ly2_r0 g0) ?_
      refine mx_iload_n (mx_d tX2_fateOf_0 16 rfl) rfl rfl ?_
      obtain ⟨r10, h_r10, h⟩ := Option.bind_eq_some_iff.mp h
      refine mx_cVi (mx_d tX2_fateOf_0 17 rfl) iX2_134 rfl vX4_fromOf ⟨_, rfl, rfl⟩ (ly4_o (ly2_s0 g0)) (CX4_fromOf (ly2_s0 g0) h_r10) (by decide) rfl rfl (Nat.le_of_ble_eq_true rfl) ?_
      refine mx_aload_n (mx_d tX2_fateOf_0 18 rfl) rfl rfl ?_
      refine mx_getR (mx_d tX2_fateOf_0 19 rfl) fX2_12 rfl rfl (ly2_o g0) (ly2_r0 g0) ?_
      refine mx_iload_n (mx_d tX2_fateOf_0 20 rfl) rfl rfl ?_
      obtain ⟨r11, h_r11, h⟩ := Option.bind_eq_some_iff.mp h
      refine mx_cVi (mx_d tX2_fateOf_0 21 rfl) iX2_137 rfl vX4_toOf ⟨_, rfl, rfl⟩ (ly4_o (ly2_s0 g0)) (CX4_toOf (ly2_s0 g0) h_r11) (by decide) rfl rfl (Nat.le_of_ble_eq_true rfl) ?_
      obtain ⟨r12, h_r12, h⟩ := Option.bind_eq_some_iff.mp h
      refine mx_cVi (mx_d tX2_fateOf_0 22 rfl) iX2_140 rfl vX2_tallyAt ⟨_, rfl, rfl⟩ (ly2_o g0) (CX2_tallyAt g0 h_r12) (by decide) rfl rfl (Nat.le_of_ble_eq_true rfl) ?_
      refine mx_istore_n (L2 := [.ref q0, .int y1, .int y2, .int r12]) (mx_d tX2_fateOf_0 23 rfl) rfl (by decide) (by rfl) ?_
      refine mx_aload_n (mx_d tX2_fateOf_0 24 rfl) rfl rfl ?_
      refine mx_getR (mx_d tX2_fateOf_0 25 rfl) fX2_43 rfl rfl (ly2_o g0) (ly2_r14 g0) ?_
      refine mx_iload_n (mx_d tX2_fateOf_0 26 rfl) rfl rfl ?_
      refine mx_iload_n (mx_d tX2_fateOf_0 27 rfl) rfl rfl ?_
      refine mx_if_ne (tgt := 58) (mx_d tX2_fateOf_0 28 rfl) (by decide) (fun hc13 => ?_) (fun hc13 => ?_)
      · rw [if_neg hc13] at h
        refine mx_iload_n (mx_d tX2_fateOf_0 31 rfl) rfl rfl ?_
        refine mx_aload_n (mx_d tX2_fateOf_0 32 rfl) rfl rfl ?_
        refine mx_getI (mx_d tX2_fateOf_0 33 rfl) fX2_143 rfl (Or.inl rfl) (ly2_o g0) ?_
        refine mx_icmp_ge (tgt := 70) (mx_d tX2_fateOf_0 34 rfl) (by decide) (fun hc14 => ?_) (fun hc14 => ?_)
        · rw [if_pos hc14] at h
          refine mx_iconst (2) (mx_d tX2_fateOf_0 37 rfl) (by decide) ?_
          obtain ⟨hi16, h⟩ := mx_chkE h
          obtain ⟨m15, e_m15, h⟩ := mx_letE h
          refine mx_iastore (mx_d tX2_fateOf_0 38 rfl) (ly2_s14 g0) (mx_inbE hi16) (mx_eqz (z' := (e, m15)) (by rw [e_m15]) ?_)
          obtain ⟨v17, e_v17, h⟩ := mx_letE h
          refine mx_iinc v17 (L2 := [.ref q0, .int y1, .int v17, .int r12]) (mx_d tX2_fateOf_0 39 rfl) rfl (by rw [e_v17]; rfl) (by decide) rfl ?_
          refine mx_goto (tgt := 18) (mx_d tX2_fateOf_0 40 rfl) (by decide) ?_
          refine mx_forget (L' := [.ref q0, .int y1, .int v17, .float 0]) ⟨rfl, rfl, rfl, trivial⟩ ?_
          exact ih h hex
        · rw [if_neg hc14] at h
          refine mx_iconst (1) (mx_d tX2_fateOf_0 35 rfl) (by decide) ?_
          refine mx_goto (tgt := 71) (mx_d tX2_fateOf_0 36 rfl) (by decide) ?_
          obtain ⟨hi19, h⟩ := mx_chkE h
          obtain ⟨m18, e_m18, h⟩ := mx_letE h
          refine mx_iastore (mx_d tX2_fateOf_0 38 rfl) (ly2_s14 g0) (mx_inbE hi19) (mx_eqz (z' := (e, m18)) (by rw [e_m18]) ?_)
          obtain ⟨v20, e_v20, h⟩ := mx_letE h
          refine mx_iinc v20 (L2 := [.ref q0, .int y1, .int v20, .int r12]) (mx_d tX2_fateOf_0 39 rfl) rfl (by rw [e_v20]; rfl) (by decide) rfl ?_
          refine mx_goto (tgt := 18) (mx_d tX2_fateOf_0 40 rfl) (by decide) ?_
          refine mx_forget (L' := [.ref q0, .int y1, .int v20, .float 0]) ⟨rfl, rfl, rfl, trivial⟩ ?_
          exact ih h hex
      · rw [if_pos hc13] at h
        refine mx_iconst (0) (mx_d tX2_fateOf_0 29 rfl) (by decide) ?_
        refine mx_goto (tgt := 71) (mx_d tX2_fateOf_0 30 rfl) (by decide) ?_
        obtain ⟨hi22, h⟩ := mx_chkE h
        obtain ⟨m21, e_m21, h⟩ := mx_letE h
        refine mx_iastore (mx_d tX2_fateOf_0 38 rfl) (ly2_s14 g0) (mx_inbE hi22) (mx_eqz (z' := (e, m21)) (by rw [e_m21]) ?_)
        obtain ⟨v23, e_v23, h⟩ := mx_letE h
        refine mx_iinc v23 (L2 := [.ref q0, .int y1, .int v23, .int r12]) (mx_d tX2_fateOf_0 39 rfl) rfl (by rw [e_v23]; rfl) (by decide) rfl ?_
        refine mx_goto (tgt := 18) (mx_d tX2_fateOf_0 40 rfl) (by decide) ?_
        refine mx_forget (L' := [.ref q0, .int y1, .int v23, .float 0]) ⟨rfl, rfl, rfl, trivial⟩ ?_
        exact ih h hex
def FX2_fateOf (a : Nat) (x0 : Int32) (m : mB) : Option (Int32 × mB) := mx_let (fun (m2 : mB) => (if x0 < 0 then (some ((-1), m2)) else (if 30 ≤ x0 then (some ((-1), m2)) else mx_chk (mx_inb x0 30) ((some ((m2.1 (a + 20) (Int32.toNatClampNeg x0)), m2)))))) (fun k3 => (if (m.1 a 2) = 0 then Option.bind (FX2_wantNothing a m) (fun r7 => Option.bind (FX2_countWanted a r7) (fun r8 => Option.bind (FX2_fateOf_L18 a x0 mx_FU 0 r8.2) (fun q24 => mx_let (mx_up q24.1 a 2 1, q24.2) (fun m25 => (k3 m25))))) else (k3 m)))
set_option maxRecDepth 20000 in
theorem CX2_fateOf {G : mG} {l : Launch} {e : mE} {a : Nat} {x0 : Int32} {m : mB} {r : (Int32 × mB)} (h0 : ly2 e a) (h : FX2_fateOf a x0 m = some r) : mx_Call G l MX2_fateOf 322 0 0 [.ref a, .int x0] (e, m) (fun v z => v = some (.int r.1) ∧ z = (e, r.2)) := by
  refine mx_entry (L := [.ref a, .int x0, .float 0, .float 0]) (by decide +kernel) (Nat.le_of_ble_eq_true rfl) rfl ?_
  unfold FX2_fateOf at h
  refine mx_aload_n (mx_d tX2_fateOf_0 0 rfl) rfl rfl ?_
  refine mx_getI (mx_d tX2_fateOf_0 1 rfl) fX2_58 rfl (Or.inr rfl) (ly2_o h0) ?_
  refine mx_letK (J := fun k3 => ∀ {m2 : mB}, k3 m2 = some r → mx_Fr G l MX2_fateOf 322 0 0 (fun v z => v = some (.int r.1) ∧ z = (e, r.2)) 83 [.ref a, .int x0, .float 0, .float 0] [] (e, m2)) h ?_ (fun k3 j_k3 h => ?_)
  · intro m2 h
    dsimp only at h
    refine mx_iload_n (mx_d tX2_fateOf_0 44 rfl) rfl rfl ?_
    refine mx_if_lt (tgt := 102) (mx_d tX2_fateOf_0 45 rfl) (by decide) (fun hc4 => ?_) (fun hc4 => ?_)
    · rw [if_pos hc4] at h
      refine mx_iconst ((-1)) (mx_d tX2_fateOf_0 54 rfl) (by decide) ?_
      obtain rfl := Option.some.inj h
      exact mx_ireturn (mx_d tX2_fateOf_0 55 rfl) rfl ⟨rfl, rfl⟩
    · rw [if_neg hc4] at h
      refine mx_iload_n (mx_d tX2_fateOf_0 46 rfl) rfl rfl ?_
      refine mx_bipush (30) (mx_d tX2_fateOf_0 47 rfl) (by decide) ?_
      refine mx_icmp_ge (tgt := 102) (mx_d tX2_fateOf_0 48 rfl) (by decide) (fun hc5 => ?_) (fun hc5 => ?_)
      · rw [if_pos hc5] at h
        refine mx_iconst ((-1)) (mx_d tX2_fateOf_0 54 rfl) (by decide) ?_
        obtain rfl := Option.some.inj h
        exact mx_ireturn (mx_d tX2_fateOf_0 55 rfl) rfl ⟨rfl, rfl⟩
      · rw [if_neg hc5] at h
        refine mx_aload_n (mx_d tX2_fateOf_0 49 rfl) rfl rfl ?_
        refine mx_getR (mx_d tX2_fateOf_0 50 rfl) fX2_43 rfl rfl (ly2_o h0) (ly2_r14 h0) ?_
        refine mx_iload_n (mx_d tX2_fateOf_0 51 rfl) rfl rfl ?_
        obtain ⟨hi6, h⟩ := mx_chkE h
        refine mx_iaload (mx_d tX2_fateOf_0 52 rfl) (ly2_s14 h0) (mx_inbE hi6) ?_
        refine mx_goto (tgt := 103) (mx_d tX2_fateOf_0 53 rfl) (by decide) ?_
        obtain rfl := Option.some.inj h
        exact mx_ireturn (mx_d tX2_fateOf_0 55 rfl) rfl ⟨rfl, rfl⟩
  refine mx_if_ne (tgt := 83) (mx_d tX2_fateOf_0 2 rfl) (by decide) (fun hc1 => ?_) (fun hc1 => ?_)
  · rw [if_neg hc1] at h
    exact j_k3 h
  · rw [if_pos hc1] at h
    refine mx_aload_n (mx_d tX2_fateOf_0 3 rfl) rfl rfl ?_
    obtain ⟨r7, h_r7, h⟩ := Option.bind_eq_some_iff.mp h
    refine mx_cVv (mx_d tX2_fateOf_0 4 rfl) iX2_128 rfl vX2_wantNothing ⟨_, rfl, rfl⟩ (ly2_o h0) (CX2_wantNothing h0 h_r7) (by decide) rfl rfl (Nat.le_of_ble_eq_true rfl) ?_
    refine mx_aload_n (mx_d tX2_fateOf_0 5 rfl) rfl rfl ?_
    obtain ⟨r8, h_r8, h⟩ := Option.bind_eq_some_iff.mp h
    refine mx_cVi (mx_d tX2_fateOf_0 6 rfl) iX2_131 rfl vX2_countWanted ⟨_, rfl, rfl⟩ (ly2_o h0) (CX2_countWanted h0 h_r8) (by decide) rfl rfl (Nat.le_of_ble_eq_true rfl) ?_
    refine mx_pop (mx_d tX2_fateOf_0 7 rfl) rfl ?_
    refine mx_iconst (0) (mx_d tX2_fateOf_0 8 rfl) (by decide) ?_
    refine mx_istore_n (L2 := [.ref a, .int x0, .int 0, .float 0]) (mx_d tX2_fateOf_0 9 rfl) rfl (by decide) (by rfl) ?_
    obtain ⟨q24, h_q24, h⟩ := Option.bind_eq_some_iff.mp h
    refine CX2_fateOf_L18 h0 mx_FU h_q24 ?_
    refine mx_aload_n (mx_d tX2_fateOf_0 41 rfl) rfl rfl ?_
    refine mx_iconst (1) (mx_d tX2_fateOf_0 42 rfl) (by decide) ?_
    obtain ⟨m25, e_m25, h⟩ := mx_letE h
    refine mx_putZ (mx_d tX2_fateOf_0 43 rfl) fX2_58 rfl ⟨_, rfl, rfl⟩ rfl (by decide) (ly2_o h0) (mx_eqz (z' := (e, m25)) (by rw [e_m25]) ?_)
    exact j_k3 h
def FX2_want (a : Nat) (x0 : Int32) (x1 : Int32) (m : mB) : Option mB := (if x1 = 255 then (if x0 < 0 then mx_let (mx_up m.1 a 11 1, m.2) (fun m13 => (some m13)) else (if 10 ≤ x0 then mx_let (mx_up m.1 a 11 1, m.2) (fun m15 => (some m15)) else mx_chk (mx_inb x0 10) ((if (m.1 (a + 17) (Int32.toNatClampNeg x0)) = (-1) then mx_let (mx_up m.1 (a + 17) (Int32.toNatClampNeg x0) 10, m.2) (fun m18 => (some m18)) else (if (m.1 (a + 17) (Int32.toNatClampNeg x0)) = 10 then mx_let (mx_up m.1 (a + 17) (Int32.toNatClampNeg x0) 10, m.2) (fun m20 => (some m20)) else mx_let (mx_up m.1 a 11 1, m.2) (fun m21 => (some m21))))))) else (if x0 < 0 then mx_let (mx_up m.1 a 11 1, m.2) (fun m3 => (some m3)) else (if 10 ≤ x0 then mx_let (mx_up m.1 a 11 1, m.2) (fun m5 => (some m5)) else mx_chk (mx_inb x0 10) ((if (m.1 (a + 17) (Int32.toNatClampNeg x0)) = (-1) then mx_let (mx_up m.1 (a + 17) (Int32.toNatClampNeg x0) x1, m.2) (fun m8 => (some m8)) else (if (m.1 (a + 17) (Int32.toNatClampNeg x0)) = x1 then mx_let (mx_up m.1 (a + 17) (Int32.toNatClampNeg x0) x1, m.2) (fun m10 => (some m10)) else mx_let (mx_up m.1 a 11 1, m.2) (fun m11 => (some m11))))))))
set_option maxRecDepth 20000 in
theorem CX2_want {G : mG} {l : Launch} {e : mE} {a : Nat} {x0 : Int32} {x1 : Int32} {m : mB} {r : mB} (h0 : ly2 e a) (h : FX2_want a x0 x1 m = some r) : mx_Call G l MX2_want 1 0 0 [.ref a, .int x0, .int x1] (e, m) (fun v z => v = none ∧ z = (e, r)) := by
  refine mx_entry (L := [.ref a, .int x0, .int x1, .float 0]) (by decide +kernel) (Nat.le_of_ble_eq_true rfl) rfl ?_
  unfold FX2_want at h
  refine mx_iload_n (mx_d tX2_want_0 0 rfl) rfl rfl ?_
  refine mx_sipush (255) (mx_d tX2_want_0 1 rfl) (by decide) ?_
  refine mx_icmp_ne (tgt := 12) (mx_d tX2_want_0 2 rfl) (by decide) (fun hc1 => ?_) (fun hc1 => ?_)
  · rw [if_neg hc1] at h
    refine mx_iload_n (mx_d tX2_want_0 5 rfl) rfl rfl ?_
    refine mx_istore_n (L2 := [.ref a, .int x0, .int x1, .int x1]) (mx_d tX2_want_0 6 rfl) rfl (by decide) (by rfl) ?_
    refine mx_iload_n (mx_d tX2_want_0 7 rfl) rfl rfl ?_
    refine mx_if_lt (tgt := 44) (mx_d tX2_want_0 8 rfl) (by decide) (fun hc2 => ?_) (fun hc2 => ?_)
    · rw [if_pos hc2] at h
      refine mx_aload_n (mx_d tX2_want_0 24 rfl) rfl rfl ?_
      refine mx_iconst (1) (mx_d tX2_want_0 25 rfl) (by decide) ?_
      obtain ⟨m3, e_m3, h⟩ := mx_letE h
      refine mx_putZ (mx_d tX2_want_0 26 rfl) fX2_146 rfl ⟨_, rfl, rfl⟩ rfl (by decide) (ly2_o h0) (mx_eqz (z' := (e, m3)) (by rw [e_m3]) ?_)
      obtain rfl := Option.some.inj h
      exact mx_return (mx_d tX2_want_0 27 rfl) rfl ⟨rfl, rfl⟩
    · rw [if_neg hc2] at h
      refine mx_iload_n (mx_d tX2_want_0 9 rfl) rfl rfl ?_
      refine mx_bipush (10) (mx_d tX2_want_0 10 rfl) (by decide) ?_
      refine mx_icmp_ge (tgt := 44) (mx_d tX2_want_0 11 rfl) (by decide) (fun hc4 => ?_) (fun hc4 => ?_)
      · rw [if_pos hc4] at h
        refine mx_aload_n (mx_d tX2_want_0 24 rfl) rfl rfl ?_
        refine mx_iconst (1) (mx_d tX2_want_0 25 rfl) (by decide) ?_
        obtain ⟨m5, e_m5, h⟩ := mx_letE h
        refine mx_putZ (mx_d tX2_want_0 26 rfl) fX2_146 rfl ⟨_, rfl, rfl⟩ rfl (by decide) (ly2_o h0) (mx_eqz (z' := (e, m5)) (by rw [e_m5]) ?_)
        obtain rfl := Option.some.inj h
        exact mx_return (mx_d tX2_want_0 27 rfl) rfl ⟨rfl, rfl⟩
      · rw [if_neg hc4] at h
        refine mx_aload_n (mx_d tX2_want_0 12 rfl) rfl rfl ?_
        refine mx_getR (mx_d tX2_want_0 13 rfl) fX2_34 rfl rfl (ly2_o h0) (ly2_r10 h0) ?_
        refine mx_iload_n (mx_d tX2_want_0 14 rfl) rfl rfl ?_
        obtain ⟨hi6, h⟩ := mx_chkE h
        refine mx_iaload (mx_d tX2_want_0 15 rfl) (ly2_s10 h0) (mx_inbE hi6) ?_
        refine mx_iconst ((-1)) (mx_d tX2_want_0 16 rfl) (by decide) ?_
        refine mx_icmp_eq (tgt := 50) (mx_d tX2_want_0 17 rfl) (by decide) (fun hc7 => ?_) (fun hc7 => ?_)
        · rw [if_pos hc7] at h
          refine mx_aload_n (mx_d tX2_want_0 28 rfl) rfl rfl ?_
          refine mx_getR (mx_d tX2_want_0 29 rfl) fX2_34 rfl rfl (ly2_o h0) (ly2_r10 h0) ?_
          refine mx_iload_n (mx_d tX2_want_0 30 rfl) rfl rfl ?_
          refine mx_iload_n (mx_d tX2_want_0 31 rfl) rfl rfl ?_
          obtain ⟨m8, e_m8, h⟩ := mx_letE h
          refine mx_iastore (mx_d tX2_want_0 32 rfl) (ly2_s10 h0) (mx_inbE hi6) (mx_eqz (z' := (e, m8)) (by rw [e_m8]) ?_)
          obtain rfl := Option.some.inj h
          exact mx_return (mx_d tX2_want_0 33 rfl) rfl ⟨rfl, rfl⟩
        · rw [if_neg hc7] at h
          refine mx_aload_n (mx_d tX2_want_0 18 rfl) rfl rfl ?_
          refine mx_getR (mx_d tX2_want_0 19 rfl) fX2_34 rfl rfl (ly2_o h0) (ly2_r10 h0) ?_
          refine mx_iload_n (mx_d tX2_want_0 20 rfl) rfl rfl ?_
          refine mx_iaload (mx_d tX2_want_0 21 rfl) (ly2_s10 h0) (mx_inbE hi6) ?_
          refine mx_iload_n (mx_d tX2_want_0 22 rfl) rfl rfl ?_
          refine mx_icmp_eq (tgt := 50) (mx_d tX2_want_0 23 rfl) (by decide) (fun hc9 => ?_) (fun hc9 => ?_)
          · rw [if_pos hc9] at h
            refine mx_aload_n (mx_d tX2_want_0 28 rfl) rfl rfl ?_
            refine mx_getR (mx_d tX2_want_0 29 rfl) fX2_34 rfl rfl (ly2_o h0) (ly2_r10 h0) ?_
            refine mx_iload_n (mx_d tX2_want_0 30 rfl) rfl rfl ?_
            refine mx_iload_n (mx_d tX2_want_0 31 rfl) rfl rfl ?_
            obtain ⟨m10, e_m10, h⟩ := mx_letE h
            refine mx_iastore (mx_d tX2_want_0 32 rfl) (ly2_s10 h0) (mx_inbE hi6) (mx_eqz (z' := (e, m10)) (by rw [e_m10]) ?_)
            obtain rfl := Option.some.inj h
            exact mx_return (mx_d tX2_want_0 33 rfl) rfl ⟨rfl, rfl⟩
          · rw [if_neg hc9] at h
            refine mx_aload_n (mx_d tX2_want_0 24 rfl) rfl rfl ?_
            refine mx_iconst (1) (mx_d tX2_want_0 25 rfl) (by decide) ?_
            obtain ⟨m11, e_m11, h⟩ := mx_letE h
            refine mx_putZ (mx_d tX2_want_0 26 rfl) fX2_146 rfl ⟨_, rfl, rfl⟩ rfl (by decide) (ly2_o h0) (mx_eqz (z' := (e, m11)) (by rw [e_m11]) ?_)
            obtain rfl := Option.some.inj h
            exact mx_return (mx_d tX2_want_0 27 rfl) rfl ⟨rfl, rfl⟩
  · rw [if_pos hc1] at h
    refine mx_bipush (10) (mx_d tX2_want_0 3 rfl) (by decide) ?_
    refine mx_goto (tgt := 13) (mx_d tX2_want_0 4 rfl) (by decide) ?_
    refine mx_istore_n (L2 := [.ref a, .int x0, .int x1, .int 10]) (mx_d tX2_want_0 6 rfl) rfl (by decide) (by rfl) ?_
    refine mx_iload_n (mx_d tX2_want_0 7 rfl) rfl rfl ?_
    refine mx_if_lt (tgt := 44) (mx_d tX2_want_0 8 rfl) (by decide) (fun hc12 => ?_) (fun hc12 => ?_)
    · rw [if_pos hc12] at h
      refine mx_aload_n (mx_d tX2_want_0 24 rfl) rfl rfl ?_
      refine mx_iconst (1) (mx_d tX2_want_0 25 rfl) (by decide) ?_
      obtain ⟨m13, e_m13, h⟩ := mx_letE h
      refine mx_putZ (mx_d tX2_want_0 26 rfl) fX2_146 rfl ⟨_, rfl, rfl⟩ rfl (by decide) (ly2_o h0) (mx_eqz (z' := (e, m13)) (by rw [e_m13]) ?_)
      obtain rfl := Option.some.inj h
      exact mx_return (mx_d tX2_want_0 27 rfl) rfl ⟨rfl, rfl⟩
    · rw [if_neg hc12] at h
      refine mx_iload_n (mx_d tX2_want_0 9 rfl) rfl rfl ?_
      refine mx_bipush (10) (mx_d tX2_want_0 10 rfl) (by decide) ?_
      refine mx_icmp_ge (tgt := 44) (mx_d tX2_want_0 11 rfl) (by decide) (fun hc14 => ?_) (fun hc14 => ?_)
      · rw [if_pos hc14] at h
        refine mx_aload_n (mx_d tX2_want_0 24 rfl) rfl rfl ?_
        refine mx_iconst (1) (mx_d tX2_want_0 25 rfl) (by decide) ?_
        obtain ⟨m15, e_m15, h⟩ := mx_letE h
        refine mx_putZ (mx_d tX2_want_0 26 rfl) fX2_146 rfl ⟨_, rfl, rfl⟩ rfl (by decide) (ly2_o h0) (mx_eqz (z' := (e, m15)) (by rw [e_m15]) ?_)
        obtain rfl := Option.some.inj h
        exact mx_return (mx_d tX2_want_0 27 rfl) rfl ⟨rfl, rfl⟩
      · rw [if_neg hc14] at h
        refine mx_aload_n (mx_d tX2_want_0 12 rfl) rfl rfl ?_
        refine mx_getR (mx_d tX2_want_0 13 rfl) fX2_34 rfl rfl (ly2_o h0) (ly2_r10 h0) ?_
        refine mx_iload_n (mx_d tX2_want_0 14 rfl) rfl rfl ?_
        obtain ⟨hi16, h⟩ := mx_chkE h
        refine mx_iaload (mx_d tX2_want_0 15 rfl) (ly2_s10 h0) (mx_inbE hi16) ?_
        refine mx_iconst ((-1)) (mx_d tX2_want_0 16 rfl) (by decide) ?_
        refine mx_icmp_eq (tgt := 50) (mx_d tX2_want_0 17 rfl) (by decide) (fun hc17 => ?_) (fun hc17 => ?_)
        · rw [if_pos hc17] at h
          refine mx_aload_n (mx_d tX2_want_0 28 rfl) rfl rfl ?_
          refine mx_getR (mx_d tX2_want_0 29 rfl) fX2_34 rfl rfl (ly2_o h0) (ly2_r10 h0) ?_
          refine mx_iload_n (mx_d tX2_want_0 30 rfl) rfl rfl ?_
          refine mx_iload_n (mx_d tX2_want_0 31 rfl) rfl rfl ?_
          obtain ⟨m18, e_m18, h⟩ := mx_letE h
          refine mx_iastore (mx_d tX2_want_0 32 rfl) (ly2_s10 h0) (mx_inbE hi16) (mx_eqz (z' := (e, m18)) (by rw [e_m18]) ?_)
          obtain rfl := Option.some.inj h
          exact mx_return (mx_d tX2_want_0 33 rfl) rfl ⟨rfl, rfl⟩
        · rw [if_neg hc17] at h
          refine mx_aload_n (mx_d tX2_want_0 18 rfl) rfl rfl ?_
          refine mx_getR (mx_d tX2_want_0 19 rfl) fX2_34 rfl rfl (ly2_o h0) (ly2_r10 h0) ?_
          refine mx_iload_n (mx_d tX2_want_0 20 rfl) rfl rfl ?_
          refine mx_iaload (mx_d tX2_want_0 21 rfl) (ly2_s10 h0) (mx_inbE hi16) ?_
          refine mx_iload_n (mx_d tX2_want_0 22 rfl) rfl rfl ?_
          refine mx_icmp_eq (tgt := 50) (mx_d tX2_want_0 23 rfl) (by decide) (fun hc19 => ?_) (fun hc19 => ?_)
          · rw [if_pos hc19] at h
            refine mx_aload_n (mx_d tX2_want_0 28 rfl) rfl rfl ?_
            refine mx_getR (mx_d tX2_want_0 29 rfl) fX2_34 rfl rfl (ly2_o h0) (ly2_r10 h0) ?_
            refine mx_iload_n (mx_d tX2_want_0 30 rfl) rfl rfl ?_
            refine mx_iload_n (mx_d tX2_want_0 31 rfl) rfl rfl ?_
            obtain ⟨m20, e_m20, h⟩ := mx_letE h
            refine mx_iastore (mx_d tX2_want_0 32 rfl) (ly2_s10 h0) (mx_inbE hi16) (mx_eqz (z' := (e, m20)) (by rw [e_m20]) ?_)
            obtain rfl := Option.some.inj h
            exact mx_return (mx_d tX2_want_0 33 rfl) rfl ⟨rfl, rfl⟩
          · rw [if_neg hc19] at h
            refine mx_aload_n (mx_d tX2_want_0 24 rfl) rfl rfl ?_
            refine mx_iconst (1) (mx_d tX2_want_0 25 rfl) (by decide) ?_
            obtain ⟨m21, e_m21, h⟩ := mx_letE h
            refine mx_putZ (mx_d tX2_want_0 26 rfl) fX2_146 rfl ⟨_, rfl, rfl⟩ rfl (by decide) (ly2_o h0) (mx_eqz (z' := (e, m21)) (by rw [e_m21]) ?_)
            obtain rfl := Option.some.inj h
            exact mx_return (mx_d tX2_want_0 27 rfl) rfl ⟨rfl, rfl⟩
def FX2_mostTelling_L23 (q0 : Nat) (y1 : Int32) (y2 : Int32) (y3 : Int32) (m : mB) : Nat → Int32 → Int32 → Option (Int32)
  | 0, _, _ => none
  | f + 1, y4, y5 => (if 11 ≤ y5 then (some (y4)) else Option.bind (FX2_tallyAt q0 y3 y5 m) (fun r4 => Option.bind (FJ9_max_7cf53 y4 r4 m) (fun r5 => mx_let (y5 + 1) (fun v6 => (FX2_mostTelling_L23 q0 y1 y2 y3 m f r5 v6)))))
set_option maxRecDepth 20000 in
theorem CX2_mostTelling_L23 {G : mG} {l : Launch} {e : mE} {Post : Option Value → mS → Prop} {q0 : Nat} {y1 : Int32} {y2 : Int32} {y3 : Int32} {m : mB} (g0 : ly2 e q0) : ∀ (f : Nat) {y4 : Int32} {y5 : Int32} {q : (Int32)}, FX2_mostTelling_L23 q0 y1 y2 y3 m f y4 y5 = some q → (mx_Fr G l MX2_mostTelling 2 0 0 Post 50 [.ref q0, .int y1, .int y2, .int y3, .int q, .float 0] [] (e, m)) → mx_Fr G l MX2_mostTelling 2 0 0 Post 23 [.ref q0, .int y1, .int y2, .int y3, .int y4, .int y5] [] (e, m) := by
  intro f
  induction f with
  | zero => intro _ _ _ h; cases h
  | succ f ih =>
    intro y4 y5 q h hex
    rw [FX2_mostTelling_L23] at h
    refine mx_iload (mx_d tX2_mostTelling_0 15 rfl) rfl ?_
    refine mx_bipush (11) (mx_d tX2_mostTelling_0 16 rfl) (by decide) ?_
    refine mx_icmp_ge (tgt := 50) (mx_d tX2_mostTelling_0 17 rfl) (by decide) (fun hc3 => ?_) (fun hc3 => ?_)
    · rw [if_pos hc3] at h
      obtain rfl := Option.some.inj h
      refine mx_forget (L' := [.ref q0, .int y1, .int y2, .int y3, .int y4, .float 0]) ⟨rfl, rfl, rfl, rfl, rfl, trivial⟩ ?_
      exact hex
    · rw [if_neg hc3] at h
      refine mx_iload (mx_d tX2_mostTelling_0 18 rfl) rfl ?_
      refine mx_aload_n (mx_d tX2_mostTelling_0 19 rfl) rfl rfl ?_
      refine mx_iload_n (mx_d tX2_mostTelling_0 20 rfl) rfl rfl ?_
      refine mx_iload (mx_d tX2_mostTelling_0 21 rfl) rfl ?_
      obtain ⟨r4, h_r4, h⟩ := Option.bind_eq_some_iff.mp h
      refine mx_cVi (mx_d tX2_mostTelling_0 22 rfl) iX2_140 rfl vX2_tallyAt ⟨_, rfl, rfl⟩ (ly2_o g0) (CX2_tallyAt g0 h_r4) (by decide) rfl rfl (Nat.le_of_ble_eq_true rfl) ?_
      obtain ⟨r5, h_r5, h⟩ := Option.bind_eq_some_iff.mp h
      refine mx_cSi (mx_d tX2_mostTelling_0 23 rfl) iX2_100 rfl sJ9_max_7cf53 (CJ9_max_7cf53  h_r5) (by decide) rfl rfl (Nat.le_of_ble_eq_true rfl) ?_
      refine mx_istore (L2 := [.ref q0, .int y1, .int y2, .int y3, .int r5, .int y5]) (mx_d tX2_mostTelling_0 24 rfl) (by decide) (by rfl) ?_
      obtain ⟨v6, e_v6, h⟩ := mx_letE h
      refine mx_iinc v6 (L2 := [.ref q0, .int y1, .int y2, .int y3, .int r5, .int v6]) (mx_d tX2_mostTelling_0 25 rfl) rfl (by rw [e_v6]; rfl) (by decide) rfl ?_
      refine mx_goto (tgt := 23) (mx_d tX2_mostTelling_0 26 rfl) (by decide) ?_
      exact ih h hex
def FX2_mostTelling_L6 (q0 : Nat) (m : mB) : Nat → Int32 → Int32 → Int32 → Option (Int32)
  | 0, _, _, _ => none
  | f + 1, y1, y2, y3 => Option.bind (FX4_points (q0 + 1) m) (fun r1 => (if r1 ≤ y3 then (some (y1)) else Option.bind (FX2_mostTelling_L23 q0 y1 y2 y3 m mx_FU 0 0) (fun q7 => (if y1 = (-1) then mx_let (y3 + 1) (fun v9 => (FX2_mostTelling_L6 q0 m f y3 q7 v9)) else (if y2 ≤ q7 then mx_let (y3 + 1) (fun v11 => (FX2_mostTelling_L6 q0 m f y1 y2 v11)) else mx_let (y3 + 1) (fun v12 => (FX2_mostTelling_L6 q0 m f y3 q7 v12)))))))
set_option maxRecDepth 20000 in
theorem CX2_mostTelling_L6 {G : mG} {l : Launch} {e : mE} {Post : Option Value → mS → Prop} {q0 : Nat} {m : mB} (g0 : ly2 e q0) : ∀ (f : Nat) {y1 : Int32} {y2 : Int32} {y3 : Int32} {q : (Int32)}, FX2_mostTelling_L6 q0 m f y1 y2 y3 = some q → (mx_Fr G l MX2_mostTelling 2 0 0 Post 72 [.float 0, .int q, .float 0, .float 0, .float 0, .float 0] [] (e, m)) → mx_Fr G l MX2_mostTelling 2 0 0 Post 6 [.ref q0, .int y1, .int y2, .int y3, .float 0, .float 0] [] (e, m) := by
  intro f
  induction f with
  | zero => intro _ _ _ _ h; cases h
  | succ f ih =>
    intro y1 y2 y3 q h hex
    rw [FX2_mostTelling_L6] at h
    refine mx_iload_n (mx_d tX2_mostTelling_0 6 rfl) rfl rfl ?_
    refine mx_aload_n (mx_d tX2_mostTelling_0 7 rfl) rfl rfl ?_
    refine mx_getR (mx_d tX2_mostTelling_0 8 rfl) fX2_12 rfl rfl (ly2_o g0) (ly2_r0 g0) ?_
    obtain ⟨r1, h_r1, h⟩ := Option.bind_eq_some_iff.mp h
    refine mx_cVi (mx_d tX2_mostTelling_0 9 rfl) iX2_65 rfl vX4_points ⟨_, rfl, rfl⟩ (ly4_o (ly2_s0 g0)) (CX4_points (ly2_s0 g0) h_r1) (by decide) rfl rfl (Nat.le_of_ble_eq_true rfl) ?_
    refine mx_icmp_ge (tgt := 72) (mx_d tX2_mostTelling_0 10 rfl) (by decide) (fun hc2 => ?_) (fun hc2 => ?_)
    · rw [if_pos hc2] at h
      obtain rfl := Option.some.inj h
      refine mx_forget (L' := [.float 0, .int y1, .float 0, .float 0, .float 0, .float 0]) ⟨rfl, trivial⟩ ?_
      exact hex
    · rw [if_neg hc2] at h
      refine mx_iconst (0) (mx_d tX2_mostTelling_0 11 rfl) (by decide) ?_
      refine mx_istore (L2 := [.ref q0, .int y1, .int y2, .int y3, .int 0, .float 0]) (mx_d tX2_mostTelling_0 12 rfl) (by decide) (by rfl) ?_
      refine mx_iconst (0) (mx_d tX2_mostTelling_0 13 rfl) (by decide) ?_
      refine mx_istore (L2 := [.ref q0, .int y1, .int y2, .int y3, .int 0, .int 0]) (mx_d tX2_mostTelling_0 14 rfl) (by decide) (by rfl) ?_
      obtain ⟨q7, h_q7, h⟩ := Option.bind_eq_some_iff.mp h
      refine CX2_mostTelling_L23 g0 mx_FU h_q7 ?_
      refine mx_iload_n (mx_d tX2_mostTelling_0 27 rfl) rfl rfl ?_
      refine mx_iconst ((-1)) (mx_d tX2_mostTelling_0 28 rfl) (by decide) ?_
      refine mx_icmp_eq (tgt := 61) (mx_d tX2_mostTelling_0 29 rfl) (by decide) (fun hc8 => ?_) (fun hc8 => ?_)
      · rw [if_pos hc8] at h
        refine mx_iload_n (mx_d tX2_mostTelling_0 33 rfl) rfl rfl ?_
        refine mx_istore_n (L2 := [.ref q0, .int y3, .int y2, .int y3, .int q7, .float 0]) (mx_d tX2_mostTelling_0 34 rfl) rfl (by decide) (by rfl) ?_
        refine mx_iload (mx_d tX2_mostTelling_0 35 rfl) rfl ?_
        refine mx_istore_n (L2 := [.ref q0, .int y3, .int q7, .int y3, .int q7, .float 0]) (mx_d tX2_mostTelling_0 36 rfl) rfl (by decide) (by rfl) ?_
        obtain ⟨v9, e_v9, h⟩ := mx_letE h
        refine mx_iinc v9 (L2 := [.ref q0, .int y3, .int q7, .int v9, .int q7, .float 0]) (mx_d tX2_mostTelling_0 37 rfl) rfl (by rw [e_v9]; rfl) (by decide) rfl ?_
        refine mx_goto (tgt := 6) (mx_d tX2_mostTelling_0 38 rfl) (by decide) ?_
        refine mx_forget (L' := [.ref q0, .int y3, .int q7, .int v9, .float 0, .float 0]) ⟨rfl, rfl, rfl, rfl, trivial⟩ ?_
        exact ih h hex
      · rw [if_neg hc8] at h
        refine mx_iload (mx_d tX2_mostTelling_0 30 rfl) rfl ?_
        refine mx_iload_n (mx_d tX2_mostTelling_0 31 rfl) rfl rfl ?_
        refine mx_icmp_ge (tgt := 66) (mx_d tX2_mostTelling_0 32 rfl) (by decide) (fun hc10 => ?_) (fun hc10 => ?_)
        · rw [if_pos hc10] at h
          obtain ⟨v11, e_v11, h⟩ := mx_letE h
          refine mx_iinc v11 (L2 := [.ref q0, .int y1, .int y2, .int v11, .int q7, .float 0]) (mx_d tX2_mostTelling_0 37 rfl) rfl (by rw [e_v11]; rfl) (by decide) rfl ?_
          refine mx_goto (tgt := 6) (mx_d tX2_mostTelling_0 38 rfl) (by decide) ?_
          refine mx_forget (L' := [.ref q0, .int y1, .int y2, .int v11, .float 0, .float 0]) ⟨rfl, rfl, rfl, rfl, trivial⟩ ?_
          exact ih h hex
        · rw [if_neg hc10] at h
          refine mx_iload_n (mx_d tX2_mostTelling_0 33 rfl) rfl rfl ?_
          refine mx_istore_n (L2 := [.ref q0, .int y3, .int y2, .int y3, .int q7, .float 0]) (mx_d tX2_mostTelling_0 34 rfl) rfl (by decide) (by rfl) ?_
          refine mx_iload (mx_d tX2_mostTelling_0 35 rfl) rfl ?_
          refine mx_istore_n (L2 := [.ref q0, .int y3, .int q7, .int y3, .int q7, .float 0]) (mx_d tX2_mostTelling_0 36 rfl) rfl (by decide) (by rfl) ?_
          obtain ⟨v12, e_v12, h⟩ := mx_letE h
          refine mx_iinc v12 (L2 := [.ref q0, .int y3, .int q7, .int v12, .int q7, .float 0]) (mx_d tX2_mostTelling_0 37 rfl) rfl (by rw [e_v12]; rfl) (by decide) rfl ?_
          refine mx_goto (tgt := 6) (mx_d tX2_mostTelling_0 38 rfl) (by decide) ?_
          refine mx_forget (L' := [.ref q0, .int y3, .int q7, .int v12, .float 0, .float 0]) ⟨rfl, rfl, rfl, rfl, trivial⟩ ?_
          exact ih h hex
def FX2_mostTelling (a : Nat) (m : mB) : Option Int32 := Option.bind (FX2_mostTelling_L6 a m mx_FU (-1) 0 0) (fun q13 => (some q13))
set_option maxRecDepth 20000 in
theorem CX2_mostTelling {G : mG} {l : Launch} {e : mE} {a : Nat} {m : mB} {r : Int32} (h0 : ly2 e a) (h : FX2_mostTelling a m = some r) : mx_Call G l MX2_mostTelling 2 0 0 [.ref a] (e, m) (fun v z => v = some (.int r) ∧ z = (e, m)) := by
  refine mx_entry (L := [.ref a, .float 0, .float 0, .float 0, .float 0, .float 0]) (by decide +kernel) (Nat.le_of_ble_eq_true rfl) rfl ?_
  unfold FX2_mostTelling at h
  refine mx_iconst ((-1)) (mx_d tX2_mostTelling_0 0 rfl) (by decide) ?_
  refine mx_istore_n (L2 := [.ref a, .int (-1), .float 0, .float 0, .float 0, .float 0]) (mx_d tX2_mostTelling_0 1 rfl) rfl (by decide) (by rfl) ?_
  refine mx_iconst (0) (mx_d tX2_mostTelling_0 2 rfl) (by decide) ?_
  refine mx_istore_n (L2 := [.ref a, .int (-1), .int 0, .float 0, .float 0, .float 0]) (mx_d tX2_mostTelling_0 3 rfl) rfl (by decide) (by rfl) ?_
  refine mx_iconst (0) (mx_d tX2_mostTelling_0 4 rfl) (by decide) ?_
  refine mx_istore_n (L2 := [.ref a, .int (-1), .int 0, .int 0, .float 0, .float 0]) (mx_d tX2_mostTelling_0 5 rfl) rfl (by decide) (by rfl) ?_
  obtain ⟨q13, h_q13, h⟩ := Option.bind_eq_some_iff.mp h
  refine CX2_mostTelling_L6 h0 mx_FU h_q13 ?_
  refine mx_iload_n (mx_d tX2_mostTelling_0 39 rfl) rfl rfl ?_
  obtain rfl := Option.some.inj h
  exact mx_ireturn (mx_d tX2_mostTelling_0 40 rfl) rfl ⟨rfl, rfl⟩
