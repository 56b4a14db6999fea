def FX0_toldOf (a : Nat) (x0 : Int32) (m : mB) : Option Int32 := (if (m.1 a 5) = 0 then (some (-1)) else (if x0 = 0 then (some (m.1 a 6)) else if x0 = 1 then (some (m.1 a 7)) else if x0 = 2 then (some (m.1 a 8)) else if x0 = 3 then (some (m.1 a 9)) else (some (-1))))
set_option maxRecDepth 20000 in
theorem CX0_toldOf {G : mG} {l : Launch} {e : mE} {a : Nat} {x0 : Int32} {m : mB} {r : Int32} (h0 : ly0 e a) (h : FX0_toldOf a x0 m = some r) : mx_Call G l MX0_toldOf 1 0 0 [.ref a, .int x0] (e, m) (fun v z => v = some (.int r) ∧ z = (e, m)) := by
  refine mx_entry (L := [.ref a, .int x0]) (by decide +kernel) (Nat.le_of_ble_eq_true rfl) rfl ?_
  unfold FX0_toldOf at h
  refine mx_aload_n (mx_d tX0_toldOf_0 0 rfl) rfl rfl ?_
  refine mx_getI (mx_d tX0_toldOf_0 1 rfl) fX0_24 rfl (Or.inr rfl) (ly0_o h0) ?_
  refine mx_if_ne (tgt := 9) (mx_d tX0_toldOf_0 2 rfl) (by decide) (fun hc1 => ?_) (fun hc1 => ?_)
  · rw [if_neg hc1] at h
    refine mx_iload_n (mx_d tX0_toldOf_0 5 rfl) rfl rfl ?_
    by_cases hc2 : x0 = 0
    · rw [if_pos hc2] at h
      refine mx_tableIn (tgt := 40) (mx_d tX0_toldOf_0 6 rfl) (by rw [hc2]; decide) (by rw [hc2]; decide) (by rw [hc2]; rfl) (by decide) ?_
      refine mx_aload_n (mx_d tX0_toldOf_0 7 rfl) rfl rfl ?_
      refine mx_getI (mx_d tX0_toldOf_0 8 rfl) fX0_28 rfl (Or.inl rfl) (ly0_o h0) ?_
      obtain rfl := Option.some.inj h
      exact mx_ireturn (mx_d tX0_toldOf_0 9 rfl) rfl ⟨rfl, rfl⟩
    · rw [if_neg hc2] at h
      by_cases hc3 : x0 = 1
      · rw [if_pos hc3] at h
        refine mx_tableIn (tgt := 45) (mx_d tX0_toldOf_0 6 rfl) (by rw [hc3]; decide) (by rw [hc3]; decide) (by rw [hc3]; rfl) (by decide) ?_
        refine mx_aload_n (mx_d tX0_toldOf_0 10 rfl) rfl rfl ?_
        refine mx_getI (mx_d tX0_toldOf_0 11 rfl) fX0_32 rfl (Or.inl rfl) (ly0_o h0) ?_
        obtain rfl := Option.some.inj h
        exact mx_ireturn (mx_d tX0_toldOf_0 12 rfl) rfl ⟨rfl, rfl⟩
      · rw [if_neg hc3] at h
        by_cases hc4 : x0 = 2
        · rw [if_pos hc4] at h
          refine mx_tableIn (tgt := 50) (mx_d tX0_toldOf_0 6 rfl) (by rw [hc4]; decide) (by rw [hc4]; decide) (by rw [hc4]; rfl) (by decide) ?_
          refine mx_aload_n (mx_d tX0_toldOf_0 13 rfl) rfl rfl ?_
          refine mx_getI (mx_d tX0_toldOf_0 14 rfl) fX0_35 rfl (Or.inl rfl) (ly0_o h0) ?_
          obtain rfl := Option.some.inj h
          exact mx_ireturn (mx_d tX0_toldOf_0 15 rfl) rfl ⟨rfl, rfl⟩
        · rw [if_neg hc4] at h
          by_cases hc5 : x0 = 3
          · rw [if_pos hc5] at h
            refine mx_tableIn (tgt := 55) (mx_d tX0_toldOf_0 6 rfl) (by rw [hc5]; decide) (by rw [hc5]; decide) (by rw [hc5]; rfl) (by decide) ?_
            refine mx_aload_n (mx_d tX0_toldOf_0 16 rfl) rfl rfl ?_
            refine mx_getI (mx_d tX0_toldOf_0 17 rfl) fX0_38 rfl (Or.inl rfl) (ly0_o h0) ?_
            obtain rfl := Option.some.inj h
            exact mx_ireturn (mx_d tX0_toldOf_0 18 rfl) rfl ⟨rfl, rfl⟩
          · rw [if_neg hc5] at h
            have z_hc2 := lv_neT hc2 (a := 0) (by decide)
            have z_hc3 := lv_neT hc3 (a := 1) (by decide)
            have z_hc4 := lv_neT hc4 (a := 2) (by decide)
            have z_hc5 := lv_neT hc5 (a := 3) (by decide)
            refine mx_tableOut (tgt := 60) (mx_d tX0_toldOf_0 6 rfl) (by omega) (by decide) ?_
            refine mx_iconst ((-1)) (mx_d tX0_toldOf_0 19 rfl) (by decide) ?_
            obtain rfl := Option.some.inj h
            exact mx_ireturn (mx_d tX0_toldOf_0 20 rfl) rfl ⟨rfl, rfl⟩
  · rw [if_pos hc1] at h
    refine mx_iconst ((-1)) (mx_d tX0_toldOf_0 3 rfl) (by decide) ?_
    obtain rfl := Option.some.inj h
    exact mx_ireturn (mx_d tX0_toldOf_0 4 rfl) rfl ⟨rfl, rfl⟩
def FX10_signAt (a : Nat) (x0 : Int32) (m : mB) : Option Int32 := (if x0 < 0 then (some (-1)) else (if (m.1 a 2) ≤ x0 then (some (-1)) else (if 940 ≤ x0 then (some (-1)) else mx_chk (mx_inb x0 940) ((some (m.1 (a + 1) (Int32.toNatClampNeg x0)))))))
set_option maxRecDepth 20000 in
theorem CX10_signAt {G : mG} {l : Launch} {e : mE} {a : Nat} {x0 : Int32} {m : mB} {r : Int32} (h0 : ly10 e a) (h : FX10_signAt a x0 m = some r) : mx_Call G l MX10_signAt 1 0 0 [.ref a, .int x0] (e, m) (fun v z => v = some (.int r) ∧ z = (e, m)) := by
  refine mx_entry (L := [.ref a, .int x0]) (by decide +kernel) (Nat.le_of_ble_eq_true rfl) rfl ?_
  unfold FX10_signAt at h
  refine mx_iload_n (mx_d tX10_signAt_0 0 rfl) rfl rfl ?_
  refine mx_if_lt (tgt := 28) (mx_d tX10_signAt_0 1 rfl) (by decide) (fun hc1 => ?_) (fun hc1 => ?_)
  · rw [if_pos hc1] at h
    refine mx_iconst ((-1)) (mx_d tX10_signAt_0 14 rfl) (by decide) ?_
    obtain rfl := Option.some.inj h
    exact mx_ireturn (mx_d tX10_signAt_0 15 rfl) rfl ⟨rfl, rfl⟩
  · rw [if_neg hc1] at h
    refine mx_iload_n (mx_d tX10_signAt_0 2 rfl) rfl rfl ?_
    refine mx_aload_n (mx_d tX10_signAt_0 3 rfl) rfl rfl ?_
    refine mx_getI (mx_d tX10_signAt_0 4 rfl) fX10_33 rfl (Or.inl rfl) (ly10_o h0) ?_
    refine mx_icmp_ge (tgt := 28) (mx_d tX10_signAt_0 5 rfl) (by decide) (fun hc2 => ?_) (fun hc2 => ?_)
    · rw [if_pos hc2] at h
      refine mx_iconst ((-1)) (mx_d tX10_signAt_0 14 rfl) (by decide) ?_
      obtain rfl := Option.some.inj h
      exact mx_ireturn (mx_d tX10_signAt_0 15 rfl) rfl ⟨rfl, rfl⟩
    · rw [if_neg hc2] at h
      refine mx_iload_n (mx_d tX10_signAt_0 6 rfl) rfl rfl ?_
      refine mx_sipush (940) (mx_d tX10_signAt_0 7 rfl) (by decide) ?_
      refine mx_icmp_ge (tgt := 28) (mx_d tX10_signAt_0 8 rfl) (by decide) (fun hc3 => ?_) (fun hc3 => ?_)
      · rw [if_pos hc3] at h
        refine mx_iconst ((-1)) (mx_d tX10_signAt_0 14 rfl) (by decide) ?_
        obtain rfl := Option.some.inj h
        exact mx_ireturn (mx_d tX10_signAt_0 15 rfl) rfl ⟨rfl, rfl⟩
      · rw [if_neg hc3] at h
        refine mx_aload_n (mx_d tX10_signAt_0 9 rfl) rfl rfl ?_
        refine mx_getR (mx_d tX10_signAt_0 10 rfl) fX10_9 rfl rfl (ly10_o h0) (ly10_r0 h0) ?_
        refine mx_iload_n (mx_d tX10_signAt_0 11 rfl) rfl rfl ?_
        obtain ⟨hi4, h⟩ := mx_chkE h
        refine mx_iaload (mx_d tX10_signAt_0 12 rfl) (ly10_s0 h0) (mx_inbE hi4) ?_
        refine mx_goto (tgt := 29) (mx_d tX10_signAt_0 13 rfl) (by decide) ?_
        obtain rfl := Option.some.inj h
        exact mx_ireturn (mx_d tX10_signAt_0 15 rfl) rfl ⟨rfl, rfl⟩
def FX10_readChunk_L9 (q0 : Nat) : Nat → Int32 → Int32 → Int64 → Int32 → mB → Option (Int32 × Int32 × Int64 × Int32 × mB)
  | 0, _, _, _, _, _ => none
  | f + 1, y1, y2, y3, y5, m => (if (m.1 q0 4) < 0 then (some ((y1, y2, y3, y5, m))) else (if (m.1 q0 2) ≤ (m.1 q0 4) then (some ((y1, y2, y3, y5, m))) else (if 940 ≤ (m.1 q0 4) then (some ((y1, y2, y3, y5, m))) else mx_chk (mx_inb (m.1 q0 4) 940) (mx_let (m.1 (q0 + 1) (Int32.toNatClampNeg (m.1 q0 4))) (fun v5 => mx_let (fun (y7 : Int32) (y8 : Int64) => (if v5 < 48 then (some ((y7, y2, y8, y5, m))) else (if 57 < v5 then (some ((y7, y2, y8, y5, m))) else mx_let (y2 + 1) (fun v12 => mx_let ((y5 * 10) + (v5 - 48)) (fun v13 => mx_let (mx_up m.1 q0 4 ((m.1 q0 4) + 1), m.2) (fun m14 => (FX10_readChunk_L9 q0 f y7 v12 y8 v13 m14))))))) (fun k9 => (if v5 < 97 then (k9 y1 y3) else (if 122 < v5 then (k9 y1 y3) else mx_let (y1 + 1) (fun v16 => mx_let ((y3 * 32) + (Int32.toInt64 ((v5 - 97) + 1))) (fun v17 => mx_let (mx_up m.1 q0 4 ((m.1 q0 4) + 1), m.2) (fun m18 => (FX10_readChunk_L9 q0 f v16 y2 v17 y5 m18))))))))))))
set_option maxRecDepth 20000 in
theorem CX10_readChunk_L9 {G : mG} {l : Launch} {e : mE} {Post : Option Value → mS → Prop} {q0 : Nat} (g0 : ly10 e q0) : ∀ (f : Nat) {y1 : Int32} {y2 : Int32} {y3 : Int64} {y5 : Int32} {m : mB} {q : (Int32 × Int32 × Int64 × Int32 × mB)}, FX10_readChunk_L9 q0 f y1 y2 y3 y5 m = some q → (mx_Fr G l MX10_readChunk 1 0 0 Post 126 [.ref q0, .int q.1, .int q.2.1, .long q.2.2.1, .float 0, .int q.2.2.2.1, .float 0] [] (e, q.2.2.2.2)) → mx_Fr G l MX10_readChunk 1 0 0 Post 9 [.ref q0, .int y1, .int y2, .long y3, .float 0, .int y5, .float 0] [] (e, m) := by
  intro f
  induction f with
  | zero => intro _ _ _ _ _ _ h; cases h
  | succ f ih =>
    intro y1 y2 y3 y5 m q h hex
    rw [FX10_readChunk_L9] at h
    refine mx_aload_n (mx_d tX10_readChunk_0 8 rfl) rfl rfl ?_
    refine mx_getI (mx_d tX10_readChunk_0 9 rfl) fX10_62 rfl (Or.inl rfl) (ly10_o g0) ?_
    refine mx_if_lt (tgt := 126) (mx_d tX10_readChunk_0 10 rfl) (by decide) (fun hc1 => ?_) (fun hc1 => ?_)
    · rw [if_pos hc1] at h
      obtain rfl := Option.some.inj h
      exact hex
    · rw [if_neg hc1] at h
      refine mx_aload_n (mx_d tX10_readChunk_0 11 rfl) rfl rfl ?_
      refine mx_getI (mx_d tX10_readChunk_0 12 rfl) fX10_62 rfl (Or.inl rfl) (ly10_o g0) ?_
      refine mx_aload_n (mx_d tX10_readChunk_0 13 rfl) rfl rfl ?_
      refine mx_getI (mx_d tX10_readChunk_0 14 rfl) fX10_33 rfl (Or.inl rfl) (ly10_o g0) ?_
      refine mx_icmp_ge (tgt := 126) (mx_d tX10_readChunk_0 15 rfl) (by decide) (fun hc2 => ?_) (fun hc2 => ?_)
      · rw [if_pos hc2] at h
        obtain rfl := Option.some.inj h
        exact hex
      · rw [if_neg hc2] at h
        refine mx_aload_n (mx_d tX10_readChunk_0 16 rfl) rfl rfl ?_
        refine mx_getI (mx_d tX10_readChunk_0 17 rfl) fX10_62 rfl (Or.inl rfl) (ly10_o g0) ?_
        refine mx_sipush (940) (mx_d tX10_readChunk_0 18 rfl) (by decide) ?_
        refine mx_icmp_ge (tgt := 126) (mx_d tX10_readChunk_0 19 rfl) (by decide) (fun hc3 => ?_) (fun hc3 => ?_)
        · rw [if_pos hc3] at h
          obtain rfl := Option.some.inj h
          exact hex
        · rw [if_neg hc3] at h
          refine mx_aload_n (mx_d tX10_readChunk_0 20 rfl) rfl rfl ?_
          refine mx_getR (mx_d tX10_readChunk_0 21 rfl) fX10_9 rfl rfl (ly10_o g0) (ly10_r0 g0) ?_
          refine mx_aload_n (mx_d tX10_readChunk_0 22 rfl) rfl rfl ?_
          refine mx_getI (mx_d tX10_readChunk_0 23 rfl) fX10_62 rfl (Or.inl rfl) (ly10_o g0) ?_
          obtain ⟨hi4, h⟩ := mx_chkE h
          refine mx_iaload (mx_d tX10_readChunk_0 24 rfl) (ly10_s0 g0) (mx_inbE hi4) ?_
          obtain ⟨v5, e_v5, h⟩ := mx_letE h
          refine mx_istore (L2 := [.ref q0, .int y1, .int y2, .long y3, .float 0, .int y5, .int v5]) (mx_d tX10_readChunk_0 25 rfl) (by decide) (by rw [e_v5]; rfl) ?_
          refine mx_iload (mx_d tX10_readChunk_0 26 rfl) rfl ?_
          refine mx_bipush (97) (mx_d tX10_readChunk_0 27 rfl) (by decide) ?_
          refine mx_letK (J := fun k9 => ∀ {y7 : Int32} {y8 : Int64}, k9 y7 y8 = some q → mx_Fr G l MX10_readChunk 1 0 0 Post 83 [.ref q0, .int y7, .int y2, .long y8, .float 0, .int y5, .int v5] [] (e, m)) h ?_ (fun k9 j_k9 h => ?_)
          · intro y7 y8 h
            dsimp only at h
            refine mx_iload (mx_d tX10_readChunk_0 45 rfl) rfl ?_
            refine mx_bipush (48) (mx_d tX10_readChunk_0 46 rfl) (by decide) ?_
            refine mx_icmp_lt (tgt := 126) (mx_d tX10_readChunk_0 47 rfl) (by decide) (fun hc10 => ?_) (fun hc10 => ?_)
            · rw [if_pos hc10] at h
              obtain rfl := Option.some.inj h
              refine mx_forget (L' := [.ref q0, .int y7, .int y2, .long y8, .float 0, .int y5, .float 0]) ⟨rfl, rfl, rfl, rfl, rfl, trivial⟩ ?_
              exact hex
            · rw [if_neg hc10] at h
              refine mx_iload (mx_d tX10_readChunk_0 48 rfl) rfl ?_
              refine mx_bipush (57) (mx_d tX10_readChunk_0 49 rfl) (by decide) ?_
              refine mx_icmp_gt (tgt := 126) (mx_d tX10_readChunk_0 50 rfl) (by decide) (fun hc11 => ?_) (fun hc11 => ?_)
              · rw [if_pos hc11] at h
                obtain rfl := Option.some.inj h
                refine mx_forget (L' := [.ref q0, .int y7, .int y2, .long y8, .float 0, .int y5, .float 0]) ⟨rfl, rfl, rfl, rfl, rfl, trivial⟩ ?_
                exact hex
              · rw [if_neg hc11] at h
                obtain ⟨v12, e_v12, h⟩ := mx_letE h
                refine mx_iinc v12 (L2 := [.ref q0, .int y7, .int v12, .long y8, .float 0, .int y5, .int v5]) (mx_d tX10_readChunk_0 51 rfl) rfl (by rw [e_v12]; rfl) (by decide) rfl ?_
                refine mx_iload (mx_d tX10_readChunk_0 52 rfl) rfl ?_
                refine mx_bipush (10) (mx_d tX10_readChunk_0 53 rfl) (by decide) ?_
                refine mx_imul (mx_d tX10_readChunk_0 54 rfl) ?_
                refine mx_iload (mx_d tX10_readChunk_0 55 rfl) rfl ?_
                refine mx_bipush (48) (mx_d tX10_readChunk_0 56 rfl) (by decide) ?_
                refine mx_isub (mx_d tX10_readChunk_0 57 rfl) ?_
                refine mx_iadd (mx_d tX10_readChunk_0 58 rfl) ?_
                obtain ⟨v13, e_v13, h⟩ := mx_letE h
                refine mx_istore (L2 := [.ref q0, .int y7, .int v12, .long y8, .float 0, .int v13, .int v5]) (mx_d tX10_readChunk_0 59 rfl) (by decide) (by rw [e_v13]; rfl) ?_
                refine mx_aload_n (mx_d tX10_readChunk_1 0 rfl) rfl rfl ?_
                refine mx_dup (mx_d tX10_readChunk_1 1 rfl) rfl ?_
                refine mx_getI (mx_d tX10_readChunk_1 2 rfl) fX10_62 rfl (Or.inl rfl) (ly10_o g0) ?_
                refine mx_iconst (1) (mx_d tX10_readChunk_1 3 rfl) (by decide) ?_
                refine mx_iadd (mx_d tX10_readChunk_1 4 rfl) ?_
                obtain ⟨m14, e_m14, h⟩ := mx_letE h
                refine mx_putI (mx_d tX10_readChunk_1 5 rfl) fX10_62 rfl ⟨_, rfl, rfl⟩ rfl (ly10_o g0) (mx_eqz (z' := (e, m14)) (by rw [e_m14]) ?_)
                refine mx_goto (tgt := 9) (mx_d tX10_readChunk_1 6 rfl) (by decide) ?_
                refine mx_forget (L' := [.ref q0, .int y7, .int v12, .long y8, .float 0, .int v13, .float 0]) ⟨rfl, rfl, rfl, rfl, rfl, trivial⟩ ?_
                exact ih h hex
          refine mx_icmp_lt (tgt := 83) (mx_d tX10_readChunk_0 28 rfl) (by decide) (fun hc6 => ?_) (fun hc6 => ?_)
          · rw [if_pos hc6] at h
            exact j_k9 h
          · rw [if_neg hc6] at h
            refine mx_iload (mx_d tX10_readChunk_0 29 rfl) rfl ?_
            refine mx_bipush (122) (mx_d tX10_readChunk_0 30 rfl) (by decide) ?_
            refine mx_icmp_gt (tgt := 83) (mx_d tX10_readChunk_0 31 rfl) (by decide) (fun hc15 => ?_) (fun hc15 => ?_)
            · rw [if_pos hc15] at h
              exact j_k9 h
            · rw [if_neg hc15] at h
              obtain ⟨v16, e_v16, h⟩ := mx_letE h
              refine mx_iinc v16 (L2 := [.ref q0, .int v16, .int y2, .long y3, .float 0, .int y5, .int v5]) (mx_d tX10_readChunk_0 32 rfl) rfl (by rw [e_v16]; rfl) (by decide) rfl ?_
              refine mx_lload_n (mx_d tX10_readChunk_0 33 rfl) rfl rfl ?_
              refine mx_ldc2 (32) (mx_d tX10_readChunk_0 34 rfl) cX10_31 ?_
              refine mx_lmul (mx_d tX10_readChunk_0 35 rfl) ?_
              refine mx_iload (mx_d tX10_readChunk_0 36 rfl) rfl ?_
              refine mx_bipush (97) (mx_d tX10_readChunk_0 37 rfl) (by decide) ?_
              refine mx_isub (mx_d tX10_readChunk_0 38 rfl) ?_
              refine mx_iconst (1) (mx_d tX10_readChunk_0 39 rfl) (by decide) ?_
              refine mx_iadd (mx_d tX10_readChunk_0 40 rfl) ?_
              refine mx_i2l (mx_d tX10_readChunk_0 41 rfl) ?_
              refine mx_ladd (mx_d tX10_readChunk_0 42 rfl) ?_
              obtain ⟨v17, e_v17, h⟩ := mx_letE h
              refine mx_lstore_n (L2 := [.ref q0, .int v16, .int y2, .long v17, .float 0, .int y5, .int v5]) (mx_d tX10_readChunk_0 43 rfl) rfl (by decide) (by rw [e_v17]; rfl) ?_
              refine mx_goto (tgt := 113) (mx_d tX10_readChunk_0 44 rfl) (by decide) ?_
              refine mx_aload_n (mx_d tX10_readChunk_1 0 rfl) rfl rfl ?_
              refine mx_dup (mx_d tX10_readChunk_1 1 rfl) rfl ?_
              refine mx_getI (mx_d tX10_readChunk_1 2 rfl) fX10_62 rfl (Or.inl rfl) (ly10_o g0) ?_
              refine mx_iconst (1) (mx_d tX10_readChunk_1 3 rfl) (by decide) ?_
              refine mx_iadd (mx_d tX10_readChunk_1 4 rfl) ?_
              obtain ⟨m18, e_m18, h⟩ := mx_letE h
              refine mx_putI (mx_d tX10_readChunk_1 5 rfl) fX10_62 rfl ⟨_, rfl, rfl⟩ rfl (ly10_o g0) (mx_eqz (z' := (e, m18)) (by rw [e_m18]) ?_)
              refine mx_goto (tgt := 9) (mx_d tX10_readChunk_1 6 rfl) (by decide) ?_
              refine mx_forget (L' := [.ref q0, .int v16, .int y2, .long v17, .float 0, .int y5, .float 0]) ⟨rfl, rfl, rfl, rfl, rfl, trivial⟩ ?_
              exact ih h hex
def FX10_readChunk_L154 (q0 : Nat) (y3 : Int64) : Nat → Int32 → mB → Option (mB)
  | 0, _, _ => none
  | f + 1, y6, m => (if 22 ≤ y6 then (some (m)) else mx_chk (mx_inb y6 22) ((if (lg_cmp (m.2 (q0 + 2) (Int32.toNatClampNeg y6)) y3) = 0 then mx_let (mx_up m.1 q0 6 (100 + y6), m.2) (fun m35 => mx_let (y6 + 1) (fun v36 => (FX10_readChunk_L154 q0 y3 f v36 m35))) else mx_let (y6 + 1) (fun v34 => (FX10_readChunk_L154 q0 y3 f v34 m)))))
set_option maxRecDepth 20000 in
theorem CX10_readChunk_L154 {G : mG} {l : Launch} {e : mE} {Post : Option Value → mS → Prop} {q0 : Nat} {y3 : Int64} (g0 : ly10 e q0) : ∀ (f : Nat) {y6 : Int32} {m : mB} {q : (mB)}, FX10_readChunk_L154 q0 y3 f y6 m = some q → (mx_Fr G l MX10_readChunk 1 0 0 Post 188 [.float 0, .float 0, .float 0, .float 0, .float 0, .float 0, .float 0] [] (e, q)) → mx_Fr G l MX10_readChunk 1 0 0 Post 154 [.ref q0, .float 0, .float 0, .long y3, .float 0, .float 0, .int y6] [] (e, m) := by
  intro f
  induction f with
  | zero => intro _ _ _ h; cases h
  | succ f ih =>
    intro y6 m q h hex
    rw [FX10_readChunk_L154] at h
    refine mx_iload (mx_d tX10_readChunk_1 23 rfl) rfl ?_
    refine mx_bipush (22) (mx_d tX10_readChunk_1 24 rfl) (by decide) ?_
    refine mx_icmp_ge (tgt := 188) (mx_d tX10_readChunk_1 25 rfl) (by decide) (fun hc31 => ?_) (fun hc31 => ?_)
    · rw [if_pos hc31] at h
      obtain rfl := Option.some.inj h
      refine mx_forget (L' := [.float 0, .float 0, .float 0, .float 0, .float 0, .float 0, .float 0]) trivial ?_
      exact hex
    · rw [if_neg hc31] at h
      refine mx_aload_n (mx_d tX10_readChunk_1 26 rfl) rfl rfl ?_
      refine mx_getR (mx_d tX10_readChunk_1 27 rfl) fX10_15 rfl rfl (ly10_o g0) (ly10_r1 g0) ?_
      refine mx_iload (mx_d tX10_readChunk_1 28 rfl) rfl ?_
      obtain ⟨hi32, h⟩ := mx_chkE h
      refine mx_laload (mx_d tX10_readChunk_1 29 rfl) (ly10_s1 g0) (mx_inbE hi32) ?_
      refine mx_lload_n (mx_d tX10_readChunk_1 30 rfl) rfl rfl ?_
      refine mx_lcmp (mx_d tX10_readChunk_1 31 rfl) ?_
      refine mx_if_ne (tgt := 182) (mx_d tX10_readChunk_1 32 rfl) (by decide) (fun hc33 => ?_) (fun hc33 => ?_)
      · rw [if_neg hc33] at h
        obtain ⟨v34, e_v34, h⟩ := mx_letE h
        refine mx_iinc v34 (L2 := [.ref q0, .float 0, .float 0, .long y3, .float 0, .float 0, .int v34]) (mx_d tX10_readChunk_1 38 rfl) rfl (by rw [e_v34]; rfl) (by decide) rfl ?_
        refine mx_goto (tgt := 154) (mx_d tX10_readChunk_1 39 rfl) (by decide) ?_
        exact ih h hex
      · rw [if_pos hc33] at h
        refine mx_aload_n (mx_d tX10_readChunk_1 33 rfl) rfl rfl ?_
        refine mx_bipush (100) (mx_d tX10_readChunk_1 34 rfl) (by decide) ?_
        refine mx_iload (mx_d tX10_readChunk_1 35 rfl) rfl ?_
        refine mx_iadd (mx_d tX10_readChunk_1 36 rfl) ?_
        obtain ⟨m35, e_m35, h⟩ := mx_letE h
        refine mx_putI (mx_d tX10_readChunk_1 37 rfl) fX10_42 rfl ⟨_, rfl, rfl⟩ rfl (ly10_o g0) (mx_eqz (z' := (e, m35)) (by rw [e_m35]) ?_)
        obtain ⟨v36, e_v36, h⟩ := mx_letE h
        refine mx_iinc v36 (L2 := [.ref q0, .float 0, .float 0, .long y3, .float 0, .float 0, .int v36]) (mx_d tX10_readChunk_1 38 rfl) rfl (by rw [e_v36]; rfl) (by decide) rfl ?_
        refine mx_goto (tgt := 154) (mx_d tX10_readChunk_1 39 rfl) (by decide) ?_
        exact ih h hex
def FX10_readChunk (a : Nat) (m : mB) : Option mB := Option.bind (FX10_readChunk_L9 a mx_FU 0 0 0 0 m) (fun q19 => mx_let (mx_up q19.2.2.2.2.1 a 6 1, q19.2.2.2.2.2) (fun m20 => mx_let (fun (m22 : mB) => (if q19.1 = 0 then (if 3 < q19.2.1 then (some m22) else mx_let (mx_up m22.1 a 8 q19.2.2.2.1, m22.2) (fun m26 => mx_let (mx_up m26.1 a 6 3, m26.2) (fun m27 => (some m27)))) else (some m22))) (fun k23 => (if q19.2.1 = 0 then (if 7 < q19.1 then (k23 m20) else mx_let (m20.1, mx_ul m20.2 a 9 q19.2.2.1) (fun m29 => mx_let (mx_up m29.1 a 6 2, m29.2) (fun m30 => Option.bind (FX10_readChunk_L154 a q19.2.2.1 mx_FU 0 m30) (fun q37 => (some q37))))) else (k23 m20)))))
set_option maxRecDepth 20000 in
theorem CX10_readChunk {G : mG} {l : Launch} {e : mE} {a : Nat} {m : mB} {r : mB} (h0 : ly10 e a) (h : FX10_readChunk a m = some r) : mx_Call G l MX10_readChunk 1 0 0 [.ref a] (e, m) (fun v z => v = none ∧ z = (e, r)) := by
  refine mx_entry (L := [.ref a, .float 0, .float 0, .float 0, .float 0, .float 0, .float 0]) (by decide +kernel) (Nat.le_of_ble_eq_true rfl) rfl ?_
  unfold FX10_readChunk at h
  refine mx_iconst (0) (mx_d tX10_readChunk_0 0 rfl) (by decide) ?_
  refine mx_istore_n (L2 := [.ref a, .int 0, .float 0, .float 0, .float 0, .float 0, .float 0]) (mx_d tX10_readChunk_0 1 rfl) rfl (by decide) (by rfl) ?_
  refine mx_iconst (0) (mx_d tX10_readChunk_0 2 rfl) (by decide) ?_
  refine mx_istore_n (L2 := [.ref a, .int 0, .int 0, .float 0, .float 0, .float 0, .float 0]) (mx_d tX10_readChunk_0 3 rfl) rfl (by decide) (by rfl) ?_
  refine mx_lconst (0) (mx_d tX10_readChunk_0 4 rfl) (by decide) ?_
  refine mx_lstore_n (L2 := [.ref a, .int 0, .int 0, .long 0, .float 0, .float 0, .float 0]) (mx_d tX10_readChunk_0 5 rfl) rfl (by decide) (by rfl) ?_
  refine mx_iconst (0) (mx_d tX10_readChunk_0 6 rfl) (by decide) ?_
  refine mx_istore (L2 := [.ref a, .int 0, .int 0, .long 0, .float 0, .int 0, .float 0]) (mx_d tX10_readChunk_0 7 rfl) (by decide) (by rfl) ?_
  obtain ⟨q19, h_q19, h⟩ := Option.bind_eq_some_iff.mp h
  refine CX10_readChunk_L9 h0 mx_FU h_q19 ?_
  refine mx_aload_n (mx_d tX10_readChunk_1 7 rfl) rfl rfl ?_
  refine mx_iconst (1) (mx_d tX10_readChunk_1 8 rfl) (by decide) ?_
  obtain ⟨m20, e_m20, h⟩ := mx_letE h
  refine mx_putI (mx_d tX10_readChunk_1 9 rfl) fX10_42 rfl ⟨_, rfl, rfl⟩ rfl (ly10_o h0) (mx_eqz (z' := (e, m20)) (by rw [e_m20]) ?_)
  refine mx_iload_n (mx_d tX10_readChunk_1 10 rfl) rfl rfl ?_
  refine mx_letK (J := fun k23 => ∀ {m22 : mB}, k23 m22 = some r → mx_Fr G l MX10_readChunk 1 0 0 (fun v z => v = none ∧ z = (e, r)) 191 [.ref a, .int q19.1, .int q19.2.1, .float 0, .float 0, .int q19.2.2.2.1, .float 0] [] (e, m22)) h ?_ (fun k23 j_k23 h => ?_)
  · intro m22 h
    dsimp only at h
    refine mx_iload_n (mx_d tX10_readChunk_1 41 rfl) rfl rfl ?_
    refine mx_if_ne (tgt := 211) (mx_d tX10_readChunk_1 42 rfl) (by decide) (fun hc24 => ?_) (fun hc24 => ?_)
    · rw [if_neg hc24] at h
      obtain rfl := Option.some.inj h
      exact mx_return (mx_d tX10_readChunk_1 52 rfl) rfl ⟨rfl, rfl⟩
    · rw [if_pos hc24] at h
      refine mx_iload_n (mx_d tX10_readChunk_1 43 rfl) rfl rfl ?_
      refine mx_iconst (3) (mx_d tX10_readChunk_1 44 rfl) (by decide) ?_
      refine mx_icmp_gt (tgt := 211) (mx_d tX10_readChunk_1 45 rfl) (by decide) (fun hc25 => ?_) (fun hc25 => ?_)
      · rw [if_pos hc25] at h
        obtain rfl := Option.some.inj h
        exact mx_return (mx_d tX10_readChunk_1 52 rfl) rfl ⟨rfl, rfl⟩
      · rw [if_neg hc25] at h
        refine mx_aload_n (mx_d tX10_readChunk_1 46 rfl) rfl rfl ?_
        refine mx_iload (mx_d tX10_readChunk_1 47 rfl) rfl ?_
        obtain ⟨m26, e_m26, h⟩ := mx_letE h
        refine mx_putI (mx_d tX10_readChunk_1 48 rfl) fX10_78 rfl ⟨_, rfl, rfl⟩ rfl (ly10_o h0) (mx_eqz (z' := (e, m26)) (by rw [e_m26]) ?_)
        refine mx_aload_n (mx_d tX10_readChunk_1 49 rfl) rfl rfl ?_
        refine mx_iconst (3) (mx_d tX10_readChunk_1 50 rfl) (by decide) ?_
        obtain ⟨m27, e_m27, h⟩ := mx_letE h
        refine mx_putI (mx_d tX10_readChunk_1 51 rfl) fX10_42 rfl ⟨_, rfl, rfl⟩ rfl (ly10_o h0) (mx_eqz (z' := (e, m27)) (by rw [e_m27]) ?_)
        obtain rfl := Option.some.inj h
        exact mx_return (mx_d tX10_readChunk_1 52 rfl) rfl ⟨rfl, rfl⟩
  refine mx_if_ne (tgt := 191) (mx_d tX10_readChunk_1 11 rfl) (by decide) (fun hc21 => ?_) (fun hc21 => ?_)
  · rw [if_neg hc21] at h
    refine mx_forget (L' := [.ref a, .int q19.1, .int q19.2.1, .float 0, .float 0, .int q19.2.2.2.1, .float 0]) ⟨rfl, rfl, rfl, rfl, trivial⟩ ?_
    exact j_k23 h
  · rw [if_pos hc21] at h
    refine mx_iload_n (mx_d tX10_readChunk_1 12 rfl) rfl rfl ?_
    refine mx_bipush (7) (mx_d tX10_readChunk_1 13 rfl) (by decide) ?_
    refine mx_icmp_gt (tgt := 191) (mx_d tX10_readChunk_1 14 rfl) (by decide) (fun hc28 => ?_) (fun hc28 => ?_)
    · rw [if_pos hc28] at h
      refine mx_forget (L' := [.ref a, .int q19.1, .int q19.2.1, .float 0, .float 0, .int q19.2.2.2.1, .float 0]) ⟨rfl, rfl, rfl, rfl, trivial⟩ ?_
      exact j_k23 h
    · rw [if_neg hc28] at h
      refine mx_aload_n (mx_d tX10_readChunk_1 15 rfl) rfl rfl ?_
      refine mx_lload_n (mx_d tX10_readChunk_1 16 rfl) rfl rfl ?_
      obtain ⟨m29, e_m29, h⟩ := mx_letE h
      refine mx_putJ (mx_d tX10_readChunk_1 17 rfl) fX10_45 rfl ⟨_, rfl, rfl⟩ rfl (ly10_o h0) (mx_eqz (z' := (e, m29)) (by rw [e_m29]) ?_)
      refine mx_aload_n (mx_d tX10_readChunk_1 18 rfl) rfl rfl ?_
      refine mx_iconst (2) (mx_d tX10_readChunk_1 19 rfl) (by decide) ?_
      obtain ⟨m30, e_m30, h⟩ := mx_letE h
      refine mx_putI (mx_d tX10_readChunk_1 20 rfl) fX10_42 rfl ⟨_, rfl, rfl⟩ rfl (ly10_o h0) (mx_eqz (z' := (e, m30)) (by rw [e_m30]) ?_)
      refine mx_iconst (0) (mx_d tX10_readChunk_1 21 rfl) (by decide) ?_
      refine mx_istore (L2 := [.ref a, .int q19.1, .int q19.2.1, .long q19.2.2.1, .float 0, .int q19.2.2.2.1, .int 0]) (mx_d tX10_readChunk_1 22 rfl) (by decide) (by rfl) ?_
      obtain ⟨q37, h_q37, h⟩ := Option.bind_eq_some_iff.mp h
      refine mx_forget (L' := [.ref a, .float 0, .float 0, .long q19.2.2.1, .float 0, .float 0, .int 0]) ⟨rfl, rfl, rfl, trivial⟩ ?_
      refine CX10_readChunk_L154 h0 mx_FU h_q37 ?_
      refine mx_goto (tgt := 211) (mx_d tX10_readChunk_1 40 rfl) (by decide) ?_
      obtain rfl := Option.some.inj h
      exact mx_return (mx_d tX10_readChunk_1 52 rfl) rfl ⟨rfl, rfl⟩
def FX10_advance_L0 (q0 : Nat) : Nat → mB → Option (mB)
  | 0, _ => none
  | f + 1, m => (if (m.1 q0 4) < 0 then (some (m)) else (if (m.1 q0 3) ≤ (m.1 q0 4) then (some (m)) else (if 940 ≤ (m.1 q0 4) then (some (m)) else mx_chk (mx_inb (m.1 q0 4) 940) ((if (m.1 (q0 + 1) (Int32.toNatClampNeg (m.1 q0 4))) = 32 then mx_let (mx_up m.1 q0 4 ((m.1 q0 4) + 1), m.2) (fun m6 => (FX10_advance_L0 q0 f  m6)) else (if (m.1 (q0 + 1) (Int32.toNatClampNeg (m.1 q0 4))) = 10 then mx_let (mx_up m.1 q0 4 ((m.1 q0 4) + 1), m.2) (fun m8 => (FX10_advance_L0 q0 f  m8)) else (some (m))))))))
set_option maxRecDepth 20000 in
theorem CX10_advance_L0 {G : mG} {l : Launch} {e : mE} {Post : Option Value → mS → Prop} {q0 : Nat} (g0 : ly10 e q0) : ∀ (f : Nat)  {m : mB} {q : (mB)}, FX10_advance_L0 q0 f m = some q → (mx_Fr G l MX10_advance 2 0 0 Post 69 [.ref q0, .float 0] [] (e, q)) → mx_Fr G l MX10_advance 2 0 0 Post 0 [.ref q0, .float 0] [] (e, m) := by
  intro f
  induction f with
  | zero => intro _ _ h; cases h
  | succ f ih =>
    intro m q h hex
    rw [FX10_advance_L0] at h
    refine mx_aload_n (mx_d tX10_advance_0 0 rfl) rfl rfl ?_
    refine mx_getI (mx_d tX10_advance_0 1 rfl) fX10_62 rfl (Or.inl rfl) (ly10_o g0) ?_
    refine mx_if_lt (tgt := 69) (mx_d tX10_advance_0 2 rfl) (by decide) (fun hc1 => ?_) (fun hc1 => ?_)
    · rw [if_pos hc1] at h
      obtain rfl := Option.some.inj h
      exact hex
    · rw [if_neg hc1] at h
      refine mx_aload_n (mx_d tX10_advance_0 3 rfl) rfl rfl ?_
      refine mx_getI (mx_d tX10_advance_0 4 rfl) fX10_62 rfl (Or.inl rfl) (ly10_o g0) ?_
      refine mx_aload_n (mx_d tX10_advance_0 5 rfl) rfl rfl ?_
      refine mx_getI (mx_d tX10_advance_0 6 rfl) fX10_59 rfl (Or.inl rfl) (ly10_o g0) ?_
      refine mx_icmp_ge (tgt := 69) (mx_d tX10_advance_0 7 rfl) (by decide) (fun hc2 => ?_) (fun hc2 => ?_)
      · rw [if_pos hc2] at h
        obtain rfl := Option.some.inj h
        exact hex
      · rw [if_neg hc2] at h
        refine mx_aload_n (mx_d tX10_advance_0 8 rfl) rfl rfl ?_
        refine mx_getI (mx_d tX10_advance_0 9 rfl) fX10_62 rfl (Or.inl rfl) (ly10_o g0) ?_
        refine mx_sipush (940) (mx_d tX10_advance_0 10 rfl) (by decide) ?_
        refine mx_icmp_ge (tgt := 69) (mx_d tX10_advance_0 11 rfl) (by decide) (fun hc3 => ?_) (fun hc3 => ?_)
        · rw [if_pos hc3] at h
          obtain rfl := Option.some.inj h
          exact hex
        · rw [if_neg hc3] at h
          refine mx_aload_n (mx_d tX10_advance_0 12 rfl) rfl rfl ?_
          refine mx_getR (mx_d tX10_advance_0 13 rfl) fX10_9 rfl rfl (ly10_o g0) (ly10_r0 g0) ?_
          refine mx_aload_n (mx_d tX10_advance_0 14 rfl) rfl rfl ?_
          refine mx_getI (mx_d tX10_advance_0 15 rfl) fX10_62 rfl (Or.inl rfl) (ly10_o g0) ?_
          obtain ⟨hi4, h⟩ := mx_chkE h
          refine mx_iaload (mx_d tX10_advance_0 16 rfl) (ly10_s0 g0) (mx_inbE hi4) ?_
          refine mx_bipush (32) (mx_d tX10_advance_0 17 rfl) (by decide) ?_
          refine mx_icmp_eq (tgt := 56) (mx_d tX10_advance_0 18 rfl) (by decide) (fun hc5 => ?_) (fun hc5 => ?_)
          · rw [if_pos hc5] at h
            refine mx_aload_n (mx_d tX10_advance_0 26 rfl) rfl rfl ?_
            refine mx_dup (mx_d tX10_advance_0 27 rfl) rfl ?_
            refine mx_getI (mx_d tX10_advance_0 28 rfl) fX10_62 rfl (Or.inl rfl) (ly10_o g0) ?_
            refine mx_iconst (1) (mx_d tX10_advance_0 29 rfl) (by decide) ?_
            refine mx_iadd (mx_d tX10_advance_0 30 rfl) ?_
            obtain ⟨m6, e_m6, h⟩ := mx_letE h
            refine mx_putI (mx_d tX10_advance_0 31 rfl) fX10_62 rfl ⟨_, rfl, rfl⟩ rfl (ly10_o g0) (mx_eqz (z' := (e, m6)) (by rw [e_m6]) ?_)
            refine mx_goto (tgt := 0) (mx_d tX10_advance_0 32 rfl) (by decide) ?_
            exact ih h hex
          · rw [if_neg hc5] at h
            refine mx_aload_n (mx_d tX10_advance_0 19 rfl) rfl rfl ?_
            refine mx_getR (mx_d tX10_advance_0 20 rfl) fX10_9 rfl rfl (ly10_o g0) (ly10_r0 g0) ?_
            refine mx_aload_n (mx_d tX10_advance_0 21 rfl) rfl rfl ?_
            refine mx_getI (mx_d tX10_advance_0 22 rfl) fX10_62 rfl (Or.inl rfl) (ly10_o g0) ?_
            refine mx_iaload (mx_d tX10_advance_0 23 rfl) (ly10_s0 g0) (mx_inbE hi4) ?_
            refine mx_bipush (10) (mx_d tX10_advance_0 24 rfl) (by decide) ?_
            refine mx_icmp_ne (tgt := 69) (mx_d tX10_advance_0 25 rfl) (by decide) (fun hc7 => ?_) (fun hc7 => ?_)
            · rw [if_neg hc7] at h
              obtain rfl := Option.some.inj h
              exact hex
            · rw [if_pos hc7] at h
              refine mx_aload_n (mx_d tX10_advance_0 26 rfl) rfl rfl ?_
              refine mx_dup (mx_d tX10_advance_0 27 rfl) rfl ?_
              refine mx_getI (mx_d tX10_advance_0 28 rfl) fX10_62 rfl (Or.inl rfl) (ly10_o g0) ?_
              refine mx_iconst (1) (mx_d tX10_advance_0 29 rfl) (by decide) ?_
              refine mx_iadd (mx_d tX10_advance_0 30 rfl) ?_
              obtain ⟨m8, e_m8, h⟩ := mx_letE h
              refine mx_putI (mx_d tX10_advance_0 31 rfl) fX10_62 rfl ⟨_, rfl, rfl⟩ rfl (ly10_o g0) (mx_eqz (z' := (e, m8)) (by rw [e_m8]) ?_)
              refine mx_goto (tgt := 0) (mx_d tX10_advance_0 32 rfl) (by decide) ?_
              exact ih h hex
def FX10_advance (a : Nat) (m : mB) : Option mB := Option.bind (FX10_advance_L0 a mx_FU  m) (fun q9 => (if (q9.1 a 4) < (q9.1 a 3) then mx_let (mx_up q9.1 a 7 (q9.1 a 4), q9.2) (fun m11 => Option.bind (FX10_signAt a (m11.1 a 4) m11) (fun r12 => mx_let (mx_let (fun (m16 : mB) => mx_let (mx_up m16.1 a 4 ((m16.1 a 4) + 1), m16.2) (fun m18 => mx_let ((if r12 = 40 then mx_let (mx_up m18.1 a 6 r12, m18.2) (fun m22 => (some m22)) else (if r12 = 41 then mx_let (mx_up m18.1 a 6 r12, m18.2) (fun m25 => (some m25)) else mx_let (mx_up m18.1 a 6 1, m18.2) (fun m24 => (some m24))))) (fun k20 => (if r12 < 59 then k20 else (if r12 ≤ 62 then mx_let (mx_up m18.1 a 6 r12, m18.2) (fun m27 => (some m27)) else k20))))) (fun k17 => (if r12 < 48 then (k17 m11) else (if 57 < r12 then (k17 m11) else Option.bind (FX10_readChunk a m11) (fun r29 => (some r29)))))) (fun k14 => (if r12 < 97 then k14 else (if r12 ≤ 122 then Option.bind (FX10_readChunk a m11) (fun r31 => (some r31)) else k14))))) else mx_let (mx_up q9.1 a 7 (q9.1 a 3), q9.2) (fun m32 => mx_let (mx_up m32.1 a 6 0, m32.2) (fun m33 => (some m33)))))
set_option maxRecDepth 20000 in
theorem CX10_advance {G : mG} {l : Launch} {e : mE} {a : Nat} {m : mB} {r : mB} (h0 : ly10 e a) (h : FX10_advance a m = some r) : mx_Call G l MX10_advance 2 0 0 [.ref a] (e, m) (fun v z => v = none ∧ z = (e, r)) := by
  refine mx_entry (L := [.ref a, .float 0]) (by decide +kernel) (Nat.le_of_ble_eq_true rfl) rfl ?_
  unfold FX10_advance at h
  obtain ⟨q9, h_q9, h⟩ := Option.bind_eq_some_iff.mp h
  refine CX10_advance_L0 h0 mx_FU h_q9 ?_
  refine mx_aload_n (mx_d tX10_advance_0 33 rfl) rfl rfl ?_
  refine mx_getI (mx_d tX10_advance_0 34 rfl) fX10_62 rfl (Or.inl rfl) (ly10_o h0) ?_
  refine mx_aload_n (mx_d tX10_advance_0 35 rfl) rfl rfl ?_
  refine mx_getI (mx_d tX10_advance_0 36 rfl) fX10_59 rfl (Or.inl rfl) (ly10_o h0) ?_
  refine mx_icmp_lt (tgt := 94) (mx_d tX10_advance_0 37 rfl) (by decide) (fun hc10 => ?_) (fun hc10 => ?_)
  · rw [if_pos hc10] at h
    refine mx_aload_n (mx_d tX10_advance_0 46 rfl) rfl rfl ?_
    refine mx_aload_n (mx_d tX10_advance_0 47 rfl) rfl rfl ?_
    refine mx_getI (mx_d tX10_advance_0 48 rfl) fX10_62 rfl (Or.inl rfl) (ly10_o h0) ?_
    obtain ⟨m11, e_m11, h⟩ := mx_letE h
    refine mx_putI (mx_d tX10_advance_0 49 rfl) fX10_68 rfl ⟨_, rfl, rfl⟩ rfl (ly10_o h0) (mx_eqz (z' := (e, m11)) (by rw [e_m11]) ?_)
    refine mx_aload_n (mx_d tX10_advance_0 50 rfl) rfl rfl ?_
    refine mx_aload_n (mx_d tX10_advance_0 51 rfl) rfl rfl ?_
    refine mx_getI (mx_d tX10_advance_0 52 rfl) fX10_62 rfl (Or.inl rfl) (ly10_o h0) ?_
    obtain ⟨r12, h_r12, h⟩ := Option.bind_eq_some_iff.mp h
    refine mx_cVi (mx_d tX10_advance_0 53 rfl) iX10_71 rfl vX10_signAt ⟨_, rfl, rfl⟩ (ly10_o h0) (CX10_signAt h0 h_r12) (by decide) rfl rfl (Nat.le_of_ble_eq_true rfl) ?_
    refine mx_istore_n (L2 := [.ref a, .int r12]) (mx_d tX10_advance_0 54 rfl) rfl (by decide) (by rfl) ?_
    refine mx_iload_n (mx_d tX10_advance_0 55 rfl) rfl rfl ?_
    refine mx_bipush (97) (mx_d tX10_advance_0 56 rfl) (by decide) ?_
    refine mx_letK (J := fun k14 => k14 = some r → mx_Fr G l MX10_advance 2 0 0 (fun v z => v = none ∧ z = (e, r)) 123 [.ref a, .int r12] [] (e, m11)) h ?_ (fun k14 j_k14 h => ?_)
    · intro h
      refine mx_iload_n (mx_d tX10_advance_1 1 rfl) rfl rfl ?_
      refine mx_bipush (48) (mx_d tX10_advance_1 2 rfl) (by decide) ?_
      refine mx_letK (J := fun k17 => ∀ {m16 : mB}, k17 m16 = some r → mx_Fr G l MX10_advance 2 0 0 (fun v z => v = none ∧ z = (e, r)) 140 [.ref a, .int r12] [] (e, m16)) h ?_ (fun k17 j_k17 h => ?_)
      · intro m16 h
        dsimp only at h
        refine mx_aload_n (mx_d tX10_advance_1 10 rfl) rfl rfl ?_
        refine mx_dup (mx_d tX10_advance_1 11 rfl) rfl ?_
        refine mx_getI (mx_d tX10_advance_1 12 rfl) fX10_62 rfl (Or.inl rfl) (ly10_o h0) ?_
        refine mx_iconst (1) (mx_d tX10_advance_1 13 rfl) (by decide) ?_
        refine mx_iadd (mx_d tX10_advance_1 14 rfl) ?_
        obtain ⟨m18, e_m18, h⟩ := mx_letE h
        refine mx_putI (mx_d tX10_advance_1 15 rfl) fX10_62 rfl ⟨_, rfl, rfl⟩ rfl (ly10_o h0) (mx_eqz (z' := (e, m18)) (by rw [e_m18]) ?_)
        refine mx_aload_n (mx_d tX10_advance_1 16 rfl) rfl rfl ?_
        refine mx_iload_n (mx_d tX10_advance_1 17 rfl) rfl rfl ?_
        refine mx_bipush (59) (mx_d tX10_advance_1 18 rfl) (by decide) ?_
        refine mx_letK (J := fun k20 => k20 = some r → mx_Fr G l MX10_advance 2 0 0 (fun v z => v = none ∧ z = (e, r)) 163 [.float 0, .int r12] [.ref a] (e, m18)) h ?_ (fun k20 j_k20 h => ?_)
        · intro h
          refine mx_iload_n (mx_d tX10_advance_1 23 rfl) rfl rfl ?_
          refine mx_bipush (40) (mx_d tX10_advance_1 24 rfl) (by decide) ?_
          refine mx_icmp_eq (tgt := 175) (mx_d tX10_advance_1 25 rfl) (by decide) (fun hc21 => ?_) (fun hc21 => ?_)
          · rw [if_pos hc21] at h
            refine mx_iload_n (mx_d tX10_advance_1 29 rfl) rfl rfl ?_
            refine mx_goto (tgt := 180) (mx_d tX10_advance_1 30 rfl) (by decide) ?_
            obtain ⟨m22, e_m22, h⟩ := mx_letE h
            refine mx_putI (mx_d tX10_advance_1 32 rfl) fX10_42 rfl ⟨_, rfl, rfl⟩ rfl (ly10_o h0) (mx_eqz (z' := (e, m22)) (by rw [e_m22]) ?_)
            obtain rfl := Option.some.inj h
            exact mx_return (mx_d tX10_advance_1 33 rfl) rfl ⟨rfl, rfl⟩
          · rw [if_neg hc21] at h
            refine mx_iload_n (mx_d tX10_advance_1 26 rfl) rfl rfl ?_
            refine mx_bipush (41) (mx_d tX10_advance_1 27 rfl) (by decide) ?_
            refine mx_icmp_ne (tgt := 179) (mx_d tX10_advance_1 28 rfl) (by decide) (fun hc23 => ?_) (fun hc23 => ?_)
            · rw [if_neg hc23] at h
              refine mx_iconst (1) (mx_d tX10_advance_1 31 rfl) (by decide) ?_
              obtain ⟨m24, e_m24, h⟩ := mx_letE h
              refine mx_putI (mx_d tX10_advance_1 32 rfl) fX10_42 rfl ⟨_, rfl, rfl⟩ rfl (ly10_o h0) (mx_eqz (z' := (e, m24)) (by rw [e_m24]) ?_)
              obtain rfl := Option.some.inj h
              exact mx_return (mx_d tX10_advance_1 33 rfl) rfl ⟨rfl, rfl⟩
            · rw [if_pos hc23] at h
              refine mx_iload_n (mx_d tX10_advance_1 29 rfl) rfl rfl ?_
              refine mx_goto (tgt := 180) (mx_d tX10_advance_1 30 rfl) (by decide) ?_
              obtain ⟨m25, e_m25, h⟩ := mx_letE h
              refine mx_putI (mx_d tX10_advance_1 32 rfl) fX10_42 rfl ⟨_, rfl, rfl⟩ rfl (ly10_o h0) (mx_eqz (z' := (e, m25)) (by rw [e_m25]) ?_)
              obtain rfl := Option.some.inj h
              exact mx_return (mx_d tX10_advance_1 33 rfl) rfl ⟨rfl, rfl⟩
        refine mx_icmp_lt (tgt := 163) (mx_d tX10_advance_1 19 rfl) (by decide) (fun hc19 => ?_) (fun hc19 => ?_)
        · rw [if_pos hc19] at h
          refine mx_forget (L' := [.float 0, .int r12]) ⟨rfl, trivial⟩ ?_
          exact j_k20 h
        · rw [if_neg hc19] at h
          refine mx_iload_n (mx_d tX10_advance_1 20 rfl) rfl rfl ?_
          refine mx_bipush (62) (mx_d tX10_advance_1 21 rfl) (by decide) ?_
          refine mx_icmp_le (tgt := 175) (mx_d tX10_advance_1 22 rfl) (by decide) (fun hc26 => ?_) (fun hc26 => ?_)
          · rw [if_pos hc26] at h
            refine mx_iload_n (mx_d tX10_advance_1 29 rfl) rfl rfl ?_
            refine mx_goto (tgt := 180) (mx_d tX10_advance_1 30 rfl) (by decide) ?_
            obtain ⟨m27, e_m27, h⟩ := mx_letE h
            refine mx_putI (mx_d tX10_advance_1 32 rfl) fX10_42 rfl ⟨_, rfl, rfl⟩ rfl (ly10_o h0) (mx_eqz (z' := (e, m27)) (by rw [e_m27]) ?_)
            obtain rfl := Option.some.inj h
            exact mx_return (mx_d tX10_advance_1 33 rfl) rfl ⟨rfl, rfl⟩
          · rw [if_neg hc26] at h
            refine mx_forget (L' := [.float 0, .int r12]) ⟨rfl, trivial⟩ ?_
            exact j_k20 h
      refine mx_icmp_lt (tgt := 140) (mx_d tX10_advance_1 3 rfl) (by decide) (fun hc15 => ?_) (fun hc15 => ?_)
      · rw [if_pos hc15] at h
        exact j_k17 h
      · rw [if_neg hc15] at h
        refine mx_iload_n (mx_d tX10_advance_1 4 rfl) rfl rfl ?_
        refine mx_bipush (57) (mx_d tX10_advance_1 5 rfl) (by decide) ?_
        refine mx_icmp_gt (tgt := 140) (mx_d tX10_advance_1 6 rfl) (by decide) (fun hc28 => ?_) (fun hc28 => ?_)
        · rw [if_pos hc28] at h
          exact j_k17 h
        · rw [if_neg hc28] at h
          refine mx_aload_n (mx_d tX10_advance_1 7 rfl) rfl rfl ?_
          obtain ⟨r29, h_r29, h⟩ := Option.bind_eq_some_iff.mp h
          refine mx_cVv (mx_d tX10_advance_1 8 rfl) iX10_75 rfl vX10_readChunk ⟨_, rfl, rfl⟩ (ly10_o h0) (CX10_readChunk h0 h_r29) (by decide) rfl rfl (Nat.le_of_ble_eq_true rfl) ?_
          obtain rfl := Option.some.inj h
          exact mx_return (mx_d tX10_advance_1 9 rfl) rfl ⟨rfl, rfl⟩
    refine mx_icmp_lt (tgt := 123) (mx_d tX10_advance_0 57 rfl) (by decide) (fun hc13 => ?_) (fun hc13 => ?_)
    · rw [if_pos hc13] at h
      exact j_k14 h
    · rw [if_neg hc13] at h
      refine mx_iload_n (mx_d tX10_advance_0 58 rfl) rfl rfl ?_
      refine mx_bipush (122) (mx_d tX10_advance_0 59 rfl) (by decide) ?_
      refine mx_icmp_le (tgt := 135) (mx_d tX10_advance_1 0 rfl) (by decide) (fun hc30 => ?_) (fun hc30 => ?_)
      · rw [if_pos hc30] at h
        refine mx_aload_n (mx_d tX10_advance_1 7 rfl) rfl rfl ?_
        obtain ⟨r31, h_r31, h⟩ := Option.bind_eq_some_iff.mp h
        refine mx_cVv (mx_d tX10_advance_1 8 rfl) iX10_75 rfl vX10_readChunk ⟨_, rfl, rfl⟩ (ly10_o h0) (CX10_readChunk h0 h_r31) (by decide) rfl rfl (Nat.le_of_ble_eq_true rfl) ?_
        obtain rfl := Option.some.inj h
        exact mx_return (mx_d tX10_advance_1 9 rfl) rfl ⟨rfl, rfl⟩
      · rw [if_neg hc30] at h
        exact j_k14 h
  · rw [if_neg hc10] at h
    refine mx_aload_n (mx_d tX10_advance_0 38 rfl) rfl rfl ?_
    refine mx_aload_n (mx_d tX10_advance_0 39 rfl) rfl rfl ?_
    refine mx_getI (mx_d tX10_advance_0 40 rfl) fX10_59 rfl (Or.inl rfl) (ly10_o h0) ?_
    obtain ⟨m32, e_m32, h⟩ := mx_letE h
    refine mx_putI (mx_d tX10_advance_0 41 rfl) fX10_68 rfl ⟨_, rfl, rfl⟩ rfl (ly10_o h0) (mx_eqz (z' := (e, m32)) (by rw [e_m32]) ?_)
    refine mx_aload_n (mx_d tX10_advance_0 42 rfl) rfl rfl ?_
    refine mx_iconst (0) (mx_d tX10_advance_0 43 rfl) (by decide) ?_
    obtain ⟨m33, e_m33, h⟩ := mx_letE h
    refine mx_putI (mx_d tX10_advance_0 44 rfl) fX10_42 rfl ⟨_, rfl, rfl⟩ rfl (ly10_o h0) (mx_eqz (z' := (e, m33)) (by rw [e_m33]) ?_)
    obtain rfl := Option.some.inj h
    exact mx_return (mx_d tX10_advance_0 45 rfl) rfl ⟨rfl, rfl⟩
def FX10_begin (a : Nat) (x0 : Int32) (m : mB) : Option mB := (if (m.1 a 2) ≤ x0 then mx_let (mx_up m.1 a 5 0, m.2) (fun m2 => Option.bind (FJ9_min_7cf53 (m2.1 a 2) x0 m2) (fun r3 => mx_let (mx_up m2.1 a 3 r3, m2.2) (fun m4 => mx_let (mx_up m4.1 a 4 0, m4.2) (fun m5 => mx_let (mx_up m5.1 a 10 0, m5.2) (fun m6 => mx_let (mx_up m6.1 a 11 0, m6.2) (fun m7 => Option.bind (FX10_advance a m7) (fun r8 => (some r8)))))))) else mx_let (mx_up m.1 a 5 1, m.2) (fun m9 => Option.bind (FJ9_min_7cf53 (m9.1 a 2) x0 m9) (fun r10 => mx_let (mx_up m9.1 a 3 r10, m9.2) (fun m11 => mx_let (mx_up m11.1 a 4 0, m11.2) (fun m12 => mx_let (mx_up m12.1 a 10 0, m12.2) (fun m13 => mx_let (mx_up m13.1 a 11 0, m13.2) (fun m14 => Option.bind (FX10_advance a m14) (fun r15 => (some r15)))))))))
set_option maxRecDepth 20000 in
theorem CX10_begin {G : mG} {l : Launch} {e : mE} {a : Nat} {x0 : Int32} {m : mB} {r : mB} (h0 : ly10 e a) (h : FX10_begin a x0 m = some r) : mx_Call G l MX10_begin 3 0 0 [.ref a, .int x0] (e, m) (fun v z => v = none ∧ z = (e, r)) := by
  refine mx_entry (L := [.ref a, .int x0]) (by decide +kernel) (Nat.le_of_ble_eq_true rfl) rfl ?_
  unfold FX10_begin at h
  refine mx_aload_n (mx_d tX10_begin_0 0 rfl) rfl rfl ?_
  refine mx_aload_n (mx_d tX10_begin_0 1 rfl) rfl rfl ?_
  refine mx_getI (mx_d tX10_begin_0 2 rfl) fX10_33 rfl (Or.inl rfl) (ly10_o h0) ?_
  refine mx_iload_n (mx_d tX10_begin_0 3 rfl) rfl rfl ?_
  refine mx_icmp_le (tgt := 13) (mx_d tX10_begin_0 4 rfl) (by decide) (fun hc1 => ?_) (fun hc1 => ?_)
  · rw [if_pos hc1] at h
    refine mx_iconst (0) (mx_d tX10_begin_0 7 rfl) (by decide) ?_
    obtain ⟨m2, e_m2, h⟩ := mx_letE h
    refine mx_putZ (mx_d tX10_begin_0 8 rfl) fX10_49 rfl ⟨_, rfl, rfl⟩ rfl (by decide) (ly10_o h0) (mx_eqz (z' := (e, m2)) (by rw [e_m2]) ?_)
    refine mx_aload_n (mx_d tX10_begin_0 9 rfl) rfl rfl ?_
    refine mx_aload_n (mx_d tX10_begin_0 10 rfl) rfl rfl ?_
    refine mx_getI (mx_d tX10_begin_0 11 rfl) fX10_33 rfl (Or.inl rfl) (ly10_o h0) ?_
    refine mx_iload_n (mx_d tX10_begin_0 12 rfl) rfl rfl ?_
    obtain ⟨r3, h_r3, h⟩ := Option.bind_eq_some_iff.mp h
    refine mx_cSi (mx_d tX10_begin_0 13 rfl) iX10_53 rfl sJ9_min_7cf53 (CJ9_min_7cf53  h_r3) (by decide) rfl rfl (Nat.le_of_ble_eq_true rfl) ?_
    obtain ⟨m4, e_m4, h⟩ := mx_letE h
    refine mx_putI (mx_d tX10_begin_0 14 rfl) fX10_59 rfl ⟨_, rfl, rfl⟩ rfl (ly10_o h0) (mx_eqz (z' := (e, m4)) (by rw [e_m4]) ?_)
    refine mx_aload_n (mx_d tX10_begin_0 15 rfl) rfl rfl ?_
    refine mx_iconst (0) (mx_d tX10_begin_0 16 rfl) (by decide) ?_
    obtain ⟨m5, e_m5, h⟩ := mx_letE h
    refine mx_putI (mx_d tX10_begin_0 17 rfl) fX10_62 rfl ⟨_, rfl, rfl⟩ rfl (ly10_o h0) (mx_eqz (z' := (e, m5)) (by rw [e_m5]) ?_)
    refine mx_aload_n (mx_d tX10_begin_0 18 rfl) rfl rfl ?_
    refine mx_iconst (0) (mx_d tX10_begin_0 19 rfl) (by decide) ?_
    obtain ⟨m6, e_m6, h⟩ := mx_letE h
    refine mx_putI (mx_d tX10_begin_0 20 rfl) fX10_36 rfl ⟨_, rfl, rfl⟩ rfl (ly10_o h0) (mx_eqz (z' := (e, m6)) (by rw [e_m6]) ?_)
    refine mx_aload_n (mx_d tX10_begin_0 21 rfl) rfl rfl ?_
    refine mx_iconst (0) (mx_d tX10_begin_0 22 rfl) (by decide) ?_
    obtain ⟨m7, e_m7, h⟩ := mx_letE h
    refine mx_putI (mx_d tX10_begin_0 23 rfl) fX10_39 rfl ⟨_, rfl, rfl⟩ rfl (ly10_o h0) (mx_eqz (z' := (e, m7)) (by rw [e_m7]) ?_)
    refine mx_aload_n (mx_d tX10_begin_0 24 rfl) rfl rfl ?_
    obtain ⟨r8, h_r8, h⟩ := Option.bind_eq_some_iff.mp h
    refine mx_cVv (mx_d tX10_begin_0 25 rfl) iX10_65 rfl vX10_advance ⟨_, rfl, rfl⟩ (ly10_o h0) (CX10_advance h0 h_r8) (by decide) rfl rfl (Nat.le_of_ble_eq_true rfl) ?_
    obtain rfl := Option.some.inj h
    exact mx_return (mx_d tX10_begin_0 26 rfl) rfl ⟨rfl, rfl⟩
  · rw [if_neg hc1] at h
    refine mx_iconst (1) (mx_d tX10_begin_0 5 rfl) (by decide) ?_
    refine mx_goto (tgt := 14) (mx_d tX10_begin_0 6 rfl) (by decide) ?_
    obtain ⟨m9, e_m9, h⟩ := mx_letE h
    refine mx_putZ (mx_d tX10_begin_0 8 rfl) fX10_49 rfl ⟨_, rfl, rfl⟩ rfl (by decide) (ly10_o h0) (mx_eqz (z' := (e, m9)) (by rw [e_m9]) ?_)
    refine mx_aload_n (mx_d tX10_begin_0 9 rfl) rfl rfl ?_
    refine mx_aload_n (mx_d tX10_begin_0 10 rfl) rfl rfl ?_
    refine mx_getI (mx_d tX10_begin_0 11 rfl) fX10_33 rfl (Or.inl rfl) (ly10_o h0) ?_
    refine mx_iload_n (mx_d tX10_begin_0 12 rfl) rfl rfl ?_
    obtain ⟨r10, h_r10, h⟩ := Option.bind_eq_some_iff.mp h
    refine mx_cSi (mx_d tX10_begin_0 13 rfl) iX10_53 rfl sJ9_min_7cf53 (CJ9_min_7cf53  h_r10) (by decide) rfl rfl (Nat.le_of_ble_eq_true rfl) ?_
    obtain ⟨m11, e_m11, h⟩ := mx_letE h
    refine mx_putI (mx_d tX10_begin_0 14 rfl) fX10_59 rfl ⟨_, rfl, rfl⟩ rfl (ly10_o h0) (mx_eqz (z' := (e, m11)) (by rw [e_m11]) ?_)
    refine mx_aload_n (mx_d tX10_begin_0 15 rfl) rfl rfl ?_
    refine mx_iconst (0) (mx_d tX10_begin_0 16 rfl) (by decide) ?_
    obtain ⟨m12, e_m12, h⟩ := mx_letE h
    refine mx_putI (mx_d tX10_begin_0 17 rfl) fX10_62 rfl ⟨_, rfl, rfl⟩ rfl (ly10_o h0) (mx_eqz (z' := (e, m12)) (by rw [e_m12]) ?_)
    refine mx_aload_n (mx_d tX10_begin_0 18 rfl) rfl rfl ?_
    refine mx_iconst (0) (mx_d tX10_begin_0 19 rfl) (by decide) ?_
    obtain ⟨m13, e_m13, h⟩ := mx_letE h
    refine mx_putI (mx_d tX10_begin_0 20 rfl) fX10_36 rfl ⟨_, rfl, rfl⟩ rfl (ly10_o h0) (mx_eqz (z' := (e, m13)) (by rw [e_m13]) ?_)
    refine mx_aload_n (mx_d tX10_begin_0 21 rfl) rfl rfl ?_
    refine mx_iconst (0) (mx_d tX10_begin_0 22 rfl) (by decide) ?_
    obtain ⟨m14, e_m14, h⟩ := mx_letE h
    refine mx_putI (mx_d tX10_begin_0 23 rfl) fX10_39 rfl ⟨_, rfl, rfl⟩ rfl (ly10_o h0) (mx_eqz (z' := (e, m14)) (by rw [e_m14]) ?_)
    refine mx_aload_n (mx_d tX10_begin_0 24 rfl) rfl rfl ?_
    obtain ⟨r15, h_r15, h⟩ := Option.bind_eq_some_iff.mp h
    refine mx_cVv (mx_d tX10_begin_0 25 rfl) iX10_65 rfl vX10_advance ⟨_, rfl, rfl⟩ (ly10_o h0) (CX10_advance h0 h_r15) (by decide) rfl rfl (Nat.le_of_ble_eq_true rfl) ?_
    obtain rfl := Option.some.inj h
    exact mx_return (mx_d tX10_begin_0 26 rfl) rfl ⟨rfl, rfl⟩
def FX10_kind (a : Nat) (m : mB) : Option Int32 := (some (m.1 a 6))
set_option maxRecDepth 20000 in
theorem CX10_kind {G : mG} {l : Launch} {e : mE} {a : Nat} {m : mB} {r : Int32} (h0 : ly10 e a) (h : FX10_kind a m = some r) : mx_Call G l MX10_kind 1 0 0 [.ref a] (e, m) (fun v z => v = some (.int r) ∧ z = (e, m)) := by
  refine mx_entry (L := [.ref a]) (by decide +kernel) (Nat.le_of_ble_eq_true rfl) rfl ?_
  unfold FX10_kind at h
  refine mx_aload_n (mx_d tX10_kind_0 0 rfl) rfl rfl ?_
  refine mx_getI (mx_d tX10_kind_0 1 rfl) fX10_42 rfl (Or.inl rfl) (ly10_o h0) ?_
  obtain rfl := Option.some.inj h
  exact mx_ireturn (mx_d tX10_kind_0 2 rfl) rfl ⟨rfl, rfl⟩
def FX0_isDeed (x0 : Int32) (m : mB) : Option Int32 := (if x0 = 102 then (some 1) else (if x0 = 103 then (some 1) else (if x0 < 105 then (some 0) else (if 109 < x0 then (some 0) else (some 1)))))
set_option maxRecDepth 20000 in
theorem CX0_isDeed {G : mG} {l : Launch} {e : mE} {x0 : Int32} {m : mB} {r : Int32}  (h : FX0_isDeed x0 m = some r) : mx_Call G l MX0_isDeed 1 0 0 [.int x0] (e, m) (fun v z => v = some (.int r) ∧ z = (e, m)) := by
  refine mx_entry (L := [.int x0]) (by decide +kernel) (Nat.le_of_ble_eq_true rfl) rfl ?_
  unfold FX0_isDeed at h
  refine mx_iload_n (mx_d tX0_isDeed_0 0 rfl) rfl rfl ?_
  refine mx_bipush (102) (mx_d tX0_isDeed_0 1 rfl) (by decide) ?_
  refine mx_icmp_eq (tgt := 24) (mx_d tX0_isDeed_0 2 rfl) (by decide) (fun hc1 => ?_) (fun hc1 => ?_)
  · rw [if_pos hc1] at h
    refine mx_iconst (1) (mx_d tX0_isDeed_0 12 rfl) (by decide) ?_
    refine mx_goto (tgt := 29) (mx_d tX0_isDeed_0 13 rfl) (by decide) ?_
    obtain rfl := Option.some.inj h
    exact mx_zreturn (mx_d tX0_isDeed_0 15 rfl) rfl rfl ⟨rfl, rfl⟩
  · rw [if_neg hc1] at h
    refine mx_iload_n (mx_d tX0_isDeed_0 3 rfl) rfl rfl ?_
    refine mx_bipush (103) (mx_d tX0_isDeed_0 4 rfl) (by decide) ?_
    refine mx_icmp_eq (tgt := 24) (mx_d tX0_isDeed_0 5 rfl) (by decide) (fun hc2 => ?_) (fun hc2 => ?_)
    · rw [if_pos hc2] at h
      refine mx_iconst (1) (mx_d tX0_isDeed_0 12 rfl) (by decide) ?_
      refine mx_goto (tgt := 29) (mx_d tX0_isDeed_0 13 rfl) (by decide) ?_
      obtain rfl := Option.some.inj h
      exact mx_zreturn (mx_d tX0_isDeed_0 15 rfl) rfl rfl ⟨rfl, rfl⟩
    · rw [if_neg hc2] at h
      refine mx_iload_n (mx_d tX0_isDeed_0 6 rfl) rfl rfl ?_
      refine mx_bipush (105) (mx_d tX0_isDeed_0 7 rfl) (by decide) ?_
      refine mx_icmp_lt (tgt := 28) (mx_d tX0_isDeed_0 8 rfl) (by decide) (fun hc3 => ?_) (fun hc3 => ?_)
      · rw [if_pos hc3] at h
        refine mx_iconst (0) (mx_d tX0_isDeed_0 14 rfl) (by decide) ?_
        obtain rfl := Option.some.inj h
        exact mx_zreturn (mx_d tX0_isDeed_0 15 rfl) rfl rfl ⟨rfl, rfl⟩
      · rw [if_neg hc3] at h
        refine mx_iload_n (mx_d tX0_isDeed_0 9 rfl) rfl rfl ?_
        refine mx_bipush (109) (mx_d tX0_isDeed_0 10 rfl) (by decide) ?_
        refine mx_icmp_gt (tgt := 28) (mx_d tX0_isDeed_0 11 rfl) (by decide) (fun hc4 => ?_) (fun hc4 => ?_)
        · rw [if_pos hc4] at h
          refine mx_iconst (0) (mx_d tX0_isDeed_0 14 rfl) (by decide) ?_
          obtain rfl := Option.some.inj h
          exact mx_zreturn (mx_d tX0_isDeed_0 15 rfl) rfl rfl ⟨rfl, rfl⟩
        · rw [if_neg hc4] at h
          refine mx_iconst (1) (mx_d tX0_isDeed_0 12 rfl) (by decide) ?_
          refine mx_goto (tgt := 29) (mx_d tX0_isDeed_0 13 rfl) (by decide) ?_
          obtain rfl := Option.some.inj h
          exact mx_zreturn (mx_d tX0_isDeed_0 15 rfl) rfl rfl ⟨rfl, rfl⟩
def FX10_fail (a : Nat) (x0 : Int32) (m : mB) : Option (Int32 × mB) := (if (m.1 a 10) = 0 then mx_let (mx_up m.1 a 10 x0, m.2) (fun m2 => mx_let (mx_up m2.1 a 11 (m2.1 a 7), m2.2) (fun m3 => (some (0, m3)))) else (some (0, m)))
set_option maxRecDepth 20000 in
theorem CX10_fail {G : mG} {l : Launch} {e : mE} {a : Nat} {x0 : Int32} {m : mB} {r : (Int32 × mB)} (h0 : ly10 e a) (h : FX10_fail a x0 m = some r) : mx_Call G l MX10_fail 1 0 0 [.ref a, .int x0] (e, m) (fun v z => v = some (.int r.1) ∧ z = (e, r.2)) := by
  refine mx_entry (L := [.ref a, .int x0]) (by decide +kernel) (Nat.le_of_ble_eq_true rfl) rfl ?_
  unfold FX10_fail at h
  refine mx_aload_n (mx_d tX10_fail_0 0 rfl) rfl rfl ?_
  refine mx_getI (mx_d tX10_fail_0 1 rfl) fX10_36 rfl (Or.inl rfl) (ly10_o h0) ?_
  refine mx_if_ne (tgt := 20) (mx_d tX10_fail_0 2 rfl) (by decide) (fun hc1 => ?_) (fun hc1 => ?_)
  · rw [if_neg hc1] at h
    refine mx_iconst (0) (mx_d tX10_fail_0 10 rfl) (by decide) ?_
    obtain rfl := Option.some.inj h
    exact mx_zreturn (mx_d tX10_fail_0 11 rfl) rfl rfl ⟨rfl, rfl⟩
  · rw [if_pos hc1] at h
    refine mx_aload_n (mx_d tX10_fail_0 3 rfl) rfl rfl ?_
    refine mx_iload_n (mx_d tX10_fail_0 4 rfl) rfl rfl ?_
    obtain ⟨m2, e_m2, h⟩ := mx_letE h
    refine mx_putI (mx_d tX10_fail_0 5 rfl) fX10_36 rfl ⟨_, rfl, rfl⟩ rfl (ly10_o h0) (mx_eqz (z' := (e, m2)) (by rw [e_m2]) ?_)
    refine mx_aload_n (mx_d tX10_fail_0 6 rfl) rfl rfl ?_
    refine mx_aload_n (mx_d tX10_fail_0 7 rfl) rfl rfl ?_
    refine mx_getI (mx_d tX10_fail_0 8 rfl) fX10_68 rfl (Or.inl rfl) (ly10_o h0) ?_
    obtain ⟨m3, e_m3, h⟩ := mx_letE h
    refine mx_putI (mx_d tX10_fail_0 9 rfl) fX10_39 rfl ⟨_, rfl, rfl⟩ rfl (ly10_o h0) (mx_eqz (z' := (e, m3)) (by rw [e_m3]) ?_)
    refine mx_iconst (0) (mx_d tX10_fail_0 10 rfl) (by decide) ?_
    obtain rfl := Option.some.inj h
    exact mx_zreturn (mx_d tX10_fail_0 11 rfl) rfl rfl ⟨rfl, rfl⟩
def FX10_pointHere (a : Nat) (p0 : Nat) (m : mB) : Option (Int32 × mB) := (if (m.1 a 6) = 2 then Option.bind (FX4_pointNamed p0 (m.2 a 9) m) (fun r2 => (if r2 = (-1) then Option.bind (FX10_fail a 3 m) (fun r4 => (some (r2, r4.2))) else (some (r2, m)))) else Option.bind (FX10_fail a 1 m) (fun r5 => (some ((-1), r5.2))))
set_option maxRecDepth 20000 in
theorem CX10_pointHere {G : mG} {l : Launch} {e : mE} {a : Nat} {p0 : Nat} {m : mB} {r : (Int32 × mB)} (h0 : ly10 e a) (h1 : ly4 e p0) (h : FX10_pointHere a p0 m = some r) : mx_Call G l MX10_pointHere 2 0 0 [.ref a, .ref p0] (e, m) (fun v z => v = some (.int r.1) ∧ z = (e, r.2)) := by
  refine mx_entry (L := [.ref a, .ref p0, .float 0]) (by decide +kernel) (Nat.le_of_ble_eq_true rfl) rfl ?_
  unfold FX10_pointHere at h
  refine mx_aload_n (mx_d tX10_pointHere_0 0 rfl) rfl rfl ?_
  refine mx_getI (mx_d tX10_pointHere_0 1 rfl) fX10_42 rfl (Or.inl rfl) (ly10_o h0) ?_
  refine mx_iconst (2) (mx_d tX10_pointHere_0 2 rfl) (by decide) ?_
  refine mx_icmp_eq (tgt := 16) (mx_d tX10_pointHere_0 3 rfl) (by decide) (fun hc1 => ?_) (fun hc1 => ?_)
  · rw [if_pos hc1] at h
    refine mx_aload_n (mx_d tX10_pointHere_0 10 rfl) rfl rfl ?_
    refine mx_aload_n (mx_d tX10_pointHere_0 11 rfl) rfl rfl ?_
    refine mx_getJ (mx_d tX10_pointHere_0 12 rfl) fX10_45 rfl rfl (ly10_o h0) ?_
    obtain ⟨r2, h_r2, h⟩ := Option.bind_eq_some_iff.mp h
    refine mx_cVi (mx_d tX10_pointHere_0 13 rfl) iX10_85 rfl vX4_pointNamed ⟨_, rfl, rfl⟩ (ly4_o h1) (CX4_pointNamed h1 h_r2) (by decide) rfl rfl (Nat.le_of_ble_eq_true rfl) ?_
    refine mx_istore_n (L2 := [.ref a, .ref p0, .int r2]) (mx_d tX10_pointHere_0 14 rfl) rfl (by decide) (by rfl) ?_
    refine mx_iload_n (mx_d tX10_pointHere_0 15 rfl) rfl rfl ?_
    refine mx_iconst ((-1)) (mx_d tX10_pointHere_0 16 rfl) (by decide) ?_
    refine mx_icmp_ne (tgt := 36) (mx_d tX10_pointHere_0 17 rfl) (by decide) (fun hc3 => ?_) (fun hc3 => ?_)
    · rw [if_neg hc3] at h
      refine mx_iload_n (mx_d tX10_pointHere_0 22 rfl) rfl rfl ?_
      obtain rfl := Option.some.inj h
      exact mx_ireturn (mx_d tX10_pointHere_0 23 rfl) rfl ⟨rfl, rfl⟩
    · rw [if_pos hc3] at h
      refine mx_aload_n (mx_d tX10_pointHere_0 18 rfl) rfl rfl ?_
      refine mx_iconst (3) (mx_d tX10_pointHere_0 19 rfl) (by decide) ?_
      obtain ⟨r4, h_r4, h⟩ := Option.bind_eq_some_iff.mp h
      refine mx_cVi (mx_d tX10_pointHere_0 20 rfl) iX10_81 rfl vX10_fail ⟨_, rfl, rfl⟩ (ly10_o h0) (CX10_fail h0 h_r4) (by decide) rfl rfl (Nat.le_of_ble_eq_true rfl) ?_
      refine mx_pop (mx_d tX10_pointHere_0 21 rfl) rfl ?_
      refine mx_iload_n (mx_d tX10_pointHere_0 22 rfl) rfl rfl ?_
      obtain rfl := Option.some.inj h
      exact mx_ireturn (mx_d tX10_pointHere_0 23 rfl) rfl ⟨rfl, rfl⟩
  · rw [if_neg hc1] at h
    refine mx_aload_n (mx_d tX10_pointHere_0 4 rfl) rfl rfl ?_
    refine mx_iconst (1) (mx_d tX10_pointHere_0 5 rfl) (by decide) ?_
    obtain ⟨r5, h_r5, h⟩ := Option.bind_eq_some_iff.mp h
    refine mx_cVi (mx_d tX10_pointHere_0 6 rfl) iX10_81 rfl vX10_fail ⟨_, rfl, rfl⟩ (ly10_o h0) (CX10_fail h0 h_r5) (by decide) rfl rfl (Nat.le_of_ble_eq_true rfl) ?_
    refine mx_pop (mx_d tX10_pointHere_0 7 rfl) rfl ?_
    refine mx_iconst ((-1)) (mx_d tX10_pointHere_0 8 rfl) (by decide) ?_
    obtain rfl := Option.some.inj h
    exact mx_ireturn (mx_d tX10_pointHere_0 9 rfl) rfl ⟨rfl, rfl⟩
def FX10_takePoint (a : Nat) (p0 : Nat) (m : mB) : Option (Int32 × mB) := Option.bind (FX10_pointHere a p0 m) (fun r1 => (if r1.1 = (-1) then (some (r1.1, r1.2)) else Option.bind (FX10_advance a r1.2) (fun r3 => (some (r1.1, r3)))))
set_option maxRecDepth 20000 in
theorem CX10_takePoint {G : mG} {l : Launch} {e : mE} {a : Nat} {p0 : Nat} {m : mB} {r : (Int32 × mB)} (h0 : ly10 e a) (h1 : ly4 e p0) (h : FX10_takePoint a p0 m = some r) : mx_Call G l MX10_takePoint 3 0 0 [.ref a, .ref p0] (e, m) (fun v z => v = some (.int r.1) ∧ z = (e, r.2)) := by
  refine mx_entry (L := [.ref a, .ref p0, .float 0]) (by decide +kernel) (Nat.le_of_ble_eq_true rfl) rfl ?_
  unfold FX10_takePoint at h
  refine mx_aload_n (mx_d tX10_takePoint_0 0 rfl) rfl rfl ?_
  refine mx_aload_n (mx_d tX10_takePoint_0 1 rfl) rfl rfl ?_
  obtain ⟨r1, h_r1, h⟩ := Option.bind_eq_some_iff.mp h
  refine mx_cVi (mx_d tX10_takePoint_0 2 rfl) iX10_91 rfl vX10_pointHere ⟨_, rfl, rfl⟩ (ly10_o h0) (CX10_pointHere h0 h1 h_r1) (by decide) rfl rfl (Nat.le_of_ble_eq_true rfl) ?_
  refine mx_istore_n (L2 := [.ref a, .ref p0, .int r1.1]) (mx_d tX10_takePoint_0 3 rfl) rfl (by decide) (by rfl) ?_
  refine mx_iload_n (mx_d tX10_takePoint_0 4 rfl) rfl rfl ?_
  refine mx_iconst ((-1)) (mx_d tX10_takePoint_0 5 rfl) (by decide) ?_
  refine mx_icmp_eq (tgt := 15) (mx_d tX10_takePoint_0 6 rfl) (by decide) (fun hc2 => ?_) (fun hc2 => ?_)
  · rw [if_pos hc2] at h
    refine mx_iload_n (mx_d tX10_takePoint_0 9 rfl) rfl rfl ?_
    obtain rfl := Option.some.inj h
    exact mx_ireturn (mx_d tX10_takePoint_0 10 rfl) rfl ⟨rfl, rfl⟩
  · rw [if_neg hc2] at h
    refine mx_aload_n (mx_d tX10_takePoint_0 7 rfl) rfl rfl ?_
    obtain ⟨r3, h_r3, h⟩ := Option.bind_eq_some_iff.mp h
    refine mx_cVv (mx_d tX10_takePoint_0 8 rfl) iX10_65 rfl vX10_advance ⟨_, rfl, rfl⟩ (ly10_o h0) (CX10_advance h0 h_r3) (by decide) rfl rfl (Nat.le_of_ble_eq_true rfl) ?_
    refine mx_iload_n (mx_d tX10_takePoint_0 9 rfl) rfl rfl ?_
    obtain rfl := Option.some.inj h
    exact mx_ireturn (mx_d tX10_takePoint_0 10 rfl) rfl ⟨rfl, rfl⟩
def FX0_readFirst (a : Nat) (p0 : Nat) (p1 : Nat) (m : mB) : Option (Int32 × mB) := Option.bind (FX10_takePoint p0 p1 m) (fun r1 => (if r1.1 = (-1) then (some (0, r1.2)) else (if (r1.2.1 a 4) < 0 then (some (0, r1.2)) else (if (r1.2.1 a 4) < 40 then mx_chk (mx_inb (r1.2.1 a 4) 40) (mx_let (mx_up r1.2.1 (a + 2) (Int32.toNatClampNeg (r1.2.1 a 4)) r1.1, r1.2.2) (fun m5 => (some (1, m5)))) else (some (0, r1.2))))))
set_option maxRecDepth 20000 in
theorem CX0_readFirst {G : mG} {l : Launch} {e : mE} {a : Nat} {p0 : Nat} {p1 : Nat} {m : mB} {r : (Int32 × mB)} (h0 : ly0 e a) (h1 : ly10 e p0) (h2 : ly4 e p1) (h : FX0_readFirst a p0 p1 m = some r) : mx_Call G l MX0_readFirst 4 0 0 [.ref a, .ref p0, .ref p1] (e, m) (fun v z => v = some (.int r.1) ∧ z = (e, r.2)) := by
  refine mx_entry (L := [.ref a, .ref p0, .ref p1, .float 0]) (by decide +kernel) (Nat.le_of_ble_eq_true rfl) rfl ?_
  unfold FX0_readFirst at h
  refine mx_aload_n (mx_d tX0_readFirst_0 0 rfl) rfl rfl ?_
  refine mx_aload_n (mx_d tX0_readFirst_0 1 rfl) rfl rfl ?_
  obtain ⟨r1, h_r1, h⟩ := Option.bind_eq_some_iff.mp h
  refine mx_cVi (mx_d tX0_readFirst_0 2 rfl) iX0_88 rfl vX10_takePoint ⟨_, rfl, rfl⟩ (ly10_o h1) (CX10_takePoint h1 h2 h_r1) (by decide) rfl rfl (Nat.le_of_ble_eq_true rfl) ?_
  refine mx_istore_n (L2 := [.ref a, .ref p0, .ref p1, .int r1.1]) (mx_d tX0_readFirst_0 3 rfl) rfl (by decide) (by rfl) ?_
  refine mx_iload_n (mx_d tX0_readFirst_0 4 rfl) rfl rfl ?_
  refine mx_iconst ((-1)) (mx_d tX0_readFirst_0 5 rfl) (by decide) ?_
  refine mx_icmp_eq (tgt := 27) (mx_d tX0_readFirst_0 6 rfl) (by decide) (fun hc2 => ?_) (fun hc2 => ?_)
  · rw [if_pos hc2] at h
    refine mx_iconst (0) (mx_d tX0_readFirst_0 14 rfl) (by decide) ?_
    obtain rfl := Option.some.inj h
    exact mx_zreturn (mx_d tX0_readFirst_0 15 rfl) rfl rfl ⟨rfl, rfl⟩
  · rw [if_neg hc2] at h
    refine mx_aload_n (mx_d tX0_readFirst_0 7 rfl) rfl rfl ?_
    refine mx_getI (mx_d tX0_readFirst_0 8 rfl) fX0_41 rfl (Or.inl rfl) (ly0_o h0) ?_
    refine mx_if_lt (tgt := 27) (mx_d tX0_readFirst_0 9 rfl) (by decide) (fun hc3 => ?_) (fun hc3 => ?_)
    · rw [if_pos hc3] at h
      refine mx_iconst (0) (mx_d tX0_readFirst_0 14 rfl) (by decide) ?_
      obtain rfl := Option.some.inj h
      exact mx_zreturn (mx_d tX0_readFirst_0 15 rfl) rfl rfl ⟨rfl, rfl⟩
    · rw [if_neg hc3] at h
      refine mx_aload_n (mx_d tX0_readFirst_0 10 rfl) rfl rfl ?_
      refine mx_getI (mx_d tX0_readFirst_0 11 rfl) fX0_41 rfl (Or.inl rfl) (ly0_o h0) ?_
      refine mx_bipush (40) (mx_d tX0_readFirst_0 12 rfl) (by decide) ?_
      refine mx_icmp_lt (tgt := 29) (mx_d tX0_readFirst_0 13 rfl) (by decide) (fun hc4 => ?_) (fun hc4 => ?_)
      · rw [if_pos hc4] at h
        refine mx_aload_n (mx_d tX0_readFirst_0 16 rfl) rfl rfl ?_
        refine mx_getR (mx_d tX0_readFirst_0 17 rfl) fX0_15 rfl rfl (ly0_o h0) (ly0_r1 h0) ?_
        refine mx_aload_n (mx_d tX0_readFirst_0 18 rfl) rfl rfl ?_
        refine mx_getI (mx_d tX0_readFirst_0 19 rfl) fX0_41 rfl (Or.inl rfl) (ly0_o h0) ?_
        refine mx_iload_n (mx_d tX0_readFirst_0 20 rfl) rfl rfl ?_
        obtain ⟨hi6, h⟩ := mx_chkE h
        obtain ⟨m5, e_m5, h⟩ := mx_letE h
        refine mx_iastore (mx_d tX0_readFirst_0 21 rfl) (ly0_s1 h0) (mx_inbE hi6) (mx_eqz (z' := (e, m5)) (by rw [e_m5]) ?_)
        refine mx_iconst (1) (mx_d tX0_readFirst_0 22 rfl) (by decide) ?_
        obtain rfl := Option.some.inj h
        exact mx_zreturn (mx_d tX0_readFirst_0 23 rfl) rfl rfl ⟨rfl, rfl⟩
      · rw [if_neg hc4] at h
        refine mx_iconst (0) (mx_d tX0_readFirst_0 14 rfl) (by decide) ?_
        obtain rfl := Option.some.inj h
        exact mx_zreturn (mx_d tX0_readFirst_0 15 rfl) rfl rfl ⟨rfl, rfl⟩
def FX0_readTwo (a : Nat) (p0 : Nat) (p1 : Nat) (m : mB) : Option (Int32 × mB) := Option.bind (FX0_readFirst a p0 p1 m) (fun r1 => (if r1.1 = 0 then (some (0, r1.2)) else Option.bind (FX10_pointHere p0 p1 r1.2) (fun r3 => (if r3.1 = (-1) then (some (0, r3.2)) else (if (r3.2.1 a 4) < 0 then (some (0, r3.2)) else (if (r3.2.1 a 4) < 40 then mx_chk (mx_inb (r3.2.1 a 4) 40) ((if r3.1 = (r3.2.1 (a + 2) (Int32.toNatClampNeg (r3.2.1 a 4))) then Option.bind (FX10_fail p0 3 r3.2) (fun r11 => mx_chk (mx_b01 r11.1) ((some (r11.1, r11.2)))) else mx_let (mx_up r3.2.1 (a + 3) (Int32.toNatClampNeg (r3.2.1 a 4)) r3.1, r3.2.2) (fun m9 => Option.bind (FX10_advance p0 m9) (fun r10 => (some (1, r10)))))) else (some (0, r3.2))))))))
set_option maxRecDepth 20000 in
theorem CX0_readTwo {G : mG} {l : Launch} {e : mE} {a : Nat} {p0 : Nat} {p1 : Nat} {m : mB} {r : (Int32 × mB)} (h0 : ly0 e a) (h1 : ly10 e p0) (h2 : ly4 e p1) (h : FX0_readTwo a p0 p1 m = some r) : mx_Call G l MX0_readTwo 5 0 0 [.ref a, .ref p0, .ref p1] (e, m) (fun v z => v = some (.int r.1) ∧ z = (e, r.2)) := by
  refine mx_entry (L := [.ref a, .ref p0, .ref p1, .float 0]) (by decide +kernel) (Nat.le_of_ble_eq_true rfl) rfl ?_
  unfold FX0_readTwo at h
  refine mx_aload_n (mx_d tX0_readTwo_0 0 rfl) rfl rfl ?_
  refine mx_aload_n (mx_d tX0_readTwo_0 1 rfl) rfl rfl ?_
  refine mx_aload_n (mx_d tX0_readTwo_0 2 rfl) rfl rfl ?_
  obtain ⟨r1, h_r1, h⟩ := Option.bind_eq_some_iff.mp h
  refine mx_cVi (mx_d tX0_readTwo_0 3 rfl) iX0_81 rfl vX0_readFirst ⟨_, rfl, rfl⟩ (ly0_o h0) (CX0_readFirst h0 h1 h2 h_r1) (by decide) rfl rfl (Nat.le_of_ble_eq_true rfl) ?_
  refine mx_if_ne (tgt := 11) (mx_d tX0_readTwo_0 4 rfl) (by decide) (fun hc2 => ?_) (fun hc2 => ?_)
  · rw [if_neg hc2] at h
    refine mx_aload_n (mx_d tX0_readTwo_0 7 rfl) rfl rfl ?_
    refine mx_aload_n (mx_d tX0_readTwo_0 8 rfl) rfl rfl ?_
    obtain ⟨r3, h_r3, h⟩ := Option.bind_eq_some_iff.mp h
    refine mx_cVi (mx_d tX0_readTwo_0 9 rfl) iX0_92 rfl vX10_pointHere ⟨_, rfl, rfl⟩ (ly10_o h1) (CX10_pointHere h1 h2 h_r3) (by decide) rfl rfl (Nat.le_of_ble_eq_true rfl) ?_
    refine mx_istore_n (L2 := [.ref a, .ref p0, .ref p1, .int r3.1]) (mx_d tX0_readTwo_0 10 rfl) rfl (by decide) (by rfl) ?_
    refine mx_iload_n (mx_d tX0_readTwo_0 11 rfl) rfl rfl ?_
    refine mx_iconst ((-1)) (mx_d tX0_readTwo_0 12 rfl) (by decide) ?_
    refine mx_icmp_eq (tgt := 38) (mx_d tX0_readTwo_0 13 rfl) (by decide) (fun hc4 => ?_) (fun hc4 => ?_)
    · rw [if_pos hc4] at h
      refine mx_iconst (0) (mx_d tX0_readTwo_0 21 rfl) (by decide) ?_
      obtain rfl := Option.some.inj h
      exact mx_zreturn (mx_d tX0_readTwo_0 22 rfl) rfl rfl ⟨rfl, rfl⟩
    · rw [if_neg hc4] at h
      refine mx_aload_n (mx_d tX0_readTwo_0 14 rfl) rfl rfl ?_
      refine mx_getI (mx_d tX0_readTwo_0 15 rfl) fX0_41 rfl (Or.inl rfl) (ly0_o h0) ?_
      refine mx_if_lt (tgt := 38) (mx_d tX0_readTwo_0 16 rfl) (by decide) (fun hc5 => ?_) (fun hc5 => ?_)
      · rw [if_pos hc5] at h
        refine mx_iconst (0) (mx_d tX0_readTwo_0 21 rfl) (by decide) ?_
        obtain rfl := Option.some.inj h
        exact mx_zreturn (mx_d tX0_readTwo_0 22 rfl) rfl rfl ⟨rfl, rfl⟩
      · rw [if_neg hc5] at h
        refine mx_aload_n (mx_d tX0_readTwo_0 17 rfl) rfl rfl ?_
        refine mx_getI (mx_d tX0_readTwo_0 18 rfl) fX0_41 rfl (Or.inl rfl) (ly0_o h0) ?_
        refine mx_bipush (40) (mx_d tX0_readTwo_0 19 rfl) (by decide) ?_
        refine mx_icmp_lt (tgt := 40) (mx_d tX0_readTwo_0 20 rfl) (by decide) (fun hc6 => ?_) (fun hc6 => ?_)
        · rw [if_pos hc6] at h
          refine mx_iload_n (mx_d tX0_readTwo_0 23 rfl) rfl rfl ?_
          refine mx_aload_n (mx_d tX0_readTwo_0 24 rfl) rfl rfl ?_
          refine mx_getR (mx_d tX0_readTwo_0 25 rfl) fX0_15 rfl rfl (ly0_o h0) (ly0_r1 h0) ?_
          refine mx_aload_n (mx_d tX0_readTwo_0 26 rfl) rfl rfl ?_
          refine mx_getI (mx_d tX0_readTwo_0 27 rfl) fX0_41 rfl (Or.inl rfl) (ly0_o h0) ?_
          obtain ⟨hi7, h⟩ := mx_chkE h
          refine mx_iaload (mx_d tX0_readTwo_0 28 rfl) (ly0_s1 h0) (mx_inbE hi7) ?_
          refine mx_icmp_ne (tgt := 59) (mx_d tX0_readTwo_0 29 rfl) (by decide) (fun hc8 => ?_) (fun hc8 => ?_)
          · rw [if_neg hc8] at h
            refine mx_aload_n (mx_d tX0_readTwo_0 34 rfl) rfl rfl ?_
            refine mx_getR (mx_d tX0_readTwo_0 35 rfl) fX0_18 rfl rfl (ly0_o h0) (ly0_r2 h0) ?_
            refine mx_aload_n (mx_d tX0_readTwo_0 36 rfl) rfl rfl ?_
            refine mx_getI (mx_d tX0_readTwo_0 37 rfl) fX0_41 rfl (Or.inl rfl) (ly0_o h0) ?_
            refine mx_iload_n (mx_d tX0_readTwo_0 38 rfl) rfl rfl ?_
            obtain ⟨m9, e_m9, h⟩ := mx_letE h
            refine mx_iastore (mx_d tX0_readTwo_0 39 rfl) (ly0_s2 h0) (mx_inbE hi7) (mx_eqz (z' := (e, m9)) (by rw [e_m9]) ?_)
            refine mx_aload_n (mx_d tX0_readTwo_0 40 rfl) rfl rfl ?_
            obtain ⟨r10, h_r10, h⟩ := Option.bind_eq_some_iff.mp h
            refine mx_cVv (mx_d tX0_readTwo_0 41 rfl) iX0_71 rfl vX10_advance ⟨_, rfl, rfl⟩ (ly10_o h1) (CX10_advance h1 h_r10) (by decide) rfl rfl (Nat.le_of_ble_eq_true rfl) ?_
            refine mx_iconst (1) (mx_d tX0_readTwo_0 42 rfl) (by decide) ?_
            obtain rfl := Option.some.inj h
            exact mx_zreturn (mx_d tX0_readTwo_0 43 rfl) rfl rfl ⟨rfl, rfl⟩
          · rw [if_pos hc8] at h
            refine mx_aload_n (mx_d tX0_readTwo_0 30 rfl) rfl rfl ?_
            refine mx_iconst (3) (mx_d tX0_readTwo_0 31 rfl) (by decide) ?_
            obtain ⟨r11, h_r11, h⟩ := Option.bind_eq_some_iff.mp h
            refine mx_cVi (mx_d tX0_readTwo_0 32 rfl) iX0_68 rfl vX10_fail ⟨_, rfl, rfl⟩ (ly10_o h1) (CX10_fail h1 h_r11) (by decide) rfl rfl (Nat.le_of_ble_eq_true rfl) ?_
            obtain ⟨hb12, h⟩ := mx_chkE h
            obtain rfl := Option.some.inj h
            exact mx_zreturn (mx_d tX0_readTwo_0 33 rfl) rfl (mx_nb (mx_b01E hb12)) ⟨rfl, rfl⟩
        · rw [if_neg hc6] at h
          refine mx_iconst (0) (mx_d tX0_readTwo_0 21 rfl) (by decide) ?_
          obtain rfl := Option.some.inj h
          exact mx_zreturn (mx_d tX0_readTwo_0 22 rfl) rfl rfl ⟨rfl, rfl⟩
  · rw [if_pos hc2] at h
    refine mx_iconst (0) (mx_d tX0_readTwo_0 5 rfl) (by decide) ?_
    obtain rfl := Option.some.inj h
    exact mx_zreturn (mx_d tX0_readTwo_0 6 rfl) rfl rfl ⟨rfl, rfl⟩
def FX10_takeNumber (a : Nat) (x0 : Int32) (x1 : Int32) (m : mB) : Option (Int32 × mB) := (if (m.1 a 6) = 3 then (if (m.1 a 8) < x0 then Option.bind (FX10_fail a 2 m) (fun r3 => (some ((-1), r3.2))) else (if (m.1 a 8) ≤ x1 then mx_let (m.1 a 8) (fun v5 => Option.bind (FX10_advance a m) (fun r6 => (some (v5, r6)))) else Option.bind (FX10_fail a 2 m) (fun r7 => (some ((-1), r7.2))))) else Option.bind (FX10_fail a 1 m) (fun r8 => (some ((-1), r8.2))))
set_option maxRecDepth 20000 in
theorem CX10_takeNumber {G : mG} {l : Launch} {e : mE} {a : Nat} {x0 : Int32} {x1 : Int32} {m : mB} {r : (Int32 × mB)} (h0 : ly10 e a) (h : FX10_takeNumber a x0 x1 m = some r) : mx_Call G l MX10_takeNumber 3 0 0 [.ref a, .int x0, .int x1] (e, m) (fun v z => v = some (.int r.1) ∧ z = (e, r.2)) := by
  refine mx_entry (L := [.ref a, .int x0, .int x1, .float 0]) (by decide +kernel) (Nat.le_of_ble_eq_true rfl) rfl ?_
  unfold FX10_takeNumber at h
  refine mx_aload_n (mx_d tX10_takeNumber_0 0 rfl) rfl rfl ?_
  refine mx_getI (mx_d tX10_takeNumber_0 1 rfl) fX10_42 rfl (Or.inl rfl) (ly10_o h0) ?_
  refine mx_iconst (3) (mx_d tX10_takeNumber_0 2 rfl) (by decide) ?_
  refine mx_icmp_eq (tgt := 16) (mx_d tX10_takeNumber_0 3 rfl) (by decide) (fun hc1 => ?_) (fun hc1 => ?_)
  · rw [if_pos hc1] at h
    refine mx_aload_n (mx_d tX10_takeNumber_0 10 rfl) rfl rfl ?_
    refine mx_getI (mx_d tX10_takeNumber_0 11 rfl) fX10_78 rfl (Or.inl rfl) (ly10_o h0) ?_
    refine mx_iload_n (mx_d tX10_takeNumber_0 12 rfl) rfl rfl ?_
    refine mx_icmp_lt (tgt := 32) (mx_d tX10_takeNumber_0 13 rfl) (by decide) (fun hc2 => ?_) (fun hc2 => ?_)
    · rw [if_pos hc2] at h
      refine mx_aload_n (mx_d tX10_takeNumber_0 18 rfl) rfl rfl ?_
      refine mx_iconst (2) (mx_d tX10_takeNumber_0 19 rfl) (by decide) ?_
      obtain ⟨r3, h_r3, h⟩ := Option.bind_eq_some_iff.mp h
      refine mx_cVi (mx_d tX10_takeNumber_0 20 rfl) iX10_81 rfl vX10_fail ⟨_, rfl, rfl⟩ (ly10_o h0) (CX10_fail h0 h_r3) (by decide) rfl rfl (Nat.le_of_ble_eq_true rfl) ?_
      refine mx_pop (mx_d tX10_takeNumber_0 21 rfl) rfl ?_
      refine mx_iconst ((-1)) (mx_d tX10_takeNumber_0 22 rfl) (by decide) ?_
      obtain rfl := Option.some.inj h
      exact mx_ireturn (mx_d tX10_takeNumber_0 23 rfl) rfl ⟨rfl, rfl⟩
    · rw [if_neg hc2] at h
      refine mx_aload_n (mx_d tX10_takeNumber_0 14 rfl) rfl rfl ?_
      refine mx_getI (mx_d tX10_takeNumber_0 15 rfl) fX10_78 rfl (Or.inl rfl) (ly10_o h0) ?_
      refine mx_iload_n (mx_d tX10_takeNumber_0 16 rfl) rfl rfl ?_
      refine mx_icmp_le (tgt := 40) (mx_d tX10_takeNumber_0 17 rfl) (by decide) (fun hc4 => ?_) (fun hc4 => ?_)
      · rw [if_pos hc4] at h
        refine mx_aload_n (mx_d tX10_takeNumber_0 24 rfl) rfl rfl ?_
        refine mx_getI (mx_d tX10_takeNumber_0 25 rfl) fX10_78 rfl (Or.inl rfl) (ly10_o h0) ?_
        obtain ⟨v5, e_v5, h⟩ := mx_letE h
        refine mx_istore_n (L2 := [.ref a, .int x0, .int x1, .int v5]) (mx_d tX10_takeNumber_0 26 rfl) rfl (by decide) (by rw [e_v5]; rfl) ?_
        refine mx_aload_n (mx_d tX10_takeNumber_0 27 rfl) rfl rfl ?_
        obtain ⟨r6, h_r6, h⟩ := Option.bind_eq_some_iff.mp h
        refine mx_cVv (mx_d tX10_takeNumber_0 28 rfl) iX10_65 rfl vX10_advance ⟨_, rfl, rfl⟩ (ly10_o h0) (CX10_advance h0 h_r6) (by decide) rfl rfl (Nat.le_of_ble_eq_true rfl) ?_
        refine mx_iload_n (mx_d tX10_takeNumber_0 29 rfl) rfl rfl ?_
        obtain rfl := Option.some.inj h
        exact mx_ireturn (mx_d tX10_takeNumber_0 30 rfl) rfl ⟨rfl, rfl⟩
      · rw [if_neg hc4] at h
        refine mx_aload_n (mx_d tX10_takeNumber_0 18 rfl) rfl rfl ?_
        refine mx_iconst (2) (mx_d tX10_takeNumber_0 19 rfl) (by decide) ?_
        obtain ⟨r7, h_r7, h⟩ := Option.bind_eq_some_iff.mp h
        refine mx_cVi (mx_d tX10_takeNumber_0 20 rfl) iX10_81 rfl vX10_fail ⟨_, rfl, rfl⟩ (ly10_o h0) (CX10_fail h0 h_r7) (by decide) rfl rfl (Nat.le_of_ble_eq_true rfl) ?_
        refine mx_pop (mx_d tX10_takeNumber_0 21 rfl) rfl ?_
        refine mx_iconst ((-1)) (mx_d tX10_takeNumber_0 22 rfl) (by decide) ?_
        obtain rfl := Option.some.inj h
        exact mx_ireturn (mx_d tX10_takeNumber_0 23 rfl) rfl ⟨rfl, rfl⟩
  · rw [if_neg hc1] at h
    refine mx_aload_n (mx_d tX10_takeNumber_0 4 rfl) rfl rfl ?_
    refine mx_iconst (1) (mx_d tX10_takeNumber_0 5 rfl) (by decide) ?_
    obtain ⟨r8, h_r8, h⟩ := Option.bind_eq_some_iff.mp h
    refine mx_cVi (mx_d tX10_takeNumber_0 6 rfl) iX10_81 rfl vX10_fail ⟨_, rfl, rfl⟩ (ly10_o h0) (CX10_fail h0 h_r8) (by decide) rfl rfl (Nat.le_of_ble_eq_true rfl) ?_
    refine mx_pop (mx_d tX10_takeNumber_0 7 rfl) rfl ?_
    refine mx_iconst ((-1)) (mx_d tX10_takeNumber_0 8 rfl) (by decide) ?_
    obtain rfl := Option.some.inj h
    exact mx_ireturn (mx_d tX10_takeNumber_0 9 rfl) rfl ⟨rfl, rfl⟩
def FX0_readThird (a : Nat) (p0 : Nat) (x1 : Int32) (x2 : Int32) (m : mB) : Option (Int32 × mB) := Option.bind (FX10_takeNumber p0 x1 x2 m) (fun r1 => (if r1.1 = (-1) then (some (0, r1.2)) else (if (r1.2.1 a 4) < 0 then (some (0, r1.2)) else (if (r1.2.1 a 4) < 40 then mx_chk (mx_inb (r1.2.1 a 4) 40) (mx_let (mx_up r1.2.1 (a + 4) (Int32.toNatClampNeg (r1.2.1 a 4)) r1.1, r1.2.2) (fun m5 => (some (1, m5)))) else (some (0, r1.2))))))
set_option maxRecDepth 20000 in
theorem CX0_readThird {G : mG} {l : Launch} {e : mE} {a : Nat} {p0 : Nat} {x1 : Int32} {x2 : Int32} {m : mB} {r : (Int32 × mB)} (h0 : ly0 e a) (h1 : ly10 e p0) (h : FX0_readThird a p0 x1 x2 m = some r) : mx_Call G l MX0_readThird 4 0 0 [.ref a, .ref p0, .int x1, .int x2] (e, m) (fun v z => v = some (.int r.1) ∧ z = (e, r.2)) := by
  refine mx_entry (L := [.ref a, .ref p0, .int x1, .int x2, .float 0]) (by decide +kernel) (Nat.le_of_ble_eq_true rfl) rfl ?_
  unfold FX0_readThird at h
  refine mx_aload_n (mx_d tX0_readThird_0 0 rfl) rfl rfl ?_
  refine mx_iload_n (mx_d tX0_readThird_0 1 rfl) rfl rfl ?_
  refine mx_iload_n (mx_d tX0_readThird_0 2 rfl) rfl rfl ?_
  obtain ⟨r1, h_r1, h⟩ := Option.bind_eq_some_iff.mp h
  refine mx_cVi (mx_d tX0_readThird_0 3 rfl) iX0_95 rfl vX10_takeNumber ⟨_, rfl, rfl⟩ (ly10_o h1) (CX10_takeNumber h1 h_r1) (by decide) rfl rfl (Nat.le_of_ble_eq_true rfl) ?_
  refine mx_istore (L2 := [.ref a, .ref p0, .int x1, .int x2, .int r1.1]) (mx_d tX0_readThird_0 4 rfl) (by decide) (by rfl) ?_
  refine mx_iload (mx_d tX0_readThird_0 5 rfl) rfl ?_
  refine mx_iconst ((-1)) (mx_d tX0_readThird_0 6 rfl) (by decide) ?_
  refine mx_icmp_eq (tgt := 30) (mx_d tX0_readThird_0 7 rfl) (by decide) (fun hc2 => ?_) (fun hc2 => ?_)
  · rw [if_pos hc2] at h
    refine mx_iconst (0) (mx_d tX0_readThird_0 15 rfl) (by decide) ?_
    obtain rfl := Option.some.inj h
    exact mx_zreturn (mx_d tX0_readThird_0 16 rfl) rfl rfl ⟨rfl, rfl⟩
  · rw [if_neg hc2] at h
    refine mx_aload_n (mx_d tX0_readThird_0 8 rfl) rfl rfl ?_
    refine mx_getI (mx_d tX0_readThird_0 9 rfl) fX0_41 rfl (Or.inl rfl) (ly0_o h0) ?_
    refine mx_if_lt (tgt := 30) (mx_d tX0_readThird_0 10 rfl) (by decide) (fun hc3 => ?_) (fun hc3 => ?_)
    · rw [if_pos hc3] at h
      refine mx_iconst (0) (mx_d tX0_readThird_0 15 rfl) (by decide) ?_
      obtain rfl := Option.some.inj h
      exact mx_zreturn (mx_d tX0_readThird_0 16 rfl) rfl rfl ⟨rfl, rfl⟩
    · rw [if_neg hc3] at h
      refine mx_aload_n (mx_d tX0_readThird_0 11 rfl) rfl rfl ?_
      refine mx_getI (mx_d tX0_readThird_0 12 rfl) fX0_41 rfl (Or.inl rfl) (ly0_o h0) ?_
      refine mx_bipush (40) (mx_d tX0_readThird_0 13 rfl) (by decide) ?_
      refine mx_icmp_lt (tgt := 32) (mx_d tX0_readThird_0 14 rfl) (by decide) (fun hc4 => ?_) (fun hc4 => ?_)
      · rw [if_pos hc4] at h
        refine mx_aload_n (mx_d tX0_readThird_0 17 rfl) rfl rfl ?_
        refine mx_getR (mx_d tX0_readThird_0 18 rfl) fX0_21 rfl rfl (ly0_o h0) (ly0_r3 h0) ?_
        refine mx_aload_n (mx_d tX0_readThird_0 19 rfl) rfl rfl ?_
        refine mx_getI (mx_d tX0_readThird_0 20 rfl) fX0_41 rfl (Or.inl rfl) (ly0_o h0) ?_
        refine mx_iload (mx_d tX0_readThird_0 21 rfl) rfl ?_
        obtain ⟨hi6, h⟩ := mx_chkE h
        obtain ⟨m5, e_m5, h⟩ := mx_letE h
        refine mx_iastore (mx_d tX0_readThird_0 22 rfl) (ly0_s3 h0) (mx_inbE hi6) (mx_eqz (z' := (e, m5)) (by rw [e_m5]) ?_)
        refine mx_iconst (1) (mx_d tX0_readThird_0 23 rfl) (by decide) ?_
        obtain rfl := Option.some.inj h
        exact mx_zreturn (mx_d tX0_readThird_0 24 rfl) rfl rfl ⟨rfl, rfl⟩
      · rw [if_neg hc4] at h
        refine mx_iconst (0) (mx_d tX0_readThird_0 15 rfl) (by decide) ?_
        obtain rfl := Option.some.inj h
        exact mx_zreturn (mx_d tX0_readThird_0 16 rfl) rfl rfl ⟨rfl, rfl⟩
def FX0_readNumber (a : Nat) (p0 : Nat) (m : mB) : Option (Int32 × mB) := Option.bind (FX10_takeNumber p0 0 5 m) (fun r1 => (if r1.1 = (-1) then (some (0, r1.2)) else (if (r1.2.1 a 4) < 0 then (some (0, r1.2)) else (if (r1.2.1 a 4) < 40 then mx_chk (mx_inb (r1.2.1 a 4) 40) (mx_let (mx_up r1.2.1 (a + 2) (Int32.toNatClampNeg (r1.2.1 a 4)) r1.1, r1.2.2) (fun m5 => (some (1, m5)))) else (some (0, r1.2))))))
set_option maxRecDepth 20000 in
theorem CX0_readNumber {G : mG} {l : Launch} {e : mE} {a : Nat} {p0 : Nat} {m : mB} {r : (Int32 × mB)} (h0 : ly0 e a) (h1 : ly10 e p0) (h : FX0_readNumber a p0 m = some r) : mx_Call G l MX0_readNumber 4 0 0 [.ref a, .ref p0] (e, m) (fun v z => v = some (.int r.1) ∧ z = (e, r.2)) := by
  refine mx_entry (L := [.ref a, .ref p0, .float 0]) (by decide +kernel) (Nat.le_of_ble_eq_true rfl) rfl ?_
  unfold FX0_readNumber at h
  refine mx_aload_n (mx_d tX0_readNumber_0 0 rfl) rfl rfl ?_
  refine mx_iconst (0) (mx_d tX0_readNumber_0 1 rfl) (by decide) ?_
  refine mx_iconst (5) (mx_d tX0_readNumber_0 2 rfl) (by decide) ?_
  obtain ⟨r1, h_r1, h⟩ := Option.bind_eq_some_iff.mp h
  refine mx_cVi (mx_d tX0_readNumber_0 3 rfl) iX0_95 rfl vX10_takeNumber ⟨_, rfl, rfl⟩ (ly10_o h1) (CX10_takeNumber h1 h_r1) (by decide) rfl rfl (Nat.le_of_ble_eq_true rfl) ?_
  refine mx_istore_n (L2 := [.ref a, .ref p0, .int r1.1]) (mx_d tX0_readNumber_0 4 rfl) rfl (by decide) (by rfl) ?_
  refine mx_iload_n (mx_d tX0_readNumber_0 5 rfl) rfl rfl ?_
  refine mx_iconst ((-1)) (mx_d tX0_readNumber_0 6 rfl) (by decide) ?_
  refine mx_icmp_eq (tgt := 28) (mx_d tX0_readNumber_0 7 rfl) (by decide) (fun hc2 => ?_) (fun hc2 => ?_)
  · rw [if_pos hc2] at h
    refine mx_iconst (0) (mx_d tX0_readNumber_0 15 rfl) (by decide) ?_
    obtain rfl := Option.some.inj h
    exact mx_zreturn (mx_d tX0_readNumber_0 16 rfl) rfl rfl ⟨rfl, rfl⟩
  · rw [if_neg hc2] at h
    refine mx_aload_n (mx_d tX0_readNumber_0 8 rfl) rfl rfl ?_
    refine mx_getI (mx_d tX0_readNumber_0 9 rfl) fX0_41 rfl (Or.inl rfl) (ly0_o h0) ?_
    refine mx_if_lt (tgt := 28) (mx_d tX0_readNumber_0 10 rfl) (by decide) (fun hc3 => ?_) (fun hc3 => ?_)
    · rw [if_pos hc3] at h
      refine mx_iconst (0) (mx_d tX0_readNumber_0 15 rfl) (by decide) ?_
      obtain rfl := Option.some.inj h
      exact mx_zreturn (mx_d tX0_readNumber_0 16 rfl) rfl rfl ⟨rfl, rfl⟩
    · rw [if_neg hc3] at h
      refine mx_aload_n (mx_d tX0_readNumber_0 11 rfl) rfl rfl ?_
      refine mx_getI (mx_d tX0_readNumber_0 12 rfl) fX0_41 rfl (Or.inl rfl) (ly0_o h0) ?_
      refine mx_bipush (40) (mx_d tX0_readNumber_0 13 rfl) (by decide) ?_
      refine mx_icmp_lt (tgt := 30) (mx_d tX0_readNumber_0 14 rfl) (by decide) (fun hc4 => ?_) (fun hc4 => ?_)
      · rw [if_pos hc4] at h
        refine mx_aload_n (mx_d tX0_readNumber_0 17 rfl) rfl rfl ?_
        refine mx_getR (mx_d tX0_readNumber_0 18 rfl) fX0_15 rfl rfl (ly0_o h0) (ly0_r1 h0) ?_
        refine mx_aload_n (mx_d tX0_readNumber_0 19 rfl) rfl rfl ?_
        refine mx_getI (mx_d tX0_readNumber_0 20 rfl) fX0_41 rfl (Or.inl rfl) (ly0_o h0) ?_
        refine mx_iload_n (mx_d tX0_readNumber_0 21 rfl) rfl rfl ?_
        obtain ⟨hi6, h⟩ := mx_chkE h
        obtain ⟨m5, e_m5, h⟩ := mx_letE h
        refine mx_iastore (mx_d tX0_readNumber_0 22 rfl) (ly0_s1 h0) (mx_inbE hi6) (mx_eqz (z' := (e, m5)) (by rw [e_m5]) ?_)
        refine mx_iconst (1) (mx_d tX0_readNumber_0 23 rfl) (by decide) ?_
        obtain rfl := Option.some.inj h
        exact mx_zreturn (mx_d tX0_readNumber_0 24 rfl) rfl rfl ⟨rfl, rfl⟩
      · rw [if_neg hc4] at h
        refine mx_iconst (0) (mx_d tX0_readNumber_0 15 rfl) (by decide) ?_
        obtain rfl := Option.some.inj h
        exact mx_zreturn (mx_d tX0_readNumber_0 16 rfl) rfl rfl ⟨rfl, rfl⟩
def FX0_readLine (a : Nat) (p0 : Nat) (p1 : Nat) (m : mB) : Option (Int32 × mB) := Option.bind (FX10_kind p0 m) (fun r1 => Option.bind (FX0_isDeed r1 m) (fun r2 => (if r2 = 0 then Option.bind (FX10_fail p0 1 m) (fun r38 => mx_chk (mx_b01 r38.1) ((some (r38.1, r38.2)))) else (if (m.1 a 4) < 0 then Option.bind (FX10_fail p0 4 m) (fun r5 => mx_chk (mx_b01 r5.1) ((some (r5.1, r5.2)))) else (if (m.1 a 4) < 40 then mx_chk (mx_inb (m.1 a 4) 40) (mx_let (mx_up m.1 (a + 1) (Int32.toNatClampNeg (m.1 a 4)) r1, m.2) (fun m8 => Option.bind (FX10_advance p0 m8) (fun r10 => (if r1 = 102 then Option.bind (FX0_readTwo a p0 p1 r10) (fun r12 => mx_chk (mx_b01 r12.1) ((some (r12.1, r12.2)))) else if r1 = 103 then Option.bind (FX0_readFirst a p0 p1 r10) (fun r15 => (if r15.1 = 0 then (some (0, r15.2)) else Option.bind (FX0_readThird a p0 0 400 r15.2) (fun r17 => (if r17.1 = 0 then (some (0, r17.2)) else (some (1, r17.2)))))) else if r1 = 106 then Option.bind (FX0_readTwo a p0 p1 r10) (fun r20 => (if r20.1 = 0 then (some (0, r20.2)) else Option.bind (FX0_readThird a p0 1 99 r20.2) (fun r22 => (if r22.1 = 0 then (some (0, r22.2)) else (some (1, r22.2)))))) else if r1 = 107 then Option.bind (FX0_readNumber a p0 r10) (fun r25 => (if r25.1 = 0 then (some (0, r25.2)) else Option.bind (FX0_readThird a p0 0 400 r25.2) (fun r27 => (if r27.1 = 0 then (some (0, r27.2)) else (some (1, r27.2)))))) else if r1 = 108 then Option.bind (FX0_readNumber a p0 r10) (fun r30 => mx_chk (mx_b01 r30.1) ((some (r30.1, r30.2)))) else Option.bind (FX0_readFirst a p0 p1 r10) (fun r32 => mx_chk (mx_b01 r32.1) ((some (r32.1, r32.2)))))))) else Option.bind (FX10_fail p0 4 m) (fun r36 => mx_chk (mx_b01 r36.1) ((some (r36.1, r36.2)))))))))
set_option maxRecDepth 20000 in
theorem CX0_readLine {G : mG} {l : Launch} {e : mE} {a : Nat} {p0 : Nat} {p1 : Nat} {m : mB} {r : (Int32 × mB)} (h0 : ly0 e a) (h1 : ly10 e p0) (h2 : ly4 e p1) (h : FX0_readLine a p0 p1 m = some r) : mx_Call G l MX0_readLine 6 0 0 [.ref a, .ref p0, .ref p1] (e, m) (fun v z => v = some (.int r.1) ∧ z = (e, r.2)) := by
  refine mx_entry (L := [.ref a, .ref p0, .ref p1, .float 0]) (by decide +kernel) (Nat.le_of_ble_eq_true rfl) rfl ?_
  unfold FX0_readLine at h
  refine mx_aload_n (mx_d tX0_readLine_0 0 rfl) rfl rfl ?_
  obtain ⟨r1, h_r1, h⟩ := Option.bind_eq_some_iff.mp h
  refine mx_cVi (mx_d tX0_readLine_0 1 rfl) iX0_50 rfl vX10_kind ⟨_, rfl, rfl⟩ (ly10_o h1) (CX10_kind h1 h_r1) (by decide) rfl rfl (Nat.le_of_ble_eq_true rfl) ?_
  refine mx_istore_n (L2 := [.ref a, .ref p0, .ref p1, .int r1]) (mx_d tX0_readLine_0 2 rfl) rfl (by decide) (by rfl) ?_
  refine mx_iload_n (mx_d tX0_readLine_0 3 rfl) rfl rfl ?_
  obtain ⟨r2, h_r2, h⟩ := Option.bind_eq_some_iff.mp h
  refine mx_cSi (mx_d tX0_readLine_0 4 rfl) iX0_65 rfl sX0_isDeed (CX0_isDeed  h_r2) (by decide) rfl rfl (Nat.le_of_ble_eq_true rfl) ?_
  refine mx_if_ne (tgt := 18) (mx_d tX0_readLine_0 5 rfl) (by decide) (fun hc3 => ?_) (fun hc3 => ?_)
  · rw [if_neg hc3] at h
    refine mx_aload_n (mx_d tX0_readLine_0 10 rfl) rfl rfl ?_
    refine mx_getI (mx_d tX0_readLine_0 11 rfl) fX0_41 rfl (Or.inl rfl) (ly0_o h0) ?_
    refine mx_if_lt (tgt := 34) (mx_d tX0_readLine_0 12 rfl) (by decide) (fun hc4 => ?_) (fun hc4 => ?_)
    · rw [if_pos hc4] at h
      refine mx_aload_n (mx_d tX0_readLine_0 17 rfl) rfl rfl ?_
      refine mx_iconst (4) (mx_d tX0_readLine_0 18 rfl) (by decide) ?_
      obtain ⟨r5, h_r5, h⟩ := Option.bind_eq_some_iff.mp h
      refine mx_cVi (mx_d tX0_readLine_0 19 rfl) iX0_68 rfl vX10_fail ⟨_, rfl, rfl⟩ (ly10_o h1) (CX10_fail h1 h_r5) (by decide) rfl rfl (Nat.le_of_ble_eq_true rfl) ?_
      obtain ⟨hb6, h⟩ := mx_chkE h
      obtain rfl := Option.some.inj h
      exact mx_zreturn (mx_d tX0_readLine_0 20 rfl) rfl (mx_nb (mx_b01E hb6)) ⟨rfl, rfl⟩
    · rw [if_neg hc4] at h
      refine mx_aload_n (mx_d tX0_readLine_0 13 rfl) rfl rfl ?_
      refine mx_getI (mx_d tX0_readLine_0 14 rfl) fX0_41 rfl (Or.inl rfl) (ly0_o h0) ?_
      refine mx_bipush (40) (mx_d tX0_readLine_0 15 rfl) (by decide) ?_
      refine mx_icmp_lt (tgt := 40) (mx_d tX0_readLine_0 16 rfl) (by decide) (fun hc7 => ?_) (fun hc7 => ?_)
      · rw [if_pos hc7] at h
        refine mx_aload_n (mx_d tX0_readLine_0 21 rfl) rfl rfl ?_
        refine mx_getR (mx_d tX0_readLine_0 22 rfl) fX0_9 rfl rfl (ly0_o h0) (ly0_r0 h0) ?_
        refine mx_aload_n (mx_d tX0_readLine_0 23 rfl) rfl rfl ?_
        refine mx_getI (mx_d tX0_readLine_0 24 rfl) fX0_41 rfl (Or.inl rfl) (ly0_o h0) ?_
        refine mx_iload_n (mx_d tX0_readLine_0 25 rfl) rfl rfl ?_
        obtain ⟨hi9, h⟩ := mx_chkE h
        obtain ⟨m8, e_m8, h⟩ := mx_letE h
        refine mx_iastore (mx_d tX0_readLine_0 26 rfl) (ly0_s0 h0) (mx_inbE hi9) (mx_eqz (z' := (e, m8)) (by rw [e_m8]) ?_)
        refine mx_aload_n (mx_d tX0_readLine_0 27 rfl) rfl rfl ?_
        obtain ⟨r10, h_r10, h⟩ := Option.bind_eq_some_iff.mp h
        refine mx_cVv (mx_d tX0_readLine_0 28 rfl) iX0_71 rfl vX10_advance ⟨_, rfl, rfl⟩ (ly10_o h1) (CX10_advance h1 h_r10) (by decide) rfl rfl (Nat.le_of_ble_eq_true rfl) ?_
        refine mx_iload_n (mx_d tX0_readLine_0 29 rfl) rfl rfl ?_
        by_cases hc11 : r1 = 102
        · rw [if_pos hc11] at h
          refine mx_tableIn (tgt := 96) (mx_d tX0_readLine_0 30 rfl) (by rw [hc11]; decide) (by rw [hc11]; decide) (by rw [hc11]; rfl) (by decide) ?_
          refine mx_aload_n (mx_d tX0_readLine_0 31 rfl) rfl rfl ?_
          refine mx_aload_n (mx_d tX0_readLine_0 32 rfl) rfl rfl ?_
          refine mx_aload_n (mx_d tX0_readLine_0 33 rfl) rfl rfl ?_
          obtain ⟨r12, h_r12, h⟩ := Option.bind_eq_some_iff.mp h
          refine mx_cVi (mx_d tX0_readLine_0 34 rfl) iX0_74 rfl vX0_readTwo ⟨_, rfl, rfl⟩ (ly0_o h0) (CX0_readTwo h0 h1 h2 h_r12) (by decide) rfl rfl (Nat.le_of_ble_eq_true rfl) ?_
          obtain ⟨hb13, h⟩ := mx_chkE h
          obtain rfl := Option.some.inj h
          exact mx_zreturn (mx_d tX0_readLine_0 35 rfl) rfl (mx_nb (mx_b01E hb13)) ⟨rfl, rfl⟩
        · rw [if_neg hc11] at h
          by_cases hc14 : r1 = 103
          · rw [if_pos hc14] at h
            refine mx_tableIn (tgt := 129) (mx_d tX0_readLine_0 30 rfl) (by rw [hc14]; decide) (by rw [hc14]; decide) (by rw [hc14]; rfl) (by decide) ?_
            refine mx_aload_n (mx_d tX0_readLine_0 51 rfl) rfl rfl ?_
            refine mx_aload_n (mx_d tX0_readLine_0 52 rfl) rfl rfl ?_
            refine mx_aload_n (mx_d tX0_readLine_0 53 rfl) rfl rfl ?_
            obtain ⟨r15, h_r15, h⟩ := Option.bind_eq_some_iff.mp h
            refine mx_cVi (mx_d tX0_readLine_0 54 rfl) iX0_81 rfl vX0_readFirst ⟨_, rfl, rfl⟩ (ly0_o h0) (CX0_readFirst h0 h1 h2 h_r15) (by decide) rfl rfl (Nat.le_of_ble_eq_true rfl) ?_
            refine mx_if_eq (tgt := 154) (mx_d tX0_readLine_0 55 rfl) (by decide) (fun hc16 => ?_) (fun hc16 => ?_)
            · rw [if_pos hc16] at h
              refine mx_iconst (0) (mx_d tX0_readLine_1 4 rfl) (by decide) ?_
              obtain rfl := Option.some.inj h
              exact mx_zreturn (mx_d tX0_readLine_1 5 rfl) rfl rfl ⟨rfl, rfl⟩
            · rw [if_neg hc16] at h
              refine mx_aload_n (mx_d tX0_readLine_0 56 rfl) rfl rfl ?_
              refine mx_aload_n (mx_d tX0_readLine_0 57 rfl) rfl rfl ?_
              refine mx_iconst (0) (mx_d tX0_readLine_0 58 rfl) (by decide) ?_
              refine mx_sipush (400) (mx_d tX0_readLine_0 59 rfl) (by decide) ?_
              obtain ⟨r17, h_r17, h⟩ := Option.bind_eq_some_iff.mp h
              refine mx_cVi (mx_d tX0_readLine_1 0 rfl) iX0_77 rfl vX0_readThird ⟨_, rfl, rfl⟩ (ly0_o h0) (CX0_readThird h0 h1 h_r17) (by decide) rfl rfl (Nat.le_of_ble_eq_true rfl) ?_
              refine mx_if_eq (tgt := 154) (mx_d tX0_readLine_1 1 rfl) (by decide) (fun hc18 => ?_) (fun hc18 => ?_)
              · rw [if_pos hc18] at h
                refine mx_iconst (0) (mx_d tX0_readLine_1 4 rfl) (by decide) ?_
                obtain rfl := Option.some.inj h
                exact mx_zreturn (mx_d tX0_readLine_1 5 rfl) rfl rfl ⟨rfl, rfl⟩
              · rw [if_neg hc18] at h
                refine mx_iconst (1) (mx_d tX0_readLine_1 2 rfl) (by decide) ?_
                refine mx_goto (tgt := 155) (mx_d tX0_readLine_1 3 rfl) (by decide) ?_
                obtain rfl := Option.some.inj h
                exact mx_zreturn (mx_d tX0_readLine_1 5 rfl) rfl rfl ⟨rfl, rfl⟩
          · rw [if_neg hc14] at h
            by_cases hc19 : r1 = 106
            · rw [if_pos hc19] at h
              refine mx_tableIn (tgt := 103) (mx_d tX0_readLine_0 30 rfl) (by rw [hc19]; decide) (by rw [hc19]; decide) (by rw [hc19]; rfl) (by decide) ?_
              refine mx_aload_n (mx_d tX0_readLine_0 36 rfl) rfl rfl ?_
              refine mx_aload_n (mx_d tX0_readLine_0 37 rfl) rfl rfl ?_
              refine mx_aload_n (mx_d tX0_readLine_0 38 rfl) rfl rfl ?_
              obtain ⟨r20, h_r20, h⟩ := Option.bind_eq_some_iff.mp h
              refine mx_cVi (mx_d tX0_readLine_0 39 rfl) iX0_74 rfl vX0_readTwo ⟨_, rfl, rfl⟩ (ly0_o h0) (CX0_readTwo h0 h1 h2 h_r20) (by decide) rfl rfl (Nat.le_of_ble_eq_true rfl) ?_
              refine mx_if_eq (tgt := 127) (mx_d tX0_readLine_0 40 rfl) (by decide) (fun hc21 => ?_) (fun hc21 => ?_)
              · rw [if_pos hc21] at h
                refine mx_iconst (0) (mx_d tX0_readLine_0 49 rfl) (by decide) ?_
                obtain rfl := Option.some.inj h
                exact mx_zreturn (mx_d tX0_readLine_0 50 rfl) rfl rfl ⟨rfl, rfl⟩
              · rw [if_neg hc21] at h
                refine mx_aload_n (mx_d tX0_readLine_0 41 rfl) rfl rfl ?_
                refine mx_aload_n (mx_d tX0_readLine_0 42 rfl) rfl rfl ?_
                refine mx_iconst (1) (mx_d tX0_readLine_0 43 rfl) (by decide) ?_
                refine mx_bipush (99) (mx_d tX0_readLine_0 44 rfl) (by decide) ?_
                obtain ⟨r22, h_r22, h⟩ := Option.bind_eq_some_iff.mp h
                refine mx_cVi (mx_d tX0_readLine_0 45 rfl) iX0_77 rfl vX0_readThird ⟨_, rfl, rfl⟩ (ly0_o h0) (CX0_readThird h0 h1 h_r22) (by decide) rfl rfl (Nat.le_of_ble_eq_true rfl) ?_
                refine mx_if_eq (tgt := 127) (mx_d tX0_readLine_0 46 rfl) (by decide) (fun hc23 => ?_) (fun hc23 => ?_)
                · rw [if_pos hc23] at h
                  refine mx_iconst (0) (mx_d tX0_readLine_0 49 rfl) (by decide) ?_
                  obtain rfl := Option.some.inj h
                  exact mx_zreturn (mx_d tX0_readLine_0 50 rfl) rfl rfl ⟨rfl, rfl⟩
                · rw [if_neg hc23] at h
                  refine mx_iconst (1) (mx_d tX0_readLine_0 47 rfl) (by decide) ?_
                  refine mx_goto (tgt := 128) (mx_d tX0_readLine_0 48 rfl) (by decide) ?_
                  obtain rfl := Option.some.inj h
                  exact mx_zreturn (mx_d tX0_readLine_0 50 rfl) rfl rfl ⟨rfl, rfl⟩
            · rw [if_neg hc19] at h
              by_cases hc24 : r1 = 107
              · rw [if_pos hc24] at h
                refine mx_tableIn (tgt := 156) (mx_d tX0_readLine_0 30 rfl) (by rw [hc24]; decide) (by rw [hc24]; decide) (by rw [hc24]; rfl) (by decide) ?_
                refine mx_aload_n (mx_d tX0_readLine_1 6 rfl) rfl rfl ?_
                refine mx_aload_n (mx_d tX0_readLine_1 7 rfl) rfl rfl ?_
                obtain ⟨r25, h_r25, h⟩ := Option.bind_eq_some_iff.mp h
                refine mx_cVi (mx_d tX0_readLine_1 8 rfl) iX0_84 rfl vX0_readNumber ⟨_, rfl, rfl⟩ (ly0_o h0) (CX0_readNumber h0 h1 h_r25) (by decide) rfl rfl (Nat.le_of_ble_eq_true rfl) ?_
                refine mx_if_eq (tgt := 180) (mx_d tX0_readLine_1 9 rfl) (by decide) (fun hc26 => ?_) (fun hc26 => ?_)
                · rw [if_pos hc26] at h
                  refine mx_iconst (0) (mx_d tX0_readLine_1 18 rfl) (by decide) ?_
                  obtain rfl := Option.some.inj h
                  exact mx_zreturn (mx_d tX0_readLine_1 19 rfl) rfl rfl ⟨rfl, rfl⟩
                · rw [if_neg hc26] at h
                  refine mx_aload_n (mx_d tX0_readLine_1 10 rfl) rfl rfl ?_
                  refine mx_aload_n (mx_d tX0_readLine_1 11 rfl) rfl rfl ?_
                  refine mx_iconst (0) (mx_d tX0_readLine_1 12 rfl) (by decide) ?_
                  refine mx_sipush (400) (mx_d tX0_readLine_1 13 rfl) (by decide) ?_
                  obtain ⟨r27, h_r27, h⟩ := Option.bind_eq_some_iff.mp h
                  refine mx_cVi (mx_d tX0_readLine_1 14 rfl) iX0_77 rfl vX0_readThird ⟨_, rfl, rfl⟩ (ly0_o h0) (CX0_readThird h0 h1 h_r27) (by decide) rfl rfl (Nat.le_of_ble_eq_true rfl) ?_
                  refine mx_if_eq (tgt := 180) (mx_d tX0_readLine_1 15 rfl) (by decide) (fun hc28 => ?_) (fun hc28 => ?_)
                  · rw [if_pos hc28] at h
                    refine mx_iconst (0) (mx_d tX0_readLine_1 18 rfl) (by decide) ?_
                    obtain rfl := Option.some.inj h
                    exact mx_zreturn (mx_d tX0_readLine_1 19 rfl) rfl rfl ⟨rfl, rfl⟩
                  · rw [if_neg hc28] at h
                    refine mx_iconst (1) (mx_d tX0_readLine_1 16 rfl) (by decide) ?_
                    refine mx_goto (tgt := 181) (mx_d tX0_readLine_1 17 rfl) (by decide) ?_
                    obtain rfl := Option.some.inj h
                    exact mx_zreturn (mx_d tX0_readLine_1 19 rfl) rfl rfl ⟨rfl, rfl⟩
              · rw [if_neg hc24] at h
                by_cases hc29 : r1 = 108
                · rw [if_pos hc29] at h
                  refine mx_tableIn (tgt := 182) (mx_d tX0_readLine_0 30 rfl) (by rw [hc29]; decide) (by rw [hc29]; decide) (by rw [hc29]; rfl) (by decide) ?_
                  refine mx_aload_n (mx_d tX0_readLine_1 20 rfl) rfl rfl ?_
                  refine mx_aload_n (mx_d tX0_readLine_1 21 rfl) rfl rfl ?_
                  obtain ⟨r30, h_r30, h⟩ := Option.bind_eq_some_iff.mp h
                  refine mx_cVi (mx_d tX0_readLine_1 22 rfl) iX0_84 rfl vX0_readNumber ⟨_, rfl, rfl⟩ (ly0_o h0) (CX0_readNumber h0 h1 h_r30) (by decide) rfl rfl (Nat.le_of_ble_eq_true rfl) ?_
                  obtain ⟨hb31, h⟩ := mx_chkE h
                  obtain rfl := Option.some.inj h
                  exact mx_zreturn (mx_d tX0_readLine_1 23 rfl) rfl (mx_nb (mx_b01E hb31)) ⟨rfl, rfl⟩
                · rw [if_neg hc29] at h
                  by_cases hd34 : r1 = 104
                  · refine mx_tableIn (tgt := 188) (mx_d tX0_readLine_0 30 rfl) (by rw [hd34]; decide) (by rw [hd34]; decide) (by rw [hd34]; rfl) (by decide) ?_
                    refine mx_aload_n (mx_d tX0_readLine_1 24 rfl) rfl rfl ?_
                    refine mx_aload_n (mx_d tX0_readLine_1 25 rfl) rfl rfl ?_
                    refine mx_aload_n (mx_d tX0_readLine_1 26 rfl) rfl rfl ?_
                    obtain ⟨r32, h_r32, h⟩ := Option.bind_eq_some_iff.mp h
                    refine mx_cVi (mx_d tX0_readLine_1 27 rfl) iX0_81 rfl vX0_readFirst ⟨_, rfl, rfl⟩ (ly0_o h0) (CX0_readFirst h0 h1 h2 h_r32) (by decide) rfl rfl (Nat.le_of_ble_eq_true rfl) ?_
                    obtain ⟨hb33, h⟩ := mx_chkE h
                    obtain rfl := Option.some.inj h
                    exact mx_zreturn (mx_d tX0_readLine_1 28 rfl) rfl (mx_nb (mx_b01E hb33)) ⟨rfl, rfl⟩
                  · by_cases hd35 : r1 = 105
                    · refine mx_tableIn (tgt := 188) (mx_d tX0_readLine_0 30 rfl) (by rw [hd35]; decide) (by rw [hd35]; decide) (by rw [hd35]; rfl) (by decide) ?_
                      refine mx_aload_n (mx_d tX0_readLine_1 24 rfl) rfl rfl ?_
                      refine mx_aload_n (mx_d tX0_readLine_1 25 rfl) rfl rfl ?_
                      refine mx_aload_n (mx_d tX0_readLine_1 26 rfl) rfl rfl ?_
                      obtain ⟨r32, h_r32, h⟩ := Option.bind_eq_some_iff.mp h
                      refine mx_cVi (mx_d tX0_readLine_1 27 rfl) iX0_81 rfl vX0_readFirst ⟨_, rfl, rfl⟩ (ly0_o h0) (CX0_readFirst h0 h1 h2 h_r32) (by decide) rfl rfl (Nat.le_of_ble_eq_true rfl) ?_
                      obtain ⟨hb33, h⟩ := mx_chkE h
                      obtain rfl := Option.some.inj h
                      exact mx_zreturn (mx_d tX0_readLine_1 28 rfl) rfl (mx_nb (mx_b01E hb33)) ⟨rfl, rfl⟩
                    · have z_hc11 := lv_neT hc11 (a := 102) (by decide)
                      have z_hc14 := lv_neT hc14 (a := 103) (by decide)
                      have z_hc19 := lv_neT hc19 (a := 106) (by decide)
                      have z_hc24 := lv_neT hc24 (a := 107) (by decide)
                      have z_hc29 := lv_neT hc29 (a := 108) (by decide)
                      have z_hd34 := lv_neT hd34 (a := 104) (by decide)
                      have z_hd35 := lv_neT hd35 (a := 105) (by decide)
                      refine mx_tableOut (tgt := 188) (mx_d tX0_readLine_0 30 rfl) (by omega) (by decide) ?_
                      refine mx_aload_n (mx_d tX0_readLine_1 24 rfl) rfl rfl ?_
                      refine mx_aload_n (mx_d tX0_readLine_1 25 rfl) rfl rfl ?_
                      refine mx_aload_n (mx_d tX0_readLine_1 26 rfl) rfl rfl ?_
                      obtain ⟨r32, h_r32, h⟩ := Option.bind_eq_some_iff.mp h
                      refine mx_cVi (mx_d tX0_readLine_1 27 rfl) iX0_81 rfl vX0_readFirst ⟨_, rfl, rfl⟩ (ly0_o h0) (CX0_readFirst h0 h1 h2 h_r32) (by decide) rfl rfl (Nat.le_of_ble_eq_true rfl) ?_
                      obtain ⟨hb33, h⟩ := mx_chkE h
                      obtain rfl := Option.some.inj h
                      exact mx_zreturn (mx_d tX0_readLine_1 28 rfl) rfl (mx_nb (mx_b01E hb33)) ⟨rfl, rfl⟩
      · rw [if_neg hc7] at h
        refine mx_aload_n (mx_d tX0_readLine_0 17 rfl) rfl rfl ?_
        refine mx_iconst (4) (mx_d tX0_readLine_0 18 rfl) (by decide) ?_
        obtain ⟨r36, h_r36, h⟩ := Option.bind_eq_some_iff.mp h
        refine mx_cVi (mx_d tX0_readLine_0 19 rfl) iX0_68 rfl vX10_fail ⟨_, rfl, rfl⟩ (ly10_o h1) (CX10_fail h1 h_r36) (by decide) rfl rfl (Nat.le_of_ble_eq_true rfl) ?_
        obtain ⟨hb37, h⟩ := mx_chkE h
        obtain rfl := Option.some.inj h
        exact mx_zreturn (mx_d tX0_readLine_0 20 rfl) rfl (mx_nb (mx_b01E hb37)) ⟨rfl, rfl⟩
  · rw [if_pos hc3] at h
    refine mx_aload_n (mx_d tX0_readLine_0 6 rfl) rfl rfl ?_
    refine mx_iconst (1) (mx_d tX0_readLine_0 7 rfl) (by decide) ?_
    obtain ⟨r38, h_r38, h⟩ := Option.bind_eq_some_iff.mp h
    refine mx_cVi (mx_d tX0_readLine_0 8 rfl) iX0_68 rfl vX10_fail ⟨_, rfl, rfl⟩ (ly10_o h1) (CX10_fail h1 h_r38) (by decide) rfl rfl (Nat.le_of_ble_eq_true rfl) ?_
    obtain ⟨hb39, h⟩ := mx_chkE h
    obtain rfl := Option.some.inj h
    exact mx_zreturn (mx_d tX0_readLine_0 9 rfl) rfl (mx_nb (mx_b01E hb39)) ⟨rfl, rfl⟩
def FX10_take (a : Nat) (x0 : Int32) (m : mB) : Option (Int32 × mB) := (if (m.1 a 6) = x0 then Option.bind (FX10_advance a m) (fun r2 => (some (1, r2))) else Option.bind (FX10_fail a 1 m) (fun r3 => mx_chk (mx_b01 r3.1) ((some (r3.1, r3.2)))))
set_option maxRecDepth 20000 in
theorem CX10_take {G : mG} {l : Launch} {e : mE} {a : Nat} {x0 : Int32} {m : mB} {r : (Int32 × mB)} (h0 : ly10 e a) (h : FX10_take a x0 m = some r) : mx_Call G l MX10_take 3 0 0 [.ref a, .int x0] (e, m) (fun v z => v = some (.int r.1) ∧ z = (e, r.2)) := by
  refine mx_entry (L := [.ref a, .int x0]) (by decide +kernel) (Nat.le_of_ble_eq_true rfl) rfl ?_
  unfold FX10_take at h
  refine mx_aload_n (mx_d tX10_take_0 0 rfl) rfl rfl ?_
  refine mx_getI (mx_d tX10_take_0 1 rfl) fX10_42 rfl (Or.inl rfl) (ly10_o h0) ?_
  refine mx_iload_n (mx_d tX10_take_0 2 rfl) rfl rfl ?_
  refine mx_icmp_eq (tgt := 14) (mx_d tX10_take_0 3 rfl) (by decide) (fun hc1 => ?_) (fun hc1 => ?_)
  · rw [if_pos hc1] at h
    refine mx_aload_n (mx_d tX10_take_0 8 rfl) rfl rfl ?_
    obtain ⟨r2, h_r2, h⟩ := Option.bind_eq_some_iff.mp h
    refine mx_cVv (mx_d tX10_take_0 9 rfl) iX10_65 rfl vX10_advance ⟨_, rfl, rfl⟩ (ly10_o h0) (CX10_advance h0 h_r2) (by decide) rfl rfl (Nat.le_of_ble_eq_true rfl) ?_
    refine mx_iconst (1) (mx_d tX10_take_0 10 rfl) (by decide) ?_
    obtain rfl := Option.some.inj h
    exact mx_zreturn (mx_d tX10_take_0 11 rfl) rfl rfl ⟨rfl, rfl⟩
  · rw [if_neg hc1] at h
    refine mx_aload_n (mx_d tX10_take_0 4 rfl) rfl rfl ?_
    refine mx_iconst (1) (mx_d tX10_take_0 5 rfl) (by decide) ?_
    obtain ⟨r3, h_r3, h⟩ := Option.bind_eq_some_iff.mp h
    refine mx_cVi (mx_d tX10_take_0 6 rfl) iX10_81 rfl vX10_fail ⟨_, rfl, rfl⟩ (ly10_o h0) (CX10_fail h0 h_r3) (by decide) rfl rfl (Nat.le_of_ble_eq_true rfl) ?_
    obtain ⟨hb4, h⟩ := mx_chkE h
    obtain rfl := Option.some.inj h
    exact mx_zreturn (mx_d tX10_take_0 7 rfl) rfl (mx_nb (mx_b01E hb4)) ⟨rfl, rfl⟩
def FX10_endsHere (a : Nat) (m : mB) : Option (Int32 × mB) := mx_let (Option.bind (FX10_fail a 1 m) (fun r3 => (if r3.1 = 0 then (some (0, r3.2)) else (some (1, r3.2))))) (fun k2 => (if (m.1 a 6) = 0 then (if (m.1 a 5) = 0 then (some (1, m)) else k2) else k2))
set_option maxRecDepth 20000 in
theorem CX10_endsHere {G : mG} {l : Launch} {e : mE} {a : Nat} {m : mB} {r : (Int32 × mB)} (h0 : ly10 e a) (h : FX10_endsHere a m = some r) : mx_Call G l MX10_endsHere 2 0 0 [.ref a] (e, m) (fun v z => v = some (.int r.1) ∧ z = (e, r.2)) := by
  refine mx_entry (L := [.ref a]) (by decide +kernel) (Nat.le_of_ble_eq_true rfl) rfl ?_
  unfold FX10_endsHere at h
  refine mx_aload_n (mx_d tX10_endsHere_0 0 rfl) rfl rfl ?_
  refine mx_getI (mx_d tX10_endsHere_0 1 rfl) fX10_42 rfl (Or.inl rfl) (ly10_o h0) ?_
  refine mx_letK (J := fun k2 => k2 = some r → mx_Fr G l MX10_endsHere 2 0 0 (fun v z => v = some (.int r.1) ∧ z = (e, r.2)) 14 [.ref a] [] (e, m)) h ?_ (fun k2 j_k2 h => ?_)
  · intro h
    refine mx_aload_n (mx_d tX10_endsHere_0 6 rfl) rfl rfl ?_
    refine mx_iconst (1) (mx_d tX10_endsHere_0 7 rfl) (by decide) ?_
    obtain ⟨r3, h_r3, h⟩ := Option.bind_eq_some_iff.mp h
    refine mx_cVi (mx_d tX10_endsHere_0 8 rfl) iX10_81 rfl vX10_fail ⟨_, rfl, rfl⟩ (ly10_o h0) (CX10_fail h0 h_r3) (by decide) rfl rfl (Nat.le_of_ble_eq_true rfl) ?_
    refine mx_if_eq (tgt := 26) (mx_d tX10_endsHere_0 9 rfl) (by decide) (fun hc4 => ?_) (fun hc4 => ?_)
    · rw [if_pos hc4] at h
      refine mx_iconst (0) (mx_d tX10_endsHere_0 12 rfl) (by decide) ?_
      obtain rfl := Option.some.inj h
      exact mx_zreturn (mx_d tX10_endsHere_0 13 rfl) rfl rfl ⟨rfl, rfl⟩
    · rw [if_neg hc4] at h
      refine mx_iconst (1) (mx_d tX10_endsHere_0 10 rfl) (by decide) ?_
      refine mx_goto (tgt := 27) (mx_d tX10_endsHere_0 11 rfl) (by decide) ?_
      obtain rfl := Option.some.inj h
      exact mx_zreturn (mx_d tX10_endsHere_0 13 rfl) rfl rfl ⟨rfl, rfl⟩
  refine mx_if_ne (tgt := 14) (mx_d tX10_endsHere_0 2 rfl) (by decide) (fun hc1 => ?_) (fun hc1 => ?_)
  · rw [if_neg hc1] at h
    exact j_k2 h
  · rw [if_pos hc1] at h
    refine mx_aload_n (mx_d tX10_endsHere_0 3 rfl) rfl rfl ?_
    refine mx_getI (mx_d tX10_endsHere_0 4 rfl) fX10_49 rfl (Or.inr rfl) (ly10_o h0) ?_
    refine mx_if_eq (tgt := 22) (mx_d tX10_endsHere_0 5 rfl) (by decide) (fun hc5 => ?_) (fun hc5 => ?_)
    · rw [if_pos hc5] at h
      refine mx_iconst (1) (mx_d tX10_endsHere_0 10 rfl) (by decide) ?_
      refine mx_goto (tgt := 27) (mx_d tX10_endsHere_0 11 rfl) (by decide) ?_
      obtain rfl := Option.some.inj h
      exact mx_zreturn (mx_d tX10_endsHere_0 13 rfl) rfl rfl ⟨rfl, rfl⟩
    · rw [if_neg hc5] at h
      exact j_k2 h
def FX0_read_L14 (q0 : Nat) (q1 : Nat) (q2 : Nat) : Nat → Int32 → mB → Option ((Int32 × mB) ⊕ (mB))
  | 0, _, _ => none
  | f + 1, y3, m => (if 40 < y3 then (some (.inr m)) else Option.bind (FX10_kind q1 m) (fun r4 => (if r4 = 0 then (some (.inr m)) else Option.bind (FX0_readLine q0 q1 q2 m) (fun r6 => (if r6.1 = 0 then (some (.inl (0, r6.2))) else Option.bind (FX10_take q1 59 r6.2) (fun r8 => (if r8.1 = 0 then (some (.inl (0, r8.2))) else mx_let (mx_up r8.2.1 q0 4 ((r8.2.1 q0 4) + 1), r8.2.2) (fun m10 => mx_let (y3 + 1) (fun v11 => (FX0_read_L14 q0 q1 q2 f v11 m10))))))))))
set_option maxRecDepth 20000 in
theorem CX0_read_L14 {G : mG} {l : Launch} {e : mE} {Post : Option Value → mS → Prop} {q0 : Nat} {q1 : Nat} {q2 : Nat} (g0 : ly0 e q0) (g1 : ly10 e q1) (g2 : ly4 e q2) : ∀ (f : Nat) {y3 : Int32} {m : mB} {q : ((Int32 × mB) ⊕ (mB))}, FX0_read_L14 q0 q1 q2 f y3 m = some q → (∀ rr, q = .inl rr → Post (some (.int rr.1)) (e, rr.2)) → (∀ u, q = .inr u → mx_Fr G l MX0_read 7 0 0 Post 63 [.float 0, .ref q1, .float 0, .float 0] [] (e, u)) → mx_Fr G l MX0_read 7 0 0 Post 14 [.ref q0, .ref q1, .ref q2, .int y3] [] (e, m) := by
  intro f
  induction f with
  | zero => intro _ _ _ h; cases h
  | succ f ih =>
    intro y3 m q h hret hex
    rw [FX0_read_L14] at h
    refine mx_iload_n (mx_d tX0_read_0 8 rfl) rfl rfl ?_
    refine mx_bipush (40) (mx_d tX0_read_0 9 rfl) (by decide) ?_
    refine mx_icmp_gt (tgt := 63) (mx_d tX0_read_0 10 rfl) (by decide) (fun hc3 => ?_) (fun hc3 => ?_)
    · rw [if_pos hc3] at h
      obtain rfl := Option.some.inj h
      refine mx_forget (L' := [.float 0, .ref q1, .float 0, .float 0]) ⟨rfl, trivial⟩ ?_
      exact (hex _ rfl)
    · rw [if_neg hc3] at h
      refine mx_aload_n (mx_d tX0_read_0 11 rfl) rfl rfl ?_
      obtain ⟨r4, h_r4, h⟩ := Option.bind_eq_some_iff.mp h
      refine mx_cVi (mx_d tX0_read_0 12 rfl) iX0_50 rfl vX10_kind ⟨_, rfl, rfl⟩ (ly10_o g1) (CX10_kind g1 h_r4) (by decide) rfl rfl (Nat.le_of_ble_eq_true rfl) ?_
      refine mx_if_eq (tgt := 63) (mx_d tX0_read_0 13 rfl) (by decide) (fun hc5 => ?_) (fun hc5 => ?_)
      · rw [if_pos hc5] at h
        obtain rfl := Option.some.inj h
        refine mx_forget (L' := [.float 0, .ref q1, .float 0, .float 0]) ⟨rfl, trivial⟩ ?_
        exact (hex _ rfl)
      · rw [if_neg hc5] at h
        refine mx_aload_n (mx_d tX0_read_0 14 rfl) rfl rfl ?_
        refine mx_aload_n (mx_d tX0_read_0 15 rfl) rfl rfl ?_
        refine mx_aload_n (mx_d tX0_read_0 16 rfl) rfl rfl ?_
        obtain ⟨r6, h_r6, h⟩ := Option.bind_eq_some_iff.mp h
        refine mx_cVi (mx_d tX0_read_0 17 rfl) iX0_53 rfl vX0_readLine ⟨_, rfl, rfl⟩ (ly0_o g0) (CX0_readLine g0 g1 g2 h_r6) (by decide) rfl rfl (Nat.le_of_ble_eq_true rfl) ?_
        refine mx_if_eq (tgt := 45) (mx_d tX0_read_0 18 rfl) (by decide) (fun hc7 => ?_) (fun hc7 => ?_)
        · rw [if_pos hc7] at h
          refine mx_iconst (0) (mx_d tX0_read_0 23 rfl) (by decide) ?_
          obtain rfl := Option.some.inj h
          exact mx_zreturn (mx_d tX0_read_0 24 rfl) rfl rfl (hret _ rfl)
        · rw [if_neg hc7] at h
          refine mx_aload_n (mx_d tX0_read_0 19 rfl) rfl rfl ?_
          refine mx_bipush (59) (mx_d tX0_read_0 20 rfl) (by decide) ?_
          obtain ⟨r8, h_r8, h⟩ := Option.bind_eq_some_iff.mp h
          refine mx_cVi (mx_d tX0_read_0 21 rfl) iX0_57 rfl vX10_take ⟨_, rfl, rfl⟩ (ly10_o g1) (CX10_take g1 h_r8) (by decide) rfl rfl (Nat.le_of_ble_eq_true rfl) ?_
          refine mx_if_ne (tgt := 47) (mx_d tX0_read_0 22 rfl) (by decide) (fun hc9 => ?_) (fun hc9 => ?_)
          · rw [if_neg hc9] at h
            refine mx_aload_n (mx_d tX0_read_0 25 rfl) rfl rfl ?_
            refine mx_dup (mx_d tX0_read_0 26 rfl) rfl ?_
            refine mx_getI (mx_d tX0_read_0 27 rfl) fX0_41 rfl (Or.inl rfl) (ly0_o g0) ?_
            refine mx_iconst (1) (mx_d tX0_read_0 28 rfl) (by decide) ?_
            refine mx_iadd (mx_d tX0_read_0 29 rfl) ?_
            obtain ⟨m10, e_m10, h⟩ := mx_letE h
            refine mx_putI (mx_d tX0_read_0 30 rfl) fX0_41 rfl ⟨_, rfl, rfl⟩ rfl (ly0_o g0) (mx_eqz (z' := (e, m10)) (by rw [e_m10]) ?_)
            obtain ⟨v11, e_v11, h⟩ := mx_letE h
            refine mx_iinc v11 (L2 := [.ref q0, .ref q1, .ref q2, .int v11]) (mx_d tX0_read_0 31 rfl) rfl (by rw [e_v11]; rfl) (by decide) rfl ?_
            refine mx_goto (tgt := 14) (mx_d tX0_read_0 32 rfl) (by decide) ?_
            exact ih h hret hex
          · rw [if_pos hc9] at h
            refine mx_iconst (0) (mx_d tX0_read_0 23 rfl) (by decide) ?_
            obtain rfl := Option.some.inj h
            exact mx_zreturn (mx_d tX0_read_0 24 rfl) rfl rfl (hret _ rfl)
def FX0_read (a : Nat) (p0 : Nat) (p1 : Nat) (m : mB) : Option (Int32 × mB) := mx_let (mx_up m.1 a 4 0, m.2) (fun m1 => Option.bind (FX10_begin p0 400 m1) (fun r2 => Option.bind (FX0_read_L14 a p0 p1 mx_FU 0 r2) (fun q12 => Sum.elim (fun rr => some rr) (fun u13 => Option.bind (FX10_endsHere p0 u13) (fun r15 => mx_chk (mx_b01 r15.1) ((some (r15.1, r15.2))))) q12)))
set_option maxRecDepth 20000 in
theorem CX0_read {G : mG} {l : Launch} {e : mE} {a : Nat} {p0 : Nat} {p1 : Nat} {m : mB} {r : (Int32 × mB)} (h0 : ly0 e a) (h1 : ly10 e p0) (h2 : ly4 e p1) (h : FX0_read a p0 p1 m = some r) : mx_Call G l MX0_read 7 0 0 [.ref a, .ref p0, .ref p1] (e, m) (fun v z => v = some (.int r.1) ∧ z = (e, r.2)) := by
  refine mx_entry (L := [.ref a, .ref p0, .ref p1, .float 0]) (by decide +kernel) (Nat.le_of_ble_eq_true rfl) rfl ?_
  unfold FX0_read at h
  refine mx_aload_n (mx_d tX0_read_0 0 rfl) rfl rfl ?_
  refine mx_iconst (0) (mx_d tX0_read_0 1 rfl) (by decide) ?_
  obtain ⟨m1, e_m1, h⟩ := mx_letE h
  refine mx_putI (mx_d tX0_read_0 2 rfl) fX0_41 rfl ⟨_, rfl, rfl⟩ rfl (ly0_o h0) (mx_eqz (z' := (e, m1)) (by rw [e_m1]) ?_)
  refine mx_aload_n (mx_d tX0_read_0 3 rfl) rfl rfl ?_
  refine mx_sipush (400) (mx_d tX0_read_0 4 rfl) (by decide) ?_
  obtain ⟨r2, h_r2, h⟩ := Option.bind_eq_some_iff.mp h
  refine mx_cVv (mx_d tX0_read_0 5 rfl) iX0_44 rfl vX10_begin ⟨_, rfl, rfl⟩ (ly10_o h1) (CX10_begin h1 h_r2) (by decide) rfl rfl (Nat.le_of_ble_eq_true rfl) ?_
  refine mx_iconst (0) (mx_d tX0_read_0 6 rfl) (by decide) ?_
  refine mx_istore_n (L2 := [.ref a, .ref p0, .ref p1, .int 0]) (mx_d tX0_read_0 7 rfl) rfl (by decide) (by rfl) ?_
  obtain ⟨q12, h_q12, h⟩ := Option.bind_eq_some_iff.mp h
  refine CX0_read_L14 h0 h1 h2 mx_FU h_q12 (fun rr14 e_rr14 => ?_) (fun u13 e_u13 => ?_)
  · subst e_rr14
    rw [Sum.elim_inl] at h
    obtain rfl := Option.some.inj h
    exact ⟨rfl, rfl⟩
  · subst e_u13
    rw [Sum.elim_inr] at h
    refine mx_aload_n (mx_d tX0_read_0 33 rfl) rfl rfl ?_
    obtain ⟨r15, h_r15, h⟩ := Option.bind_eq_some_iff.mp h
    refine mx_cVi (mx_d tX0_read_0 34 rfl) iX0_61 rfl vX10_endsHere ⟨_, rfl, rfl⟩ (ly10_o h1) (CX10_endsHere h1 h_r15) (by decide) rfl rfl (Nat.le_of_ble_eq_true rfl) ?_
    obtain ⟨hb16, h⟩ := mx_chkE h
    obtain rfl := Option.some.inj h
    exact mx_zreturn (mx_d tX0_read_0 35 rfl) rfl (mx_nb (mx_b01E hb16)) ⟨rfl, rfl⟩
def FX0_behind (x0 : Int32) (x1 : Int32) (m : mB) : Option Int32 := (if x1 = 0 then (some 0) else (some (x0 + x1)))
set_option maxRecDepth 20000 in
theorem CX0_behind {G : mG} {l : Launch} {e : mE} {x0 : Int32} {x1 : Int32} {m : mB} {r : Int32}  (h : FX0_behind x0 x1 m = some r) : mx_Call G l MX0_behind 1 0 0 [.int x0, .int x1] (e, m) (fun v z => v = some (.int r) ∧ z = (e, m)) := by
  refine mx_entry (L := [.int x0, .int x1]) (by decide +kernel) (Nat.le_of_ble_eq_true rfl) rfl ?_
  unfold FX0_behind at h
  refine mx_iload_n (mx_d tX0_behind_0 0 rfl) rfl rfl ?_
  refine mx_if_ne (tgt := 8) (mx_d tX0_behind_0 1 rfl) (by decide) (fun hc1 => ?_) (fun hc1 => ?_)
  · rw [if_neg hc1] at h
    refine mx_iload_n (mx_d tX0_behind_0 4 rfl) rfl rfl ?_
    refine mx_iload_n (mx_d tX0_behind_0 5 rfl) rfl rfl ?_
    refine mx_iadd (mx_d tX0_behind_0 6 rfl) ?_
    obtain rfl := Option.some.inj h
    exact mx_ireturn (mx_d tX0_behind_0 7 rfl) rfl ⟨rfl, rfl⟩
  · rw [if_pos hc1] at h
    refine mx_iconst (0) (mx_d tX0_behind_0 2 rfl) (by decide) ?_
    refine mx_goto (tgt := 11) (mx_d tX0_behind_0 3 rfl) (by decide) ?_
    obtain rfl := Option.some.inj h
    exact mx_ireturn (mx_d tX0_behind_0 7 rfl) rfl ⟨rfl, rfl⟩
def FX9_goOn_L57 (rec : Nat → Nat → Int32 → Int32 → Int32 → mB → Option (Int32 × mB)) (q0 : Nat) (q1 : Nat) (y2 : Int32) (y3 : Int32) (y4 : Int32) (y6 : Int32) : Nat → Int32 → mB → Option ((Int32 × mB) ⊕ (mB))
  | 0, _, _ => none
  | f + 1, y7, m => (if 10 ≤ y7 then (some (.inr m)) else (if ((y6 >>> (y7 &&& 31)) &&& 1) = 0 then mx_let (y7 + 1) (fun v27 => (FX9_goOn_L57 rec q0 q1 y2 y3 y4 y6 f v27 m)) else Option.bind (FX4_partnerOf q1 y7 m) (fun r9 => mx_let (fun (m11 : mB) => (if y3 ≤ 0 then mx_let (y7 + 1) (fun v14 => (FX9_goOn_L57 rec q0 q1 y2 y3 y4 y6 f v14 m11)) else (if r9 = (-1) then mx_let (y7 + 1) (fun v16 => (FX9_goOn_L57 rec q0 q1 y2 y3 y4 y6 f v16 m11)) else (if ((y2 >>> (r9 &&& 31)) &&& 1) = 0 then Option.bind (FX7_add (q0 + 1) y7 m11) (fun r19 => Option.bind (FX7_add (q0 + 1) r9 r19) (fun r20 => Option.bind (rec q0 q1 ((y2 ||| ((1 : Int32) <<< (y7 &&& 31))) ||| ((1 : Int32) <<< (r9 &&& 31))) (y3 - 1) y4 r20) (fun r21 => (if r21.1 = 0 then Option.bind (FX7_dropTwo (q0 + 1) r21.2) (fun r23 => mx_let (y7 + 1) (fun v24 => (FX9_goOn_L57 rec q0 q1 y2 y3 y4 y6 f v24 r23))) else (some (.inl (1, r21.2))))))) else mx_let (y7 + 1) (fun v18 => (FX9_goOn_L57 rec q0 q1 y2 y3 y4 y6 f v18 m11)))))) (fun k12 => (if 0 < y3 then (k12 m) else (if r9 = (-1) then Option.bind (FX7_add (q0 + 1) y7 m) (fun r26 => (some (.inl (1, r26)))) else (k12 m)))))))
set_option maxRecDepth 20000 in
theorem CX9_goOn_L57 {G : mG} {l : Launch} {e : mE} {Post : Option Value → mS → Prop} {rec : Nat → Nat → Int32 → Int32 → Int32 → mB → Option (Int32 × mB)} {D : Nat} {q0 : Nat} {q1 : Nat} {y2 : Int32} {y3 : Int32} {y4 : Int32} {y6 : Int32} (hrec : ∀ {a : Nat} {p0 : Nat} {x1 : Int32} {x2 : Int32} {x3 : Int32} {m : mB} {r : (Int32 × mB)}, ly9 e a → ly4 e p0 → rec a p0 x1 x2 x3 m = some r → mx_Call G l MX9_goOn D 0 0 [.ref a, .ref p0, .int x1, .int x2, .int x3] (e, m) (fun v z => v = some (.int r.1) ∧ z = (e, r.2))) (g0 : ly9 e q0) (g1 : ly4 e q1) : ∀ (f : Nat) {y7 : Int32} {m : mB} {q : ((Int32 × mB) ⊕ (mB))}, FX9_goOn_L57 rec q0 q1 y2 y3 y4 y6 f y7 m = some q → (∀ rr, q = .inl rr → Post (some (.int rr.1)) (e, rr.2)) → (∀ u, q = .inr u → mx_Fr G l MX9_goOn (D + 3) 0 0 Post 182 [.float 0, .float 0, .float 0, .float 0, .float 0, .float 0, .float 0, .float 0, .float 0] [] (e, u)) → mx_Fr G l MX9_goOn (D + 3) 0 0 Post 57 [.ref q0, .ref q1, .int y2, .int y3, .int y4, .float 0, .int y6, .int y7, .float 0] [] (e, m) := by
  intro f
  induction f with
  | zero => intro _ _ _ h; cases h
  | succ f ih =>
    intro y7 m q h hret hex
    rw [FX9_goOn_L57] at h
    refine mx_iload (mx_d tX9_goOn_0 31 rfl) rfl ?_
    refine mx_bipush (10) (mx_d tX9_goOn_0 32 rfl) (by decide) ?_
    refine mx_icmp_ge (tgt := 182) (mx_d tX9_goOn_0 33 rfl) (by decide) (fun hc7 => ?_) (fun hc7 => ?_)
    · rw [if_pos hc7] at h
      obtain rfl := Option.some.inj h
      refine mx_forget (L' := [.float 0, .float 0, .float 0, .float 0, .float 0, .float 0, .float 0, .float 0, .float 0]) trivial ?_
      exact (hex _ rfl)
    · rw [if_neg hc7] at h
      refine mx_iload (mx_d tX9_goOn_0 34 rfl) rfl ?_
      refine mx_iload (mx_d tX9_goOn_0 35 rfl) rfl ?_
      refine mx_ishr (mx_d tX9_goOn_0 36 rfl) ?_
      refine mx_iconst (1) (mx_d tX9_goOn_0 37 rfl) (by decide) ?_
      refine mx_iand (mx_d tX9_goOn_0 38 rfl) ?_
      refine mx_if_ne (tgt := 77) (mx_d tX9_goOn_0 39 rfl) (by decide) (fun hc8 => ?_) (fun hc8 => ?_)
      · rw [if_neg hc8] at h
        refine mx_aload_n (mx_d tX9_goOn_0 41 rfl) rfl rfl ?_
        refine mx_iload (mx_d tX9_goOn_0 42 rfl) rfl ?_
        obtain ⟨r9, h_r9, h⟩ := Option.bind_eq_some_iff.mp h
        refine mx_cVi (mx_d tX9_goOn_0 43 rfl) iX9_57 rfl vX4_partnerOf ⟨_, rfl, rfl⟩ (ly4_o g1) (CX4_partnerOf g1 h_r9) (by omega) rfl rfl (Nat.le_of_ble_eq_true rfl) ?_
        refine mx_istore (L2 := [.ref q0, .ref q1, .int y2, .int y3, .int y4, .float 0, .int y6, .int y7, .int r9]) (mx_d tX9_goOn_0 44 rfl) (by decide) (by rfl) ?_
        refine mx_iload_n (mx_d tX9_goOn_0 45 rfl) rfl rfl ?_
        refine mx_letK (J := fun k12 => ∀ {m11 : mB}, k12 m11 = some q → mx_Fr G l MX9_goOn (D + 3) 0 0 Post 106 [.ref q0, .ref q1, .int y2, .int y3, .int y4, .float 0, .int y6, .int y7, .int r9] [] (e, m11)) h ?_ (fun k12 j_k12 h => ?_)
        · intro m11 h
          dsimp only at h
          refine mx_iload_n (mx_d tX9_goOn_0 56 rfl) rfl rfl ?_
          refine mx_if_le (tgt := 176) (mx_d tX9_goOn_0 57 rfl) (by decide) (fun hc13 => ?_) (fun hc13 => ?_)
          · rw [if_pos hc13] at h
            obtain ⟨v14, e_v14, h⟩ := mx_letE h
            refine mx_iinc v14 (L2 := [.ref q0, .ref q1, .int y2, .int y3, .int y4, .float 0, .int y6, .int v14, .int r9]) (mx_d tX9_goOn_1 37 rfl) rfl (by rw [e_v14]; rfl) (by decide) rfl ?_
            refine mx_goto (tgt := 57) (mx_d tX9_goOn_1 38 rfl) (by decide) ?_
            refine mx_forget (L' := [.ref q0, .ref q1, .int y2, .int y3, .int y4, .float 0, .int y6, .int v14, .float 0]) ⟨rfl, rfl, rfl, rfl, rfl, rfl, rfl, trivial⟩ ?_
            exact ih h hret hex
          · rw [if_neg hc13] at h
            refine mx_iload (mx_d tX9_goOn_0 58 rfl) rfl ?_
            refine mx_iconst ((-1)) (mx_d tX9_goOn_0 59 rfl) (by decide) ?_
            refine mx_icmp_eq (tgt := 176) (mx_d tX9_goOn_1 0 rfl) (by decide) (fun hc15 => ?_) (fun hc15 => ?_)
            · rw [if_pos hc15] at h
              obtain ⟨v16, e_v16, h⟩ := mx_letE h
              refine mx_iinc v16 (L2 := [.ref q0, .ref q1, .int y2, .int y3, .int y4, .float 0, .int y6, .int v16, .int r9]) (mx_d tX9_goOn_1 37 rfl) rfl (by rw [e_v16]; rfl) (by decide) rfl ?_
              refine mx_goto (tgt := 57) (mx_d tX9_goOn_1 38 rfl) (by decide) ?_
              refine mx_forget (L' := [.ref q0, .ref q1, .int y2, .int y3, .int y4, .float 0, .int y6, .int v16, .float 0]) ⟨rfl, rfl, rfl, rfl, rfl, rfl, rfl, trivial⟩ ?_
              exact ih h hret hex
            · rw [if_neg hc15] at h
              refine mx_iload_n (mx_d tX9_goOn_1 1 rfl) rfl rfl ?_
              refine mx_iload (mx_d tX9_goOn_1 2 rfl) rfl ?_
              refine mx_ishr (mx_d tX9_goOn_1 3 rfl) ?_
              refine mx_iconst (1) (mx_d tX9_goOn_1 4 rfl) (by decide) ?_
              refine mx_iand (mx_d tX9_goOn_1 5 rfl) ?_
              refine mx_if_ne (tgt := 176) (mx_d tX9_goOn_1 6 rfl) (by decide) (fun hc17 => ?_) (fun hc17 => ?_)
              · rw [if_neg hc17] at h
                obtain ⟨v18, e_v18, h⟩ := mx_letE h
                refine mx_iinc v18 (L2 := [.ref q0, .ref q1, .int y2, .int y3, .int y4, .float 0, .int y6, .int v18, .int r9]) (mx_d tX9_goOn_1 37 rfl) rfl (by rw [e_v18]; rfl) (by decide) rfl ?_
                refine mx_goto (tgt := 57) (mx_d tX9_goOn_1 38 rfl) (by decide) ?_
                refine mx_forget (L' := [.ref q0, .ref q1, .int y2, .int y3, .int y4, .float 0, .int y6, .int v18, .float 0]) ⟨rfl, rfl, rfl, rfl, rfl, rfl, rfl, trivial⟩ ?_
                exact ih h hret hex
              · rw [if_pos hc17] at h
                refine mx_aload_n (mx_d tX9_goOn_1 7 rfl) rfl rfl ?_
                refine mx_getR (mx_d tX9_goOn_1 8 rfl) fX9_14 rfl rfl (ly9_o g0) (ly9_r0 g0) ?_
                refine mx_iload (mx_d tX9_goOn_1 9 rfl) rfl ?_
                obtain ⟨r19, h_r19, h⟩ := Option.bind_eq_some_iff.mp h
                refine mx_cVv (mx_d tX9_goOn_1 10 rfl) iX9_36 rfl vX7_add ⟨_, rfl, rfl⟩ (ly7_o (ly9_s0 g0)) (CX7_add (ly9_s0 g0) h_r19) (by omega) rfl rfl (Nat.le_of_ble_eq_true rfl) ?_
                refine mx_aload_n (mx_d tX9_goOn_1 11 rfl) rfl rfl ?_
                refine mx_getR (mx_d tX9_goOn_1 12 rfl) fX9_14 rfl rfl (ly9_o g0) (ly9_r0 g0) ?_
                refine mx_iload (mx_d tX9_goOn_1 13 rfl) rfl ?_
                obtain ⟨r20, h_r20, h⟩ := Option.bind_eq_some_iff.mp h
                refine mx_cVv (mx_d tX9_goOn_1 14 rfl) iX9_36 rfl vX7_add ⟨_, rfl, rfl⟩ (ly7_o (ly9_s0 g0)) (CX7_add (ly9_s0 g0) h_r20) (by omega) rfl rfl (Nat.le_of_ble_eq_true rfl) ?_
                refine mx_aload_n (mx_d tX9_goOn_1 15 rfl) rfl rfl ?_
                refine mx_aload_n (mx_d tX9_goOn_1 16 rfl) rfl rfl ?_
                refine mx_iload_n (mx_d tX9_goOn_1 17 rfl) rfl rfl ?_
                refine mx_iconst (1) (mx_d tX9_goOn_1 18 rfl) (by decide) ?_
                refine mx_iload (mx_d tX9_goOn_1 19 rfl) rfl ?_
                refine mx_ishl (mx_d tX9_goOn_1 20 rfl) ?_
                refine mx_ior (mx_d tX9_goOn_1 21 rfl) ?_
                refine mx_iconst (1) (mx_d tX9_goOn_1 22 rfl) (by decide) ?_
                refine mx_iload (mx_d tX9_goOn_1 23 rfl) rfl ?_
                refine mx_ishl (mx_d tX9_goOn_1 24 rfl) ?_
                refine mx_ior (mx_d tX9_goOn_1 25 rfl) ?_
                refine mx_iload_n (mx_d tX9_goOn_1 26 rfl) rfl rfl ?_
                refine mx_iconst (1) (mx_d tX9_goOn_1 27 rfl) (by decide) ?_
                refine mx_isub (mx_d tX9_goOn_1 28 rfl) ?_
                refine mx_iload (mx_d tX9_goOn_1 29 rfl) rfl ?_
                obtain ⟨r21, h_r21, h⟩ := Option.bind_eq_some_iff.mp h
                refine mx_cVi (mx_d tX9_goOn_1 30 rfl) iX9_39 rfl vX9_goOn ⟨_, rfl, rfl⟩ (ly9_o g0) (hrec g0 g1 h_r21) (by omega) rfl rfl (Nat.le_of_ble_eq_true rfl) ?_
                refine mx_if_eq (tgt := 169) (mx_d tX9_goOn_1 31 rfl) (by decide) (fun hc22 => ?_) (fun hc22 => ?_)
                · rw [if_pos hc22] at h
                  refine mx_aload_n (mx_d tX9_goOn_1 34 rfl) rfl rfl ?_
                  refine mx_getR (mx_d tX9_goOn_1 35 rfl) fX9_14 rfl rfl (ly9_o g0) (ly9_r0 g0) ?_
                  obtain ⟨r23, h_r23, h⟩ := Option.bind_eq_some_iff.mp h
                  refine mx_cVv (mx_d tX9_goOn_1 36 rfl) iX9_60 rfl vX7_dropTwo ⟨_, rfl, rfl⟩ (ly7_o (ly9_s0 g0)) (CX7_dropTwo (ly9_s0 g0) h_r23) (by omega) rfl rfl (Nat.le_of_ble_eq_true rfl) ?_
                  obtain ⟨v24, e_v24, h⟩ := mx_letE h
                  refine mx_iinc v24 (L2 := [.ref q0, .ref q1, .int y2, .int y3, .int y4, .float 0, .int y6, .int v24, .int r9]) (mx_d tX9_goOn_1 37 rfl) rfl (by rw [e_v24]; rfl) (by decide) rfl ?_
                  refine mx_goto (tgt := 57) (mx_d tX9_goOn_1 38 rfl) (by decide) ?_
                  refine mx_forget (L' := [.ref q0, .ref q1, .int y2, .int y3, .int y4, .float 0, .int y6, .int v24, .float 0]) ⟨rfl, rfl, rfl, rfl, rfl, rfl, rfl, trivial⟩ ?_
                  exact ih h hret hex
                · rw [if_neg hc22] at h
                  refine mx_iconst (1) (mx_d tX9_goOn_1 32 rfl) (by decide) ?_
                  obtain rfl := Option.some.inj h
                  exact mx_zreturn (mx_d tX9_goOn_1 33 rfl) rfl rfl (hret _ rfl)
        refine mx_if_gt (tgt := 106) (mx_d tX9_goOn_0 46 rfl) (by decide) (fun hc10 => ?_) (fun hc10 => ?_)
        · rw [if_pos hc10] at h
          exact j_k12 h
        · rw [if_neg hc10] at h
          refine mx_iload (mx_d tX9_goOn_0 47 rfl) rfl ?_
          refine mx_iconst ((-1)) (mx_d tX9_goOn_0 48 rfl) (by decide) ?_
          refine mx_icmp_ne (tgt := 106) (mx_d tX9_goOn_0 49 rfl) (by decide) (fun hc25 => ?_) (fun hc25 => ?_)
          · rw [if_neg hc25] at h
            exact j_k12 h
          · rw [if_pos hc25] at h
            refine mx_aload_n (mx_d tX9_goOn_0 50 rfl) rfl rfl ?_
            refine mx_getR (mx_d tX9_goOn_0 51 rfl) fX9_14 rfl rfl (ly9_o g0) (ly9_r0 g0) ?_
            refine mx_iload (mx_d tX9_goOn_0 52 rfl) rfl ?_
            obtain ⟨r26, h_r26, h⟩ := Option.bind_eq_some_iff.mp h
            refine mx_cVv (mx_d tX9_goOn_0 53 rfl) iX9_36 rfl vX7_add ⟨_, rfl, rfl⟩ (ly7_o (ly9_s0 g0)) (CX7_add (ly9_s0 g0) h_r26) (by omega) rfl rfl (Nat.le_of_ble_eq_true rfl) ?_
            refine mx_iconst (1) (mx_d tX9_goOn_0 54 rfl) (by decide) ?_
            obtain rfl := Option.some.inj h
            exact mx_zreturn (mx_d tX9_goOn_0 55 rfl) rfl rfl (hret _ rfl)
      · rw [if_pos hc8] at h
        refine mx_goto (tgt := 176) (mx_d tX9_goOn_0 40 rfl) (by decide) ?_
        obtain ⟨v27, e_v27, h⟩ := mx_letE h
        refine mx_iinc v27 (L2 := [.ref q0, .ref q1, .int y2, .int y3, .int y4, .float 0, .int y6, .int v27, .float 0]) (mx_d tX9_goOn_1 37 rfl) rfl (by rw [e_v27]; rfl) (by decide) rfl ?_
        refine mx_goto (tgt := 57) (mx_d tX9_goOn_1 38 rfl) (by decide) ?_
        exact ih h hret hex
def FX9_goOn_B (rec : Nat → Nat → Int32 → Int32 → Int32 → mB → Option (Int32 × mB)) (a : Nat) (p0 : Nat) (x1 : Int32) (x2 : Int32) (x3 : Int32) (m : mB) : Option (Int32 × mB) := Option.bind (FX7_size (a + 1) m) (fun r1 => Option.bind (FX7_at (a + 1) (r1 - 1) m) (fun r2 => mx_let (Option.bind (FX4_nearTo p0 r2 m) (fun r5 => mx_let (r5 &&& (x1 ^^^ (-1))) (fun v6 => Option.bind (FX9_goOn_L57 rec a p0 x1 x2 x3 v6 mx_FU 0 m) (fun q28 => Sum.elim (fun rr => some rr) (fun u29 => (some (0, u29))) q28)))) (fun k4 => (if 0 < x2 then k4 else (if x3 = 0 then k4 else Option.bind (FX7_at (a + 1) 0 m) (fun r32 => Option.bind (FX4_areLinked p0 r2 r32 m) (fun r33 => mx_chk (mx_b01 r33) ((some (r33, m))))))))))
def FX9_goOn : Nat → Nat → Nat → Int32 → Int32 → Int32 → mB → Option (Int32 × mB)
  | 0, _, _, _, _, _, _ => none
  | D + 1, a, p0, x1, x2, x3, m => FX9_goOn_B (FX9_goOn D) a p0 x1 x2 x3 m
set_option maxRecDepth 20000 in
theorem CX9_goOn_B {G : mG} {l : Launch} {e : mE} {rec : Nat → Nat → Int32 → Int32 → Int32 → mB → Option (Int32 × mB)} {D : Nat} {a : Nat} {p0 : Nat} {x1 : Int32} {x2 : Int32} {x3 : Int32} {m : mB} {r : (Int32 × mB)} (hrec : ∀ {a : Nat} {p0 : Nat} {x1 : Int32} {x2 : Int32} {x3 : Int32} {m : mB} {r : (Int32 × mB)}, ly9 e a → ly4 e p0 → rec a p0 x1 x2 x3 m = some r → mx_Call G l MX9_goOn D 0 0 [.ref a, .ref p0, .int x1, .int x2, .int x3] (e, m) (fun v z => v = some (.int r.1) ∧ z = (e, r.2))) (h0 : ly9 e a) (h1 : ly4 e p0) (h : FX9_goOn_B rec a p0 x1 x2 x3 m = some r) : mx_Call G l MX9_goOn (D + 3) 0 0 [.ref a, .ref p0, .int x1, .int x2, .int x3] (e, m) (fun v z => v = some (.int r.1) ∧ z = (e, r.2)) := by
  refine mx_entry (L := [.ref a, .ref p0, .int x1, .int x2, .int x3, .float 0, .float 0, .float 0, .float 0]) (by decide +kernel) (Nat.le_of_ble_eq_true rfl) rfl ?_
  unfold FX9_goOn_B at h
  refine mx_aload_n (mx_d tX9_goOn_0 0 rfl) rfl rfl ?_
  refine mx_getR (mx_d tX9_goOn_0 1 rfl) fX9_14 rfl rfl (ly9_o h0) (ly9_r0 h0) ?_
  refine mx_aload_n (mx_d tX9_goOn_0 2 rfl) rfl rfl ?_
  refine mx_getR (mx_d tX9_goOn_0 3 rfl) fX9_14 rfl rfl (ly9_o h0) (ly9_r0 h0) ?_
  obtain ⟨r1, h_r1, h⟩ := Option.bind_eq_some_iff.mp h
  refine mx_cVi (mx_d tX9_goOn_0 4 rfl) iX9_42 rfl vX7_size ⟨_, rfl, rfl⟩ (ly7_o (ly9_s0 h0)) (CX7_size (ly9_s0 h0) h_r1) (by omega) rfl rfl (Nat.le_of_ble_eq_true rfl) ?_
  refine mx_iconst (1) (mx_d tX9_goOn_0 5 rfl) (by decide) ?_
  refine mx_isub (mx_d tX9_goOn_0 6 rfl) ?_
  obtain ⟨r2, h_r2, h⟩ := Option.bind_eq_some_iff.mp h
  refine mx_cVi (mx_d tX9_goOn_0 7 rfl) iX9_46 rfl vX7_at ⟨_, rfl, rfl⟩ (ly7_o (ly9_s0 h0)) (CX7_at (ly9_s0 h0) h_r2) (by omega) rfl rfl (Nat.le_of_ble_eq_true rfl) ?_
  refine mx_istore (L2 := [.ref a, .ref p0, .int x1, .int x2, .int x3, .int r2, .float 0, .float 0, .float 0]) (mx_d tX9_goOn_0 8 rfl) (by decide) (by rfl) ?_
  refine mx_iload_n (mx_d tX9_goOn_0 9 rfl) rfl rfl ?_
  refine mx_letK (J := fun k4 => k4 = some r → mx_Fr G l MX9_goOn (D + 3) 0 0 (fun v z => v = some (.int r.1) ∧ z = (e, r.2)) 42 [.ref a, .ref p0, .int x1, .int x2, .int x3, .int r2, .float 0, .float 0, .float 0] [] (e, m)) h ?_ (fun k4 j_k4 h => ?_)
  · intro h
    refine mx_aload_n (mx_d tX9_goOn_0 21 rfl) rfl rfl ?_
    refine mx_iload (mx_d tX9_goOn_0 22 rfl) rfl ?_
    obtain ⟨r5, h_r5, h⟩ := Option.bind_eq_some_iff.mp h
    refine mx_cVi (mx_d tX9_goOn_0 23 rfl) iX9_54 rfl vX4_nearTo ⟨_, rfl, rfl⟩ (ly4_o h1) (CX4_nearTo h1 h_r5) (by omega) rfl rfl (Nat.le_of_ble_eq_true rfl) ?_
    refine mx_iload_n (mx_d tX9_goOn_0 24 rfl) rfl rfl ?_
    refine mx_iconst ((-1)) (mx_d tX9_goOn_0 25 rfl) (by decide) ?_
    refine mx_ixor (mx_d tX9_goOn_0 26 rfl) ?_
    refine mx_iand (mx_d tX9_goOn_0 27 rfl) ?_
    obtain ⟨v6, e_v6, h⟩ := mx_letE h
    refine mx_istore (L2 := [.ref a, .ref p0, .int x1, .int x2, .int x3, .int r2, .int v6, .float 0, .float 0]) (mx_d tX9_goOn_0 28 rfl) (by decide) (by rw [e_v6]; rfl) ?_
    refine mx_iconst (0) (mx_d tX9_goOn_0 29 rfl) (by decide) ?_
    refine mx_istore (L2 := [.ref a, .ref p0, .int x1, .int x2, .int x3, .int r2, .int v6, .int 0, .float 0]) (mx_d tX9_goOn_0 30 rfl) (by decide) (by rfl) ?_
    obtain ⟨q28, h_q28, h⟩ := Option.bind_eq_some_iff.mp h
    refine mx_forget (L' := [.ref a, .ref p0, .int x1, .int x2, .int x3, .float 0, .int v6, .int 0, .float 0]) ⟨rfl, rfl, rfl, rfl, rfl, rfl, rfl, trivial⟩ ?_
    refine CX9_goOn_L57 hrec h0 h1 mx_FU h_q28 (fun rr30 e_rr30 => ?_) (fun u29 e_u29 => ?_)
    · subst e_rr30
      rw [Sum.elim_inl] at h
      obtain rfl := Option.some.inj h
      exact ⟨rfl, rfl⟩
    · subst e_u29
      rw [Sum.elim_inr] at h
      refine mx_iconst (0) (mx_d tX9_goOn_1 39 rfl) (by decide) ?_
      obtain rfl := Option.some.inj h
      exact mx_zreturn (mx_d tX9_goOn_1 40 rfl) rfl rfl ⟨rfl, rfl⟩
  refine mx_if_gt (tgt := 42) (mx_d tX9_goOn_0 10 rfl) (by decide) (fun hc3 => ?_) (fun hc3 => ?_)
  · rw [if_pos hc3] at h
    exact j_k4 h
  · rw [if_neg hc3] at h
    refine mx_iload (mx_d tX9_goOn_0 11 rfl) rfl ?_
    refine mx_if_eq (tgt := 42) (mx_d tX9_goOn_0 12 rfl) (by decide) (fun hc31 => ?_) (fun hc31 => ?_)
    · rw [if_pos hc31] at h
      exact j_k4 h
    · rw [if_neg hc31] at h
      refine mx_aload_n (mx_d tX9_goOn_0 13 rfl) rfl rfl ?_
      refine mx_iload (mx_d tX9_goOn_0 14 rfl) rfl ?_
      refine mx_aload_n (mx_d tX9_goOn_0 15 rfl) rfl rfl ?_
      refine mx_getR (mx_d tX9_goOn_0 16 rfl) fX9_14 rfl rfl (ly9_o h0) (ly9_r0 h0) ?_
      refine mx_iconst (0) (mx_d tX9_goOn_0 17 rfl) (by decide) ?_
      obtain ⟨r32, h_r32, h⟩ := Option.bind_eq_some_iff.mp h
      refine mx_cVi (mx_d tX9_goOn_0 18 rfl) iX9_46 rfl vX7_at ⟨_, rfl, rfl⟩ (ly7_o (ly9_s0 h0)) (CX7_at (ly9_s0 h0) h_r32) (by omega) rfl rfl (Nat.le_of_ble_eq_true rfl) ?_
      obtain ⟨r33, h_r33, h⟩ := Option.bind_eq_some_iff.mp h
      refine mx_cVi (mx_d tX9_goOn_0 19 rfl) iX9_50 rfl vX4_areLinked ⟨_, rfl, rfl⟩ (ly4_o h1) (CX4_areLinked h1 h_r33) (by omega) rfl rfl (Nat.le_of_ble_eq_true rfl) ?_
      obtain ⟨hb34, h⟩ := mx_chkE h
      obtain rfl := Option.some.inj h
      exact mx_zreturn (mx_d tX9_goOn_0 20 rfl) rfl (mx_nb (mx_b01E hb34)) ⟨rfl, rfl⟩
theorem CX9_goOn {G : mG} {l : Launch} {e : mE} : ∀ (D : Nat) {a : Nat} {p0 : Nat} {x1 : Int32} {x2 : Int32} {x3 : Int32} {m : mB} {r : (Int32 × mB)}, ly9 e a → ly4 e p0 → FX9_goOn D a p0 x1 x2 x3 m = some r → mx_Call G l MX9_goOn (3 * D) 0 0 [.ref a, .ref p0, .int x1, .int x2, .int x3] (e, m) (fun v z => v = some (.int r.1) ∧ z = (e, r.2)) := by
  intro D
  induction D with
  | zero => intro _ _ _ _ _ _ _ _ _ h; cases h
  | succ D ih =>
    intro a p0 x1 x2 x3 m r h0 h1 h
    rw [FX9_goOn] at h
    have hh := CX9_goOn_B (rec := FX9_goOn D) (D := 3 * D) (fun {_ _ _ _ _} {_} {_} zh0 zh1 hz => ih zh0 zh1 hz) h0 h1 h
    rw [show 3 * (D + 1) = 3 * D + 3 by omega]
    exact hh
def FX9_findRow_L3 (q0 : Nat) (q1 : Nat) (y2 : Int32) (y4 : Int32) : Nat → Int32 → mB → Option ((Int32 × mB) ⊕ (mB))
  | 0, _, _ => none
  | f + 1, y5, m => (if 5 ≤ y5 then (some (.inr m)) else Option.bind (FX7_clear (q0 + 1) m) (fun r2 => Option.bind (FX7_add (q0 + 1) y2 r2) (fun r3 => Option.bind (FX9_goOn 64 q0 q1 ((1 : Int32) <<< (y2 &&& 31)) y5 y4 r3) (fun r4 => (if r4.1 = 0 then mx_let (y5 + 1) (fun v6 => (FX9_findRow_L3 q0 q1 y2 y4 f v6 r4.2)) else (some (.inl (1, r4.2))))))))
set_option maxRecDepth 20000 in
theorem CX9_findRow_L3 {G : mG} {l : Launch} {e : mE} {Post : Option Value → mS → Prop} {q0 : Nat} {q1 : Nat} {y2 : Int32} {y4 : Int32} (g0 : ly9 e q0) (g1 : ly4 e q1) : ∀ (f : Nat) {y5 : Int32} {m : mB} {q : ((Int32 × mB) ⊕ (mB))}, FX9_findRow_L3 q0 q1 y2 y4 f y5 m = some q → (∀ rr, q = .inl rr → Post (some (.int rr.1)) (e, rr.2)) → (∀ u, q = .inr u → mx_Fr G l MX9_findRow 193 0 0 Post 47 [.float 0, .float 0, .float 0, .float 0, .float 0, .float 0] [] (e, u)) → mx_Fr G l MX9_findRow 193 0 0 Post 3 [.ref q0, .ref q1, .int y2, .float 0, .int y4, .int y5] [] (e, m) := by
  intro f
  induction f with
  | zero => intro _ _ _ h; cases h
  | succ f ih =>
    intro y5 m q h hret hex
    rw [FX9_findRow_L3] at h
    refine mx_iload (mx_d tX9_findRow_0 2 rfl) rfl ?_
    refine mx_iconst (5) (mx_d tX9_findRow_0 3 rfl) (by decide) ?_
    refine mx_icmp_ge (tgt := 47) (mx_d tX9_findRow_0 4 rfl) (by decide) (fun hc1 => ?_) (fun hc1 => ?_)
    · rw [if_pos hc1] at h
      obtain rfl := Option.some.inj h
      refine mx_forget (L' := [.float 0, .float 0, .float 0, .float 0, .float 0, .float 0]) trivial ?_
      exact (hex _ rfl)
    · rw [if_neg hc1] at h
      refine mx_aload_n (mx_d tX9_findRow_0 5 rfl) rfl rfl ?_
      refine mx_getR (mx_d tX9_findRow_0 6 rfl) fX9_14 rfl rfl (ly9_o g0) (ly9_r0 g0) ?_
      obtain ⟨r2, h_r2, h⟩ := Option.bind_eq_some_iff.mp h
      refine mx_cVv (mx_d tX9_findRow_0 7 rfl) iX9_33 rfl vX7_clear ⟨_, rfl, rfl⟩ (ly7_o (ly9_s0 g0)) (CX7_clear (ly9_s0 g0) h_r2) (by decide) rfl rfl (Nat.le_of_ble_eq_true rfl) ?_
      refine mx_aload_n (mx_d tX9_findRow_0 8 rfl) rfl rfl ?_
      refine mx_getR (mx_d tX9_findRow_0 9 rfl) fX9_14 rfl rfl (ly9_o g0) (ly9_r0 g0) ?_
      refine mx_iload_n (mx_d tX9_findRow_0 10 rfl) rfl rfl ?_
      obtain ⟨r3, h_r3, h⟩ := Option.bind_eq_some_iff.mp h
      refine mx_cVv (mx_d tX9_findRow_0 11 rfl) iX9_36 rfl vX7_add ⟨_, rfl, rfl⟩ (ly7_o (ly9_s0 g0)) (CX7_add (ly9_s0 g0) h_r3) (by decide) rfl rfl (Nat.le_of_ble_eq_true rfl) ?_
      refine mx_aload_n (mx_d tX9_findRow_0 12 rfl) rfl rfl ?_
      refine mx_aload_n (mx_d tX9_findRow_0 13 rfl) rfl rfl ?_
      refine mx_iconst (1) (mx_d tX9_findRow_0 14 rfl) (by decide) ?_
      refine mx_iload_n (mx_d tX9_findRow_0 15 rfl) rfl rfl ?_
      refine mx_ishl (mx_d tX9_findRow_0 16 rfl) ?_
      refine mx_iload (mx_d tX9_findRow_0 17 rfl) rfl ?_
      refine mx_iload (mx_d tX9_findRow_0 18 rfl) rfl ?_
      obtain ⟨r4, h_r4, h⟩ := Option.bind_eq_some_iff.mp h
      refine mx_cVi (mx_d tX9_findRow_0 19 rfl) iX9_39 rfl vX9_goOn ⟨_, rfl, rfl⟩ (ly9_o g0) (CX9_goOn 64 g0 g1 h_r4) (by decide) rfl rfl (Nat.le_of_ble_eq_true rfl) ?_
      refine mx_if_eq (tgt := 41) (mx_d tX9_findRow_0 20 rfl) (by decide) (fun hc5 => ?_) (fun hc5 => ?_)
      · rw [if_pos hc5] at h
        obtain ⟨v6, e_v6, h⟩ := mx_letE h
        refine mx_iinc v6 (L2 := [.ref q0, .ref q1, .int y2, .float 0, .int y4, .int v6]) (mx_d tX9_findRow_0 23 rfl) rfl (by rw [e_v6]; rfl) (by decide) rfl ?_
        refine mx_goto (tgt := 3) (mx_d tX9_findRow_0 24 rfl) (by decide) ?_
        exact ih h hret hex
      · rw [if_neg hc5] at h
        refine mx_iconst (1) (mx_d tX9_findRow_0 21 rfl) (by decide) ?_
        obtain rfl := Option.some.inj h
        exact mx_zreturn (mx_d tX9_findRow_0 22 rfl) rfl rfl (hret _ rfl)
def FX9_findRow (a : Nat) (p0 : Nat) (x1 : Int32) (x2 : Int32) (x3 : Int32) (m : mB) : Option (Int32 × mB) := Option.bind (FX9_findRow_L3 a p0 x1 x3 mx_FU x2 m) (fun q7 => Sum.elim (fun rr => some rr) (fun u8 => (some (0, u8))) q7)
set_option maxRecDepth 20000 in
theorem CX9_findRow {G : mG} {l : Launch} {e : mE} {a : Nat} {p0 : Nat} {x1 : Int32} {x2 : Int32} {x3 : Int32} {m : mB} {r : (Int32 × mB)} (h0 : ly9 e a) (h1 : ly4 e p0) (h : FX9_findRow a p0 x1 x2 x3 m = some r) : mx_Call G l MX9_findRow 193 0 0 [.ref a, .ref p0, .int x1, .int x2, .int x3] (e, m) (fun v z => v = some (.int r.1) ∧ z = (e, r.2)) := by
  refine mx_entry (L := [.ref a, .ref p0, .int x1, .int x2, .int x3, .float 0]) (by decide +kernel) (Nat.le_of_ble_eq_true rfl) rfl ?_
  unfold FX9_findRow at h
  refine mx_iload_n (mx_d tX9_findRow_0 0 rfl) rfl rfl ?_
  refine mx_istore (L2 := [.ref a, .ref p0, .int x1, .int x2, .int x3, .int x2]) (mx_d tX9_findRow_0 1 rfl) (by decide) (by rfl) ?_
  obtain ⟨q7, h_q7, h⟩ := Option.bind_eq_some_iff.mp h
  refine mx_forget (L' := [.ref a, .ref p0, .int x1, .float 0, .int x3, .int x2]) ⟨rfl, rfl, rfl, rfl, rfl, trivial⟩ ?_
  refine CX9_findRow_L3 h0 h1 mx_FU h_q7 (fun rr9 e_rr9 => ?_) (fun u8 e_u8 => ?_)
  · subst e_rr9
    rw [Sum.elim_inl] at h
    obtain rfl := Option.some.inj h
    exact ⟨rfl, rfl⟩
  · subst e_u8
    rw [Sum.elim_inr] at h
    refine mx_iconst (0) (mx_d tX9_findRow_0 25 rfl) (by decide) ?_
    obtain rfl := Option.some.inj h
    exact mx_zreturn (mx_d tX9_findRow_0 26 rfl) rfl rfl ⟨rfl, rfl⟩
def FX9_growFrom (a : Nat) (p0 : Nat) (x1 : Int32) (m : mB) : Option (Int32 × mB) := Option.bind (FX4_isLone p0 x1 m) (fun r1 => (if r1 = 0 then (some (1, m)) else Option.bind (FX9_findRow a p0 x1 0 0 m) (fun r3 => (if r3.1 = 0 then (some (2, r3.2)) else Option.bind (FX4_turnAlong p0 (a + 1) r3.2) (fun r5 => (some (0, r5.2)))))))
set_option maxRecDepth 20000 in
theorem CX9_growFrom {G : mG} {l : Launch} {e : mE} {a : Nat} {p0 : Nat} {x1 : Int32} {m : mB} {r : (Int32 × mB)} (h0 : ly9 e a) (h1 : ly4 e p0) (h : FX9_growFrom a p0 x1 m = some r) : mx_Call G l MX9_growFrom 194 0 0 [.ref a, .ref p0, .int x1] (e, m) (fun v z => v = some (.int r.1) ∧ z = (e, r.2)) := by
  refine mx_entry (L := [.ref a, .ref p0, .int x1]) (by decide +kernel) (Nat.le_of_ble_eq_true rfl) rfl ?_
  unfold FX9_growFrom at h
  refine mx_aload_n (mx_d tX9_growFrom_0 0 rfl) rfl rfl ?_
  refine mx_iload_n (mx_d tX9_growFrom_0 1 rfl) rfl rfl ?_
  obtain ⟨r1, h_r1, h⟩ := Option.bind_eq_some_iff.mp h
  refine mx_cVi (mx_d tX9_growFrom_0 2 rfl) iX9_20 rfl vX4_isLone ⟨_, rfl, rfl⟩ (ly4_o h1) (CX4_isLone h1 h_r1) (by decide) rfl rfl (Nat.le_of_ble_eq_true rfl) ?_
  refine mx_if_ne (tgt := 10) (mx_d tX9_growFrom_0 3 rfl) (by decide) (fun hc2 => ?_) (fun hc2 => ?_)
  · rw [if_neg hc2] at h
    refine mx_aload_n (mx_d tX9_growFrom_0 6 rfl) rfl rfl ?_
    refine mx_aload_n (mx_d tX9_growFrom_0 7 rfl) rfl rfl ?_
    refine mx_iload_n (mx_d tX9_growFrom_0 8 rfl) rfl rfl ?_
    refine mx_iconst (0) (mx_d tX9_growFrom_0 9 rfl) (by decide) ?_
    refine mx_iconst (0) (mx_d tX9_growFrom_0 10 rfl) (by decide) ?_
    obtain ⟨r3, h_r3, h⟩ := Option.bind_eq_some_iff.mp h
    refine mx_cVi (mx_d tX9_growFrom_0 11 rfl) iX9_26 rfl vX9_findRow ⟨_, rfl, rfl⟩ (ly9_o h0) (CX9_findRow h0 h1 h_r3) (by decide) rfl rfl (Nat.le_of_ble_eq_true rfl) ?_
    refine mx_if_ne (tgt := 23) (mx_d tX9_growFrom_0 12 rfl) (by decide) (fun hc4 => ?_) (fun hc4 => ?_)
    · rw [if_neg hc4] at h
      refine mx_aload_n (mx_d tX9_growFrom_0 15 rfl) rfl rfl ?_
      refine mx_aload_n (mx_d tX9_growFrom_0 16 rfl) rfl rfl ?_
      refine mx_getR (mx_d tX9_growFrom_0 17 rfl) fX9_14 rfl rfl (ly9_o h0) (ly9_r0 h0) ?_
      obtain ⟨r5, h_r5, h⟩ := Option.bind_eq_some_iff.mp h
      refine mx_cVi (mx_d tX9_growFrom_0 18 rfl) iX9_63 rfl vX4_turnAlong ⟨_, rfl, rfl⟩ (ly4_o h1) (CX4_turnAlong h1 (ly9_s0 h0) h_r5) (by decide) rfl rfl (Nat.le_of_ble_eq_true rfl) ?_
      refine mx_pop (mx_d tX9_growFrom_0 19 rfl) rfl ?_
      refine mx_iconst (0) (mx_d tX9_growFrom_0 20 rfl) (by decide) ?_
      obtain rfl := Option.some.inj h
      exact mx_ireturn (mx_d tX9_growFrom_0 21 rfl) rfl ⟨rfl, rfl⟩
    · rw [if_pos hc4] at h
      refine mx_iconst (2) (mx_d tX9_growFrom_0 13 rfl) (by decide) ?_
      obtain rfl := Option.some.inj h
      exact mx_ireturn (mx_d tX9_growFrom_0 14 rfl) rfl ⟨rfl, rfl⟩
  · rw [if_pos hc2] at h
    refine mx_iconst (1) (mx_d tX9_growFrom_0 4 rfl) (by decide) ?_
    obtain rfl := Option.some.inj h
    exact mx_ireturn (mx_d tX9_growFrom_0 5 rfl) rfl ⟨rfl, rfl⟩
def FX0_live (a : Nat) (x0 : Int32) (p1 : Nat) (p2 : Nat) (m : mB) : Option (Int32 × mB) := (if x0 < 0 then (some (0, m)) else (if x0 < 40 then mx_chk (mx_inb x0 40) (mx_let (m.1 (a + 2) (Int32.toNatClampNeg x0)) (fun v4 => (if (m.1 (a + 1) (Int32.toNatClampNeg x0)) = 102 then Option.bind (FX4_pairUp p1 v4 (m.1 (a + 3) (Int32.toNatClampNeg x0)) m) (fun r6 => (some (r6.1, r6.2))) else if (m.1 (a + 1) (Int32.toNatClampNeg x0)) = 103 then Option.bind (FX4_priceAt p1 v4 (m.1 (a + 4) (Int32.toNatClampNeg x0)) m) (fun r8 => Option.bind (FX0_behind 30 r8.1 r8.2) (fun r9 => (some (r9, r8.2)))) else if (m.1 (a + 1) (Int32.toNatClampNeg x0)) = 105 then Option.bind (FX4_partFrom p1 v4 m) (fun r11 => Option.bind (FX0_behind 10 r11.1 r11.2) (fun r12 => (some (r12, r11.2)))) else if (m.1 (a + 1) (Int32.toNatClampNeg x0)) = 106 then Option.bind (FX4_weighAnew p1 v4 (m.1 (a + 3) (Int32.toNatClampNeg x0)) (m.1 (a + 4) (Int32.toNatClampNeg x0)) m) (fun r14 => Option.bind (FX0_behind 20 r14.1 r14.2) (fun r15 => (some (r15, r14.2)))) else if (m.1 (a + 1) (Int32.toNatClampNeg x0)) = 107 then Option.bind (FX4_hasSet p1 v4 m) (fun r17 => (if r17 = 0 then (some (49, m)) else Option.bind (FX4_crownAt p1 v4 (m.1 (a + 4) (Int32.toNatClampNeg x0)) m) (fun r19 => Option.bind (FX0_behind 40 r19.1 r19.2) (fun r20 => (some (r20, r19.2)))))) else if (m.1 (a + 1) (Int32.toNatClampNeg x0)) = 108 then Option.bind (FX4_hasSet p1 v4 m) (fun r22 => (if r22 = 0 then (some (59, m)) else Option.bind (FX4_openSet p1 v4 m) (fun r24 => Option.bind (FX0_behind 50 r24.1 r24.2) (fun r25 => (some (r25, r24.2)))))) else Option.bind (FX9_growFrom p2 p1 v4 m) (fun r26 => Option.bind (FX0_behind 60 r26.1 r26.2) (fun r27 => (some (r27, r26.2))))))) else (some (0, m))))
set_option maxRecDepth 20000 in
theorem CX0_live {G : mG} {l : Launch} {e : mE} {a : Nat} {x0 : Int32} {p1 : Nat} {p2 : Nat} {m : mB} {r : (Int32 × mB)} (h0 : ly0 e a) (h2 : ly4 e p1) (h3 : ly9 e p2) (h : FX0_live a x0 p1 p2 m = some r) : mx_Call G l MX0_live 195 0 0 [.ref a, .int x0, .ref p1, .ref p2] (e, m) (fun v z => v = some (.int r.1) ∧ z = (e, r.2)) := by
  refine mx_entry (L := [.ref a, .int x0, .ref p1, .ref p2, .float 0]) (by decide +kernel) (Nat.le_of_ble_eq_true rfl) rfl ?_
  unfold FX0_live at h
  refine mx_iload_n (mx_d tX0_live_0 0 rfl) rfl rfl ?_
  refine mx_if_lt (tgt := 10) (mx_d tX0_live_0 1 rfl) (by decide) (fun hc1 => ?_) (fun hc1 => ?_)
  · rw [if_pos hc1] at h
    refine mx_iconst (0) (mx_d tX0_live_0 5 rfl) (by decide) ?_
    obtain rfl := Option.some.inj h
    exact mx_ireturn (mx_d tX0_live_0 6 rfl) rfl ⟨rfl, rfl⟩
  · rw [if_neg hc1] at h
    refine mx_iload_n (mx_d tX0_live_0 2 rfl) rfl rfl ?_
    refine mx_bipush (40) (mx_d tX0_live_0 3 rfl) (by decide) ?_
    refine mx_icmp_lt (tgt := 12) (mx_d tX0_live_0 4 rfl) (by decide) (fun hc2 => ?_) (fun hc2 => ?_)
    · rw [if_pos hc2] at h
      refine mx_aload_n (mx_d tX0_live_0 7 rfl) rfl rfl ?_
      refine mx_getR (mx_d tX0_live_0 8 rfl) fX0_15 rfl rfl (ly0_o h0) (ly0_r1 h0) ?_
      refine mx_iload_n (mx_d tX0_live_0 9 rfl) rfl rfl ?_
      obtain ⟨hi3, h⟩ := mx_chkE h
      refine mx_iaload (mx_d tX0_live_0 10 rfl) (ly0_s1 h0) (mx_inbE hi3) ?_
      obtain ⟨v4, e_v4, h⟩ := mx_letE h
      refine mx_istore (L2 := [.ref a, .int x0, .ref p1, .ref p2, .int v4]) (mx_d tX0_live_0 11 rfl) (by decide) (by rw [e_v4]; rfl) ?_
      refine mx_aload_n (mx_d tX0_live_0 12 rfl) rfl rfl ?_
      refine mx_getR (mx_d tX0_live_0 13 rfl) fX0_9 rfl rfl (ly0_o h0) (ly0_r0 h0) ?_
      refine mx_iload_n (mx_d tX0_live_0 14 rfl) rfl rfl ?_
      refine mx_iaload (mx_d tX0_live_0 15 rfl) (ly0_s0 h0) (mx_inbE hi3) ?_
      by_cases hc5 : (m.1 (a + 1) (Int32.toNatClampNeg x0)) = 102
      · rw [if_pos hc5] at h
        refine mx_tableIn (tgt := 68) (mx_d tX0_live_0 16 rfl) (by rw [hc5]; decide) (by rw [hc5]; decide) (by rw [hc5]; rfl) (by decide) ?_
        refine mx_aload_n (mx_d tX0_live_0 17 rfl) rfl rfl ?_
        refine mx_iload (mx_d tX0_live_0 18 rfl) rfl ?_
        refine mx_aload_n (mx_d tX0_live_0 19 rfl) rfl rfl ?_
        refine mx_getR (mx_d tX0_live_0 20 rfl) fX0_18 rfl rfl (ly0_o h0) (ly0_r2 h0) ?_
        refine mx_iload_n (mx_d tX0_live_0 21 rfl) rfl rfl ?_
        refine mx_iaload (mx_d tX0_live_0 22 rfl) (ly0_s2 h0) (mx_inbE hi3) ?_
        obtain ⟨r6, h_r6, h⟩ := Option.bind_eq_some_iff.mp h
        refine mx_cVi (mx_d tX0_live_0 23 rfl) iX0_109 rfl vX4_pairUp ⟨_, rfl, rfl⟩ (ly4_o h2) (CX4_pairUp h2 h_r6) (by decide) rfl rfl (Nat.le_of_ble_eq_true rfl) ?_
        obtain rfl := Option.some.inj h
        exact mx_ireturn (mx_d tX0_live_0 24 rfl) rfl ⟨rfl, rfl⟩
      · rw [if_neg hc5] at h
        by_cases hc7 : (m.1 (a + 1) (Int32.toNatClampNeg x0)) = 103
        · rw [if_pos hc7] at h
          refine mx_tableIn (tgt := 117) (mx_d tX0_live_0 16 rfl) (by rw [hc7]; decide) (by rw [hc7]; decide) (by rw [hc7]; rfl) (by decide) ?_
          refine mx_bipush (30) (mx_d tX0_live_0 45 rfl) (by decide) ?_
          refine mx_aload_n (mx_d tX0_live_0 46 rfl) rfl rfl ?_
          refine mx_iload (mx_d tX0_live_0 47 rfl) rfl ?_
          refine mx_aload_n (mx_d tX0_live_0 48 rfl) rfl rfl ?_
          refine mx_getR (mx_d tX0_live_0 49 rfl) fX0_21 rfl rfl (ly0_o h0) (ly0_r3 h0) ?_
          refine mx_iload_n (mx_d tX0_live_0 50 rfl) rfl rfl ?_
          refine mx_iaload (mx_d tX0_live_0 51 rfl) (ly0_s3 h0) (mx_inbE hi3) ?_
          obtain ⟨r8, h_r8, h⟩ := Option.bind_eq_some_iff.mp h
          refine mx_cVi (mx_d tX0_live_0 52 rfl) iX0_123 rfl vX4_priceAt ⟨_, rfl, rfl⟩ (ly4_o h2) (CX4_priceAt h2 h_r8) (by decide) rfl rfl (Nat.le_of_ble_eq_true rfl) ?_
          obtain ⟨r9, h_r9, h⟩ := Option.bind_eq_some_iff.mp h
          refine mx_cSi (mx_d tX0_live_0 53 rfl) iX0_116 rfl sX0_behind (CX0_behind  h_r9) (by decide) rfl rfl (Nat.le_of_ble_eq_true rfl) ?_
          obtain rfl := Option.some.inj h
          exact mx_ireturn (mx_d tX0_live_0 54 rfl) rfl ⟨rfl, rfl⟩
        · rw [if_neg hc7] at h
          by_cases hc10 : (m.1 (a + 1) (Int32.toNatClampNeg x0)) = 105
          · rw [if_pos hc10] at h
            refine mx_tableIn (tgt := 81) (mx_d tX0_live_0 16 rfl) (by rw [hc10]; decide) (by rw [hc10]; decide) (by rw [hc10]; rfl) (by decide) ?_
            refine mx_bipush (10) (mx_d tX0_live_0 25 rfl) (by decide) ?_
            refine mx_aload_n (mx_d tX0_live_0 26 rfl) rfl rfl ?_
            refine mx_iload (mx_d tX0_live_0 27 rfl) rfl ?_
            obtain ⟨r11, h_r11, h⟩ := Option.bind_eq_some_iff.mp h
            refine mx_cVi (mx_d tX0_live_0 28 rfl) iX0_112 rfl vX4_partFrom ⟨_, rfl, rfl⟩ (ly4_o h2) (CX4_partFrom h2 h_r11) (by decide) rfl rfl (Nat.le_of_ble_eq_true rfl) ?_
            obtain ⟨r12, h_r12, h⟩ := Option.bind_eq_some_iff.mp h
            refine mx_cSi (mx_d tX0_live_0 29 rfl) iX0_116 rfl sX0_behind (CX0_behind  h_r12) (by decide) rfl rfl (Nat.le_of_ble_eq_true rfl) ?_
            obtain rfl := Option.some.inj h
            exact mx_ireturn (mx_d tX0_live_0 30 rfl) rfl ⟨rfl, rfl⟩
          · rw [if_neg hc10] at h
            by_cases hc13 : (m.1 (a + 1) (Int32.toNatClampNeg x0)) = 106
            · rw [if_pos hc13] at h
              refine mx_tableIn (tgt := 93) (mx_d tX0_live_0 16 rfl) (by rw [hc13]; decide) (by rw [hc13]; decide) (by rw [hc13]; rfl) (by decide) ?_
              refine mx_bipush (20) (mx_d tX0_live_0 31 rfl) (by decide) ?_
              refine mx_aload_n (mx_d tX0_live_0 32 rfl) rfl rfl ?_
              refine mx_iload (mx_d tX0_live_0 33 rfl) rfl ?_
              refine mx_aload_n (mx_d tX0_live_0 34 rfl) rfl rfl ?_
              refine mx_getR (mx_d tX0_live_0 35 rfl) fX0_18 rfl rfl (ly0_o h0) (ly0_r2 h0) ?_
              refine mx_iload_n (mx_d tX0_live_0 36 rfl) rfl rfl ?_
              refine mx_iaload (mx_d tX0_live_0 37 rfl) (ly0_s2 h0) (mx_inbE hi3) ?_
              refine mx_aload_n (mx_d tX0_live_0 38 rfl) rfl rfl ?_
              refine mx_getR (mx_d tX0_live_0 39 rfl) fX0_21 rfl rfl (ly0_o h0) (ly0_r3 h0) ?_
              refine mx_iload_n (mx_d tX0_live_0 40 rfl) rfl rfl ?_
              refine mx_iaload (mx_d tX0_live_0 41 rfl) (ly0_s3 h0) (mx_inbE hi3) ?_
              obtain ⟨r14, h_r14, h⟩ := Option.bind_eq_some_iff.mp h
              refine mx_cVi (mx_d tX0_live_0 42 rfl) iX0_119 rfl vX4_weighAnew ⟨_, rfl, rfl⟩ (ly4_o h2) (CX4_weighAnew h2 h_r14) (by decide) rfl rfl (Nat.le_of_ble_eq_true rfl) ?_
              obtain ⟨r15, h_r15, h⟩ := Option.bind_eq_some_iff.mp h
              refine mx_cSi (mx_d tX0_live_0 43 rfl) iX0_116 rfl sX0_behind (CX0_behind  h_r15) (by decide) rfl rfl (Nat.le_of_ble_eq_true rfl) ?_
              obtain rfl := Option.some.inj h
              exact mx_ireturn (mx_d tX0_live_0 44 rfl) rfl ⟨rfl, rfl⟩
            · rw [if_neg hc13] at h
              by_cases hc16 : (m.1 (a + 1) (Int32.toNatClampNeg x0)) = 107
              · rw [if_pos hc16] at h
                refine mx_tableIn (tgt := 135) (mx_d tX0_live_0 16 rfl) (by rw [hc16]; decide) (by rw [hc16]; decide) (by rw [hc16]; rfl) (by decide) ?_
                refine mx_aload_n (mx_d tX0_live_0 55 rfl) rfl rfl ?_
                refine mx_iload (mx_d tX0_live_0 56 rfl) rfl ?_
                obtain ⟨r17, h_r17, h⟩ := Option.bind_eq_some_iff.mp h
                refine mx_cVi (mx_d tX0_live_0 57 rfl) iX0_126 rfl vX4_hasSet ⟨_, rfl, rfl⟩ (ly4_o h2) (CX4_hasSet h2 h_r17) (by decide) rfl rfl (Nat.le_of_ble_eq_true rfl) ?_
                refine mx_if_eq (tgt := 164) (mx_d tX0_live_0 58 rfl) (by decide) (fun hc18 => ?_) (fun hc18 => ?_)
                · rw [if_pos hc18] at h
                  refine mx_bipush (49) (mx_d tX0_live_1 9 rfl) (by decide) ?_
                  obtain rfl := Option.some.inj h
                  exact mx_ireturn (mx_d tX0_live_1 10 rfl) rfl ⟨rfl, rfl⟩
                · rw [if_neg hc18] at h
                  refine mx_bipush (40) (mx_d tX0_live_0 59 rfl) (by decide) ?_
                  refine mx_aload_n (mx_d tX0_live_1 0 rfl) rfl rfl ?_
                  refine mx_iload (mx_d tX0_live_1 1 rfl) rfl ?_
                  refine mx_aload_n (mx_d tX0_live_1 2 rfl) rfl rfl ?_
                  refine mx_getR (mx_d tX0_live_1 3 rfl) fX0_21 rfl rfl (ly0_o h0) (ly0_r3 h0) ?_
                  refine mx_iload_n (mx_d tX0_live_1 4 rfl) rfl rfl ?_
                  refine mx_iaload (mx_d tX0_live_1 5 rfl) (ly0_s3 h0) (mx_inbE hi3) ?_
                  obtain ⟨r19, h_r19, h⟩ := Option.bind_eq_some_iff.mp h
                  refine mx_cVi (mx_d tX0_live_1 6 rfl) iX0_129 rfl vX4_crownAt ⟨_, rfl, rfl⟩ (ly4_o h2) (CX4_crownAt h2 h_r19) (by decide) rfl rfl (Nat.le_of_ble_eq_true rfl) ?_
                  obtain ⟨r20, h_r20, h⟩ := Option.bind_eq_some_iff.mp h
                  refine mx_cSi (mx_d tX0_live_1 7 rfl) iX0_116 rfl sX0_behind (CX0_behind  h_r20) (by decide) rfl rfl (Nat.le_of_ble_eq_true rfl) ?_
                  refine mx_goto (tgt := 166) (mx_d tX0_live_1 8 rfl) (by decide) ?_
                  obtain rfl := Option.some.inj h
                  exact mx_ireturn (mx_d tX0_live_1 10 rfl) rfl ⟨rfl, rfl⟩
              · rw [if_neg hc16] at h
                by_cases hc21 : (m.1 (a + 1) (Int32.toNatClampNeg x0)) = 108
                · rw [if_pos hc21] at h
                  refine mx_tableIn (tgt := 167) (mx_d tX0_live_0 16 rfl) (by rw [hc21]; decide) (by rw [hc21]; decide) (by rw [hc21]; rfl) (by decide) ?_
                  refine mx_aload_n (mx_d tX0_live_1 11 rfl) rfl rfl ?_
                  refine mx_iload (mx_d tX0_live_1 12 rfl) rfl ?_
                  obtain ⟨r22, h_r22, h⟩ := Option.bind_eq_some_iff.mp h
                  refine mx_cVi (mx_d tX0_live_1 13 rfl) iX0_126 rfl vX4_hasSet ⟨_, rfl, rfl⟩ (ly4_o h2) (CX4_hasSet h2 h_r22) (by decide) rfl rfl (Nat.le_of_ble_eq_true rfl) ?_
                  refine mx_if_eq (tgt := 190) (mx_d tX0_live_1 14 rfl) (by decide) (fun hc23 => ?_) (fun hc23 => ?_)
                  · rw [if_pos hc23] at h
                    refine mx_bipush (59) (mx_d tX0_live_1 21 rfl) (by decide) ?_
                    obtain rfl := Option.some.inj h
                    exact mx_ireturn (mx_d tX0_live_1 22 rfl) rfl ⟨rfl, rfl⟩
                  · rw [if_neg hc23] at h
                    refine mx_bipush (50) (mx_d tX0_live_1 15 rfl) (by decide) ?_
                    refine mx_aload_n (mx_d tX0_live_1 16 rfl) rfl rfl ?_
                    refine mx_iload (mx_d tX0_live_1 17 rfl) rfl ?_
                    obtain ⟨r24, h_r24, h⟩ := Option.bind_eq_some_iff.mp h
                    refine mx_cVi (mx_d tX0_live_1 18 rfl) iX0_132 rfl vX4_openSet ⟨_, rfl, rfl⟩ (ly4_o h2) (CX4_openSet h2 h_r24) (by decide) rfl rfl (Nat.le_of_ble_eq_true rfl) ?_
                    obtain ⟨r25, h_r25, h⟩ := Option.bind_eq_some_iff.mp h
                    refine mx_cSi (mx_d tX0_live_1 19 rfl) iX0_116 rfl sX0_behind (CX0_behind  h_r25) (by decide) rfl rfl (Nat.le_of_ble_eq_true rfl) ?_
                    refine mx_goto (tgt := 192) (mx_d tX0_live_1 20 rfl) (by decide) ?_
                    obtain rfl := Option.some.inj h
                    exact mx_ireturn (mx_d tX0_live_1 22 rfl) rfl ⟨rfl, rfl⟩
                · rw [if_neg hc21] at h
                  by_cases hd28 : (m.1 (a + 1) (Int32.toNatClampNeg x0)) = 104
                  · refine mx_tableIn (tgt := 193) (mx_d tX0_live_0 16 rfl) (by rw [hd28]; decide) (by rw [hd28]; decide) (by rw [hd28]; rfl) (by decide) ?_
                    refine mx_bipush (60) (mx_d tX0_live_1 23 rfl) (by decide) ?_
                    refine mx_aload_n (mx_d tX0_live_1 24 rfl) rfl rfl ?_
                    refine mx_aload_n (mx_d tX0_live_1 25 rfl) rfl rfl ?_
                    refine mx_iload (mx_d tX0_live_1 26 rfl) rfl ?_
                    obtain ⟨r26, h_r26, h⟩ := Option.bind_eq_some_iff.mp h
                    refine mx_cVi (mx_d tX0_live_1 27 rfl) iX0_135 rfl vX9_growFrom ⟨_, rfl, rfl⟩ (ly9_o h3) (CX9_growFrom h3 h2 h_r26) (by decide) rfl rfl (Nat.le_of_ble_eq_true rfl) ?_
                    obtain ⟨r27, h_r27, h⟩ := Option.bind_eq_some_iff.mp h
                    refine mx_cSi (mx_d tX0_live_1 28 rfl) iX0_116 rfl sX0_behind (CX0_behind  h_r27) (by decide) rfl rfl (Nat.le_of_ble_eq_true rfl) ?_
                    obtain rfl := Option.some.inj h
                    exact mx_ireturn (mx_d tX0_live_1 29 rfl) rfl ⟨rfl, rfl⟩
                  · have z_hc5 := lv_neT hc5 (a := 102) (by decide)
                    have z_hc7 := lv_neT hc7 (a := 103) (by decide)
                    have z_hc10 := lv_neT hc10 (a := 105) (by decide)
                    have z_hc13 := lv_neT hc13 (a := 106) (by decide)
                    have z_hc16 := lv_neT hc16 (a := 107) (by decide)
                    have z_hc21 := lv_neT hc21 (a := 108) (by decide)
                    have z_hd28 := lv_neT hd28 (a := 104) (by decide)
                    refine mx_tableOut (tgt := 193) (mx_d tX0_live_0 16 rfl) (by omega) (by decide) ?_
                    refine mx_bipush (60) (mx_d tX0_live_1 23 rfl) (by decide) ?_
                    refine mx_aload_n (mx_d tX0_live_1 24 rfl) rfl rfl ?_
                    refine mx_aload_n (mx_d tX0_live_1 25 rfl) rfl rfl ?_
                    refine mx_iload (mx_d tX0_live_1 26 rfl) rfl ?_
                    obtain ⟨r26, h_r26, h⟩ := Option.bind_eq_some_iff.mp h
                    refine mx_cVi (mx_d tX0_live_1 27 rfl) iX0_135 rfl vX9_growFrom ⟨_, rfl, rfl⟩ (ly9_o h3) (CX9_growFrom h3 h2 h_r26) (by decide) rfl rfl (Nat.le_of_ble_eq_true rfl) ?_
                    obtain ⟨r27, h_r27, h⟩ := Option.bind_eq_some_iff.mp h
                    refine mx_cSi (mx_d tX0_live_1 28 rfl) iX0_116 rfl sX0_behind (CX0_behind  h_r27) (by decide) rfl rfl (Nat.le_of_ble_eq_true rfl) ?_
                    obtain rfl := Option.some.inj h
                    exact mx_ireturn (mx_d tX0_live_1 29 rfl) rfl ⟨rfl, rfl⟩
    · rw [if_neg hc2] at h
      refine mx_iconst (0) (mx_d tX0_live_0 5 rfl) (by decide) ?_
      obtain rfl := Option.some.inj h
      exact mx_ireturn (mx_d tX0_live_0 6 rfl) rfl ⟨rfl, rfl⟩
def FX0_judge_L17 (q0 : Nat) (q1 : Nat) (q2 : Nat) : Nat → Int32 → mB → Option (mB)
  | 0, _, _ => none
  | f + 1, y3, m => (if (m.1 q0 4) ≤ y3 then (some (m)) else (if (m.1 q0 6) = 0 then Option.bind (FX0_live q0 y3 q1 q2 m) (fun r6 => mx_let (mx_up r6.2.1 q0 6 r6.1, r6.2.2) (fun m7 => (if (m7.1 q0 6) = 0 then mx_let (mx_up m7.1 q0 7 ((m7.1 q0 7) + 1), m7.2) (fun m10 => mx_let (y3 + 1) (fun v11 => (FX0_judge_L17 q0 q1 q2 f v11 m10))) else mx_let (y3 + 1) (fun v9 => (FX0_judge_L17 q0 q1 q2 f v9 m7))))) else (some (m))))
set_option maxRecDepth 20000 in
theorem CX0_judge_L17 {G : mG} {l : Launch} {e : mE} {Post : Option Value → mS → Prop} {q0 : Nat} {q1 : Nat} {q2 : Nat} (g0 : ly0 e q0) (g1 : ly4 e q1) (g2 : ly9 e q2) : ∀ (f : Nat) {y3 : Int32} {m : mB} {q : (mB)}, FX0_judge_L17 q0 q1 q2 f y3 m = some q → (mx_Fr G l MX0_judge 196 0 0 Post 66 [.ref q0, .ref q1, .float 0, .float 0] [] (e, q)) → mx_Fr G l MX0_judge 196 0 0 Post 17 [.ref q0, .ref q1, .ref q2, .int y3] [] (e, m) := by
  intro f
  induction f with
  | zero => intro _ _ _ h; cases h
  | succ f ih =>
    intro y3 m q h hex
    rw [FX0_judge_L17] at h
    refine mx_iload_n (mx_d tX0_judge_0 11 rfl) rfl rfl ?_
    refine mx_aload_n (mx_d tX0_judge_0 12 rfl) rfl rfl ?_
    refine mx_getI (mx_d tX0_judge_0 13 rfl) fX0_41 rfl (Or.inl rfl) (ly0_o g0) ?_
    refine mx_icmp_ge (tgt := 66) (mx_d tX0_judge_0 14 rfl) (by decide) (fun hc4 => ?_) (fun hc4 => ?_)
    · rw [if_pos hc4] at h
      obtain rfl := Option.some.inj h
      refine mx_forget (L' := [.ref q0, .ref q1, .float 0, .float 0]) ⟨rfl, rfl, trivial⟩ ?_
      exact hex
    · rw [if_neg hc4] at h
      refine mx_aload_n (mx_d tX0_judge_0 15 rfl) rfl rfl ?_
      refine mx_getI (mx_d tX0_judge_0 16 rfl) fX0_28 rfl (Or.inl rfl) (ly0_o g0) ?_
      refine mx_if_ne (tgt := 66) (mx_d tX0_judge_0 17 rfl) (by decide) (fun hc5 => ?_) (fun hc5 => ?_)
      · rw [if_neg hc5] at h
        obtain rfl := Option.some.inj h
        refine mx_forget (L' := [.ref q0, .ref q1, .float 0, .float 0]) ⟨rfl, rfl, trivial⟩ ?_
        exact hex
      · rw [if_pos hc5] at h
        refine mx_aload_n (mx_d tX0_judge_0 18 rfl) rfl rfl ?_
        refine mx_aload_n (mx_d tX0_judge_0 19 rfl) rfl rfl ?_
        refine mx_iload_n (mx_d tX0_judge_0 20 rfl) rfl rfl ?_
        refine mx_aload_n (mx_d tX0_judge_0 21 rfl) rfl rfl ?_
        refine mx_aload_n (mx_d tX0_judge_0 22 rfl) rfl rfl ?_
        obtain ⟨r6, h_r6, h⟩ := Option.bind_eq_some_iff.mp h
        refine mx_cVi (mx_d tX0_judge_0 23 rfl) iX0_99 rfl vX0_live ⟨_, rfl, rfl⟩ (ly0_o g0) (CX0_live g0 g1 g2 h_r6) (by decide) rfl rfl (Nat.le_of_ble_eq_true rfl) ?_
        obtain ⟨m7, e_m7, h⟩ := mx_letE h
        refine mx_putI (mx_d tX0_judge_0 24 rfl) fX0_28 rfl ⟨_, rfl, rfl⟩ rfl (ly0_o g0) (mx_eqz (z' := (e, m7)) (by rw [e_m7]) ?_)
        refine mx_aload_n (mx_d tX0_judge_0 25 rfl) rfl rfl ?_
        refine mx_getI (mx_d tX0_judge_0 26 rfl) fX0_28 rfl (Or.inl rfl) (ly0_o g0) ?_
        refine mx_if_ne (tgt := 60) (mx_d tX0_judge_0 27 rfl) (by decide) (fun hc8 => ?_) (fun hc8 => ?_)
        · rw [if_neg hc8] at h
          obtain ⟨v9, e_v9, h⟩ := mx_letE h
          refine mx_iinc v9 (L2 := [.ref q0, .ref q1, .ref q2, .int v9]) (mx_d tX0_judge_0 34 rfl) rfl (by rw [e_v9]; rfl) (by decide) rfl ?_
          refine mx_goto (tgt := 17) (mx_d tX0_judge_0 35 rfl) (by decide) ?_
          exact ih h hex
        · rw [if_pos hc8] at h
          refine mx_aload_n (mx_d tX0_judge_0 28 rfl) rfl rfl ?_
          refine mx_dup (mx_d tX0_judge_0 29 rfl) rfl ?_
          refine mx_getI (mx_d tX0_judge_0 30 rfl) fX0_32 rfl (Or.inl rfl) (ly0_o g0) ?_
          refine mx_iconst (1) (mx_d tX0_judge_0 31 rfl) (by decide) ?_
          refine mx_iadd (mx_d tX0_judge_0 32 rfl) ?_
          obtain ⟨m10, e_m10, h⟩ := mx_letE h
          refine mx_putI (mx_d tX0_judge_0 33 rfl) fX0_32 rfl ⟨_, rfl, rfl⟩ rfl (ly0_o g0) (mx_eqz (z' := (e, m10)) (by rw [e_m10]) ?_)
          obtain ⟨v11, e_v11, h⟩ := mx_letE h
          refine mx_iinc v11 (L2 := [.ref q0, .ref q1, .ref q2, .int v11]) (mx_d tX0_judge_0 34 rfl) rfl (by rw [e_v11]; rfl) (by decide) rfl ?_
          refine mx_goto (tgt := 17) (mx_d tX0_judge_0 35 rfl) (by decide) ?_
          exact ih h hex
def FX0_judge (a : Nat) (p0 : Nat) (p1 : Nat) (m : mB) : Option (Int32 × mB) := mx_let (mx_up m.1 a 5 1, m.2) (fun m1 => mx_let (mx_up m1.1 a 6 0, m1.2) (fun m2 => mx_let (mx_up m2.1 a 7 0, m2.2) (fun m3 => Option.bind (FX0_judge_L17 a p0 p1 mx_FU 0 m3) (fun q12 => Option.bind (FX4_total p0 q12) (fun r13 => mx_let (mx_up q12.1 a 8 r13, q12.2) (fun m14 => Option.bind (FX4_bound p0 m14) (fun r15 => mx_let (mx_up m14.1 a 9 r15, m14.2) (fun m16 => (if (m16.1 a 6) = 0 then (some ((-1), m16)) else (some ((m16.1 a 7), m16)))))))))))
set_option maxRecDepth 20000 in
theorem CX0_judge {G : mG} {l : Launch} {e : mE} {a : Nat} {p0 : Nat} {p1 : Nat} {m : mB} {r : (Int32 × mB)} (h0 : ly0 e a) (h1 : ly4 e p0) (h2 : ly9 e p1) (h : FX0_judge a p0 p1 m = some r) : mx_Call G l MX0_judge 196 0 0 [.ref a, .ref p0, .ref p1] (e, m) (fun v z => v = some (.int r.1) ∧ z = (e, r.2)) := by
  refine mx_entry (L := [.ref a, .ref p0, .ref p1, .float 0]) (by decide +kernel) (Nat.le_of_ble_eq_true rfl) rfl ?_
  unfold FX0_judge at h
  refine mx_aload_n (mx_d tX0_judge_0 0 rfl) rfl rfl ?_
  refine mx_iconst (1) (mx_d tX0_judge_0 1 rfl) (by decide) ?_
  obtain ⟨m1, e_m1, h⟩ := mx_letE h
  refine mx_putZ (mx_d tX0_judge_0 2 rfl) fX0_24 rfl ⟨_, rfl, rfl⟩ rfl (by decide) (ly0_o h0) (mx_eqz (z' := (e, m1)) (by rw [e_m1]) ?_)
  refine mx_aload_n (mx_d tX0_judge_0 3 rfl) rfl rfl ?_
  refine mx_iconst (0) (mx_d tX0_judge_0 4 rfl) (by decide) ?_
  obtain ⟨m2, e_m2, h⟩ := mx_letE h
  refine mx_putI (mx_d tX0_judge_0 5 rfl) fX0_28 rfl ⟨_, rfl, rfl⟩ rfl (ly0_o h0) (mx_eqz (z' := (e, m2)) (by rw [e_m2]) ?_)
  refine mx_aload_n (mx_d tX0_judge_0 6 rfl) rfl rfl ?_
  refine mx_iconst (0) (mx_d tX0_judge_0 7 rfl) (by decide) ?_
  obtain ⟨m3, e_m3, h⟩ := mx_letE h
  refine mx_putI (mx_d tX0_judge_0 8 rfl) fX0_32 rfl ⟨_, rfl, rfl⟩ rfl (ly0_o h0) (mx_eqz (z' := (e, m3)) (by rw [e_m3]) ?_)
  refine mx_iconst (0) (mx_d tX0_judge_0 9 rfl) (by decide) ?_
  refine mx_istore_n (L2 := [.ref a, .ref p0, .ref p1, .int 0]) (mx_d tX0_judge_0 10 rfl) rfl (by decide) (by rfl) ?_
  obtain ⟨q12, h_q12, h⟩ := Option.bind_eq_some_iff.mp h
  refine CX0_judge_L17 h0 h1 h2 mx_FU h_q12 ?_
  refine mx_aload_n (mx_d tX0_judge_0 36 rfl) rfl rfl ?_
  refine mx_aload_n (mx_d tX0_judge_0 37 rfl) rfl rfl ?_
  obtain ⟨r13, h_r13, h⟩ := Option.bind_eq_some_iff.mp h
  refine mx_cVi (mx_d tX0_judge_0 38 rfl) iX0_103 rfl vX4_total ⟨_, rfl, rfl⟩ (ly4_o h1) (CX4_total h1 h_r13) (by decide) rfl rfl (Nat.le_of_ble_eq_true rfl) ?_
  obtain ⟨m14, e_m14, h⟩ := mx_letE h
  refine mx_putI (mx_d tX0_judge_0 39 rfl) fX0_35 rfl ⟨_, rfl, rfl⟩ rfl (ly0_o h0) (mx_eqz (z' := (e, m14)) (by rw [e_m14]) ?_)
  refine mx_aload_n (mx_d tX0_judge_0 40 rfl) rfl rfl ?_
  refine mx_aload_n (mx_d tX0_judge_0 41 rfl) rfl rfl ?_
  obtain ⟨r15, h_r15, h⟩ := Option.bind_eq_some_iff.mp h
  refine mx_cVi (mx_d tX0_judge_0 42 rfl) iX0_107 rfl vX4_bound ⟨_, rfl, rfl⟩ (ly4_o h1) (CX4_bound h1 h_r15) (by decide) rfl rfl (Nat.le_of_ble_eq_true rfl) ?_
  obtain ⟨m16, e_m16, h⟩ := mx_letE h
  refine mx_putI (mx_d tX0_judge_0 43 rfl) fX0_38 rfl ⟨_, rfl, rfl⟩ rfl (ly0_o h0) (mx_eqz (z' := (e, m16)) (by rw [e_m16]) ?_)
  refine mx_aload_n (mx_d tX0_judge_0 44 rfl) rfl rfl ?_
  refine mx_getI (mx_d tX0_judge_0 45 rfl) fX0_28 rfl (Or.inl rfl) (ly0_o h0) ?_
  refine mx_if_ne (tgt := 93) (mx_d tX0_judge_0 46 rfl) (by decide) (fun hc17 => ?_) (fun hc17 => ?_)
  · rw [if_neg hc17] at h
    refine mx_aload_n (mx_d tX0_judge_0 49 rfl) rfl rfl ?_
    refine mx_getI (mx_d tX0_judge_0 50 rfl) fX0_32 rfl (Or.inl rfl) (ly0_o h0) ?_
    obtain rfl := Option.some.inj h
    exact mx_ireturn (mx_d tX0_judge_0 51 rfl) rfl ⟨rfl, rfl⟩
  · rw [if_pos hc17] at h
    refine mx_iconst ((-1)) (mx_d tX0_judge_0 47 rfl) (by decide) ?_
    refine mx_goto (tgt := 97) (mx_d tX0_judge_0 48 rfl) (by decide) ?_
    obtain rfl := Option.some.inj h
    exact mx_ireturn (mx_d tX0_judge_0 51 rfl) rfl ⟨rfl, rfl⟩
def FX1_draw (a : Nat) (x0 : Int32) (m : mB) : Option (Int32 × mB) := mx_let (mx_up m.1 a 0 (((m.1 a 0) * 1103515245) + 12345), m.2) (fun m1 => Option.bind (FJ9_max_7cf53 1 x0 m1) (fun r2 => mx_chk (mx_nz r2) ((some (((UInt32.toInt32 (Int32.toUInt32 (m1.1 a 0) >>> (Int32.toUInt32 8 &&& Int32.toUInt32 31))) - (UInt32.toInt32 (Int32.toUInt32 (m1.1 a 0) >>> (Int32.toUInt32 8 &&& Int32.toUInt32 31))) / r2 * r2), m1)))))
set_option maxRecDepth 20000 in
theorem CX1_draw {G : mG} {l : Launch} {e : mE} {a : Nat} {x0 : Int32} {m : mB} {r : (Int32 × mB)} (h0 : ly1 e a) (h : FX1_draw a x0 m = some r) : mx_Call G l MX1_draw 2 0 0 [.ref a, .int x0] (e, m) (fun v z => v = some (.int r.1) ∧ z = (e, r.2)) := by
  refine mx_entry (L := [.ref a, .int x0]) (by decide +kernel) (Nat.le_of_ble_eq_true rfl) rfl ?_
  unfold FX1_draw at h
  refine mx_aload_n (mx_d tX1_draw_0 0 rfl) rfl rfl ?_
  refine mx_aload_n (mx_d tX1_draw_0 1 rfl) rfl rfl ?_
  refine mx_getI (mx_d tX1_draw_0 2 rfl) fX1_13 rfl (Or.inl rfl) (ly1_o h0) ?_
  refine mx_ldc (1103515245) (mx_d tX1_draw_0 3 rfl) cX1_23 ?_
  refine mx_imul (mx_d tX1_draw_0 4 rfl) ?_
  refine mx_sipush (12345) (mx_d tX1_draw_0 5 rfl) (by decide) ?_
  refine mx_iadd (mx_d tX1_draw_0 6 rfl) ?_
  obtain ⟨m1, e_m1, h⟩ := mx_letE h
  refine mx_putI (mx_d tX1_draw_0 7 rfl) fX1_13 rfl ⟨_, rfl, rfl⟩ rfl (ly1_o h0) (mx_eqz (z' := (e, m1)) (by rw [e_m1]) ?_)
  refine mx_aload_n (mx_d tX1_draw_0 8 rfl) rfl rfl ?_
  refine mx_getI (mx_d tX1_draw_0 9 rfl) fX1_13 rfl (Or.inl rfl) (ly1_o h0) ?_
  refine mx_bipush (8) (mx_d tX1_draw_0 10 rfl) (by decide) ?_
  refine mx_iushr (mx_d tX1_draw_0 11 rfl) ?_
  refine mx_iconst (1) (mx_d tX1_draw_0 12 rfl) (by decide) ?_
  refine mx_iload_n (mx_d tX1_draw_0 13 rfl) rfl rfl ?_
  obtain ⟨r2, h_r2, h⟩ := Option.bind_eq_some_iff.mp h
  refine mx_cSi (mx_d tX1_draw_0 14 rfl) iX1_24 rfl sJ9_max_7cf53 (CJ9_max_7cf53  h_r2) (by decide) rfl rfl (Nat.le_of_ble_eq_true rfl) ?_
  obtain ⟨hz3, h⟩ := mx_chkE h
  refine mx_irem (mx_d tX1_draw_0 15 rfl) (mx_nzE hz3) ?_
  obtain rfl := Option.some.inj h
  exact mx_ireturn (mx_d tX1_draw_0 16 rfl) rfl ⟨rfl, rfl⟩
def FX1_pairTwo (p0 : Nat) (x1 : Int32) (x2 : Int32) (m : mB) : Option (Int32 × mB) := (if x1 = x2 then (some (0, m)) else Option.bind (FX4_pairUp p0 x1 x2 m) (fun r2 => (if r2.1 = 0 then (some (1, r2.2)) else (some (0, r2.2)))))
set_option maxRecDepth 20000 in
theorem CX1_pairTwo {G : mG} {l : Launch} {e : mE} {p0 : Nat} {x1 : Int32} {x2 : Int32} {m : mB} {r : (Int32 × mB)} (h1 : ly4 e p0) (h : FX1_pairTwo p0 x1 x2 m = some r) : mx_Call G l MX1_pairTwo 4 0 0 [.ref p0, .int x1, .int x2] (e, m) (fun v z => v = some (.int r.1) ∧ z = (e, r.2)) := by
  refine mx_entry (L := [.ref p0, .int x1, .int x2]) (by decide +kernel) (Nat.le_of_ble_eq_true rfl) rfl ?_
  unfold FX1_pairTwo at h
  refine mx_iload_n (mx_d tX1_pairTwo_0 0 rfl) rfl rfl ?_
  refine mx_iload_n (mx_d tX1_pairTwo_0 1 rfl) rfl rfl ?_
  refine mx_icmp_eq (tgt := 18) (mx_d tX1_pairTwo_0 2 rfl) (by decide) (fun hc1 => ?_) (fun hc1 => ?_)
  · rw [if_pos hc1] at h
    refine mx_iconst (0) (mx_d tX1_pairTwo_0 10 rfl) (by decide) ?_
    obtain rfl := Option.some.inj h
    exact mx_zreturn (mx_d tX1_pairTwo_0 11 rfl) rfl rfl ⟨rfl, rfl⟩
  · rw [if_neg hc1] at h
    refine mx_aload_n (mx_d tX1_pairTwo_0 3 rfl) rfl rfl ?_
    refine mx_iload_n (mx_d tX1_pairTwo_0 4 rfl) rfl rfl ?_
    refine mx_iload_n (mx_d tX1_pairTwo_0 5 rfl) rfl rfl ?_
    obtain ⟨r2, h_r2, h⟩ := Option.bind_eq_some_iff.mp h
    refine mx_cVi (mx_d tX1_pairTwo_0 6 rfl) iX1_63 rfl vX4_pairUp ⟨_, rfl, rfl⟩ (ly4_o h1) (CX4_pairUp h1 h_r2) (by decide) rfl rfl (Nat.le_of_ble_eq_true rfl) ?_
    refine mx_if_ne (tgt := 18) (mx_d tX1_pairTwo_0 7 rfl) (by decide) (fun hc3 => ?_) (fun hc3 => ?_)
    · rw [if_neg hc3] at h
      refine mx_iconst (0) (mx_d tX1_pairTwo_0 10 rfl) (by decide) ?_
      obtain rfl := Option.some.inj h
      exact mx_zreturn (mx_d tX1_pairTwo_0 11 rfl) rfl rfl ⟨rfl, rfl⟩
    · rw [if_pos hc3] at h
      refine mx_iconst (1) (mx_d tX1_pairTwo_0 8 rfl) (by decide) ?_
      refine mx_goto (tgt := 19) (mx_d tX1_pairTwo_0 9 rfl) (by decide) ?_
      obtain rfl := Option.some.inj h
      exact mx_zreturn (mx_d tX1_pairTwo_0 11 rfl) rfl rfl ⟨rfl, rfl⟩
def FX1_weighOne (a : Nat) (p0 : Nat) (m : mB) : Option (Int32 × mB) := Option.bind (FX4_links p0 m) (fun r1 => Option.bind (FX1_draw a r1 m) (fun r2 => Option.bind (FX1_draw a 30 r2.2) (fun r3 => mx_let (r3.1 + 1) (fun v4 => Option.bind (FX4_fromOf p0 r2.1 r3.2) (fun r5 => Option.bind (FX4_toOf p0 r2.1 r3.2) (fun r6 => Option.bind (FX4_weighAnew p0 r5 r6 v4 r3.2) (fun r7 => (if r7.1 = 0 then (some (1, r7.2)) else (some (0, r7.2))))))))))
set_option maxRecDepth 20000 in
theorem CX1_weighOne {G : mG} {l : Launch} {e : mE} {a : Nat} {p0 : Nat} {m : mB} {r : (Int32 × mB)} (h0 : ly1 e a) (h1 : ly4 e p0) (h : FX1_weighOne a p0 m = some r) : mx_Call G l MX1_weighOne 4 0 0 [.ref a, .ref p0] (e, m) (fun v z => v = some (.int r.1) ∧ z = (e, r.2)) := by
  refine mx_entry (L := [.ref a, .ref p0, .float 0, .float 0]) (by decide +kernel) (Nat.le_of_ble_eq_true rfl) rfl ?_
  unfold FX1_weighOne at h
  refine mx_aload_n (mx_d tX1_weighOne_0 0 rfl) rfl rfl ?_
  refine mx_aload_n (mx_d tX1_weighOne_0 1 rfl) rfl rfl ?_
  obtain ⟨r1, h_r1, h⟩ := Option.bind_eq_some_iff.mp h
  refine mx_cVi (mx_d tX1_weighOne_0 2 rfl) iX1_41 rfl vX4_links ⟨_, rfl, rfl⟩ (ly4_o h1) (CX4_links h1 h_r1) (by decide) rfl rfl (Nat.le_of_ble_eq_true rfl) ?_
  obtain ⟨r2, h_r2, h⟩ := Option.bind_eq_some_iff.mp h
  refine mx_cVi (mx_d tX1_weighOne_0 3 rfl) iX1_30 rfl vX1_draw ⟨_, rfl, rfl⟩ (ly1_o h0) (CX1_draw h0 h_r2) (by decide) rfl rfl (Nat.le_of_ble_eq_true rfl) ?_
  refine mx_istore_n (L2 := [.ref a, .ref p0, .int r2.1, .float 0]) (mx_d tX1_weighOne_0 4 rfl) rfl (by decide) (by rfl) ?_
  refine mx_aload_n (mx_d tX1_weighOne_0 5 rfl) rfl rfl ?_
  refine mx_bipush (30) (mx_d tX1_weighOne_0 6 rfl) (by decide) ?_
  obtain ⟨r3, h_r3, h⟩ := Option.bind_eq_some_iff.mp h
  refine mx_cVi (mx_d tX1_weighOne_0 7 rfl) iX1_30 rfl vX1_draw ⟨_, rfl, rfl⟩ (ly1_o h0) (CX1_draw h0 h_r3) (by decide) rfl rfl (Nat.le_of_ble_eq_true rfl) ?_
  refine mx_iconst (1) (mx_d tX1_weighOne_0 8 rfl) (by decide) ?_
  refine mx_iadd (mx_d tX1_weighOne_0 9 rfl) ?_
  obtain ⟨v4, e_v4, h⟩ := mx_letE h
  refine mx_istore_n (L2 := [.ref a, .ref p0, .int r2.1, .int v4]) (mx_d tX1_weighOne_0 10 rfl) rfl (by decide) (by rw [e_v4]; rfl) ?_
  refine mx_aload_n (mx_d tX1_weighOne_0 11 rfl) rfl rfl ?_
  refine mx_aload_n (mx_d tX1_weighOne_0 12 rfl) rfl rfl ?_
  refine mx_iload_n (mx_d tX1_weighOne_0 13 rfl) rfl rfl ?_
  obtain ⟨r5, h_r5, h⟩ := Option.bind_eq_some_iff.mp h
  refine mx_cVi (mx_d tX1_weighOne_0 14 rfl) iX1_66 rfl vX4_fromOf ⟨_, rfl, rfl⟩ (ly4_o h1) (CX4_fromOf h1 h_r5) (by decide) rfl rfl (Nat.le_of_ble_eq_true rfl) ?_
  refine mx_aload_n (mx_d tX1_weighOne_0 15 rfl) rfl rfl ?_
  refine mx_iload_n (mx_d tX1_weighOne_0 16 rfl) rfl rfl ?_
  obtain ⟨r6, h_r6, h⟩ := Option.bind_eq_some_iff.mp h
  refine mx_cVi (mx_d tX1_weighOne_0 17 rfl) iX1_69 rfl vX4_toOf ⟨_, rfl, rfl⟩ (ly4_o h1) (CX4_toOf h1 h_r6) (by decide) rfl rfl (Nat.le_of_ble_eq_true rfl) ?_
  refine mx_iload_n (mx_d tX1_weighOne_0 18 rfl) rfl rfl ?_
  obtain ⟨r7, h_r7, h⟩ := Option.bind_eq_some_iff.mp h
  refine mx_cVi (mx_d tX1_weighOne_0 19 rfl) iX1_72 rfl vX4_weighAnew ⟨_, rfl, rfl⟩ (ly4_o h1) (CX4_weighAnew h1 h_r7) (by decide) rfl rfl (Nat.le_of_ble_eq_true rfl) ?_
  refine mx_if_ne (tgt := 40) (mx_d tX1_weighOne_0 20 rfl) (by decide) (fun hc8 => ?_) (fun hc8 => ?_)
  · rw [if_neg hc8] at h
    refine mx_iconst (0) (mx_d tX1_weighOne_0 23 rfl) (by decide) ?_
    obtain rfl := Option.some.inj h
    exact mx_zreturn (mx_d tX1_weighOne_0 24 rfl) rfl rfl ⟨rfl, rfl⟩
  · rw [if_pos hc8] at h
    refine mx_iconst (1) (mx_d tX1_weighOne_0 21 rfl) (by decide) ?_
    refine mx_goto (tgt := 41) (mx_d tX1_weighOne_0 22 rfl) (by decide) ?_
    obtain rfl := Option.some.inj h
    exact mx_zreturn (mx_d tX1_weighOne_0 24 rfl) rfl rfl ⟨rfl, rfl⟩
def FX1_crownOne (a : Nat) (p0 : Nat) (m : mB) : Option (Int32 × mB) := Option.bind (FX4_sets p0 m) (fun r1 => Option.bind (FX1_draw a r1 m) (fun r2 => Option.bind (FX1_draw a 20 r2.2) (fun r3 => Option.bind (FX4_crownAt p0 r2.1 r3.1 r3.2) (fun r4 => (if r4.1 = 0 then (some (1, r4.2)) else (some (0, r4.2)))))))
set_option maxRecDepth 20000 in
theorem CX1_crownOne {G : mG} {l : Launch} {e : mE} {a : Nat} {p0 : Nat} {m : mB} {r : (Int32 × mB)} (h0 : ly1 e a) (h1 : ly4 e p0) (h : FX1_crownOne a p0 m = some r) : mx_Call G l MX1_crownOne 3 0 0 [.ref a, .ref p0] (e, m) (fun v z => v = some (.int r.1) ∧ z = (e, r.2)) := by
  refine mx_entry (L := [.ref a, .ref p0]) (by decide +kernel) (Nat.le_of_ble_eq_true rfl) rfl ?_
  unfold FX1_crownOne at h
  refine mx_aload_n (mx_d tX1_crownOne_0 0 rfl) rfl rfl ?_
  refine mx_aload_n (mx_d tX1_crownOne_0 1 rfl) rfl rfl ?_
  refine mx_aload_n (mx_d tX1_crownOne_0 2 rfl) rfl rfl ?_
  obtain ⟨r1, h_r1, h⟩ := Option.bind_eq_some_iff.mp h
  refine mx_cVi (mx_d tX1_crownOne_0 3 rfl) iX1_57 rfl vX4_sets ⟨_, rfl, rfl⟩ (ly4_o h1) (CX4_sets h1 h_r1) (by decide) rfl rfl (Nat.le_of_ble_eq_true rfl) ?_
  obtain ⟨r2, h_r2, h⟩ := Option.bind_eq_some_iff.mp h
  refine mx_cVi (mx_d tX1_crownOne_0 4 rfl) iX1_30 rfl vX1_draw ⟨_, rfl, rfl⟩ (ly1_o h0) (CX1_draw h0 h_r2) (by decide) rfl rfl (Nat.le_of_ble_eq_true rfl) ?_
  refine mx_aload_n (mx_d tX1_crownOne_0 5 rfl) rfl rfl ?_
  refine mx_bipush (20) (mx_d tX1_crownOne_0 6 rfl) (by decide) ?_
  obtain ⟨r3, h_r3, h⟩ := Option.bind_eq_some_iff.mp h
  refine mx_cVi (mx_d tX1_crownOne_0 7 rfl) iX1_30 rfl vX1_draw ⟨_, rfl, rfl⟩ (ly1_o h0) (CX1_draw h0 h_r3) (by decide) rfl rfl (Nat.le_of_ble_eq_true rfl) ?_
  obtain ⟨r4, h_r4, h⟩ := Option.bind_eq_some_iff.mp h
  refine mx_cVi (mx_d tX1_crownOne_0 8 rfl) iX1_76 rfl vX4_crownAt ⟨_, rfl, rfl⟩ (ly4_o h1) (CX4_crownAt h1 h_r4) (by decide) rfl rfl (Nat.le_of_ble_eq_true rfl) ?_
  refine mx_if_ne (tgt := 25) (mx_d tX1_crownOne_0 9 rfl) (by decide) (fun hc5 => ?_) (fun hc5 => ?_)
  · rw [if_neg hc5] at h
    refine mx_iconst (0) (mx_d tX1_crownOne_0 12 rfl) (by decide) ?_
    obtain rfl := Option.some.inj h
    exact mx_zreturn (mx_d tX1_crownOne_0 13 rfl) rfl rfl ⟨rfl, rfl⟩
  · rw [if_pos hc5] at h
    refine mx_iconst (1) (mx_d tX1_crownOne_0 10 rfl) (by decide) ?_
    refine mx_goto (tgt := 26) (mx_d tX1_crownOne_0 11 rfl) (by decide) ?_
    obtain rfl := Option.some.inj h
    exact mx_zreturn (mx_d tX1_crownOne_0 13 rfl) rfl rfl ⟨rfl, rfl⟩
def FX1_isDone (a : Nat) (p0 : Nat) (p1 : Nat) (m : mB) : Option (Int32 × mB) := Option.bind (FX4_points p0 m) (fun r1 => Option.bind (FX1_draw a 7 m) (fun r2 => (if r2.1 = 0 then Option.bind (FX1_draw a r1 r2.2) (fun r4 => Option.bind (FX1_draw a r1 r4.2) (fun r5 => Option.bind (FX1_pairTwo p0 r4.1 r5.1 r5.2) (fun r6 => mx_chk (mx_b01 r6.1) ((some (r6.1, r6.2)))))) else if r2.1 = 1 then Option.bind (FX1_draw a r1 r2.2) (fun r9 => Option.bind (FX4_partFrom p0 r9.1 r9.2) (fun r10 => (if r10.1 = 0 then (some (1, r10.2)) else (some (0, r10.2))))) else if r2.1 = 2 then Option.bind (FX4_links p0 r2.2) (fun r13 => (if r13 ≤ 0 then (some (0, r2.2)) else Option.bind (FX1_weighOne a p0 r2.2) (fun r15 => (if r15.1 = 0 then (some (0, r15.2)) else (some (1, r15.2)))))) else if r2.1 = 3 then Option.bind (FX1_draw a r1 r2.2) (fun r18 => Option.bind (FX1_draw a 60 r18.2) (fun r19 => Option.bind (FX4_priceAt p0 r18.1 r19.1 r19.2) (fun r20 => (if r20.1 = 0 then (some (1, r20.2)) else (some (0, r20.2)))))) else if r2.1 = 4 then Option.bind (FX1_draw a r1 r2.2) (fun r23 => Option.bind (FX9_growFrom p1 p0 r23.1 r23.2) (fun r24 => (if r24.1 = 0 then (some (1, r24.2)) else (some (0, r24.2))))) else if r2.1 = 5 then Option.bind (FX1_draw a r1 r2.2) (fun r27 => Option.bind (FX9_growFrom p1 p0 r27.1 r27.2) (fun r28 => (if r28.1 = 0 then (some (1, r28.2)) else (some (0, r28.2))))) else Option.bind (FX4_sets p0 r2.2) (fun r30 => (if r30 ≤ 0 then (some (0, r2.2)) else Option.bind (FX1_crownOne a p0 r2.2) (fun r32 => (if r32.1 = 0 then (some (0, r32.2)) else (some (1, r32.2)))))))))
set_option maxRecDepth 20000 in
theorem CX1_isDone {G : mG} {l : Launch} {e : mE} {a : Nat} {p0 : Nat} {p1 : Nat} {m : mB} {r : (Int32 × mB)} (h0 : ly1 e a) (h1 : ly4 e p0) (h2 : ly9 e p1) (h : FX1_isDone a p0 p1 m = some r) : mx_Call G l MX1_isDone 195 0 0 [.ref a, .ref p0, .ref p1] (e, m) (fun v z => v = some (.int r.1) ∧ z = (e, r.2)) := by
  refine mx_entry (L := [.ref a, .ref p0, .ref p1, .float 0]) (by decide +kernel) (Nat.le_of_ble_eq_true rfl) rfl ?_
  unfold FX1_isDone at h
  refine mx_aload_n (mx_d tX1_isDone_0 0 rfl) rfl rfl ?_
  obtain ⟨r1, h_r1, h⟩ := Option.bind_eq_some_iff.mp h
  refine mx_cVi (mx_d tX1_isDone_0 1 rfl) iX1_7 rfl vX4_points ⟨_, rfl, rfl⟩ (ly4_o h1) (CX4_points h1 h_r1) (by decide) rfl rfl (Nat.le_of_ble_eq_true rfl) ?_
  refine mx_istore_n (L2 := [.ref a, .ref p0, .ref p1, .int r1]) (mx_d tX1_isDone_0 2 rfl) rfl (by decide) (by rfl) ?_
  refine mx_aload_n (mx_d tX1_isDone_0 3 rfl) rfl rfl ?_
  refine mx_bipush (7) (mx_d tX1_isDone_0 4 rfl) (by decide) ?_
  obtain ⟨r2, h_r2, h⟩ := Option.bind_eq_some_iff.mp h
  refine mx_cVi (mx_d tX1_isDone_0 5 rfl) iX1_30 rfl vX1_draw ⟨_, rfl, rfl⟩ (ly1_o h0) (CX1_draw h0 h_r2) (by decide) rfl rfl (Nat.le_of_ble_eq_true rfl) ?_
  by_cases hc3 : r2.1 = 0
  · rw [if_pos hc3] at h
    refine mx_tableIn (tgt := 48) (mx_d tX1_isDone_0 6 rfl) (by rw [hc3]; decide) (by rw [hc3]; decide) (by rw [hc3]; rfl) (by decide) ?_
    refine mx_aload_n (mx_d tX1_isDone_0 7 rfl) rfl rfl ?_
    refine mx_aload_n (mx_d tX1_isDone_0 8 rfl) rfl rfl ?_
    refine mx_iload_n (mx_d tX1_isDone_0 9 rfl) rfl rfl ?_
    obtain ⟨r4, h_r4, h⟩ := Option.bind_eq_some_iff.mp h
    refine mx_cVi (mx_d tX1_isDone_0 10 rfl) iX1_30 rfl vX1_draw ⟨_, rfl, rfl⟩ (ly1_o h0) (CX1_draw h0 h_r4) (by decide) rfl rfl (Nat.le_of_ble_eq_true rfl) ?_
    refine mx_aload_n (mx_d tX1_isDone_0 11 rfl) rfl rfl ?_
    refine mx_iload_n (mx_d tX1_isDone_0 12 rfl) rfl rfl ?_
    obtain ⟨r5, h_r5, h⟩ := Option.bind_eq_some_iff.mp h
    refine mx_cVi (mx_d tX1_isDone_0 13 rfl) iX1_30 rfl vX1_draw ⟨_, rfl, rfl⟩ (ly1_o h0) (CX1_draw h0 h_r5) (by decide) rfl rfl (Nat.le_of_ble_eq_true rfl) ?_
    obtain ⟨r6, h_r6, h⟩ := Option.bind_eq_some_iff.mp h
    refine mx_cSi (mx_d tX1_isDone_0 14 rfl) iX1_34 rfl sX1_pairTwo (CX1_pairTwo h1 h_r6) (by decide) rfl rfl (Nat.le_of_ble_eq_true rfl) ?_
    obtain ⟨hb7, h⟩ := mx_chkE h
    obtain rfl := Option.some.inj h
    exact mx_zreturn (mx_d tX1_isDone_0 15 rfl) rfl (mx_nb (mx_b01E hb7)) ⟨rfl, rfl⟩
  · rw [if_neg hc3] at h
    by_cases hc8 : r2.1 = 1
    · rw [if_pos hc8] at h
      refine mx_tableIn (tgt := 63) (mx_d tX1_isDone_0 6 rfl) (by rw [hc8]; decide) (by rw [hc8]; decide) (by rw [hc8]; rfl) (by decide) ?_
      refine mx_aload_n (mx_d tX1_isDone_0 16 rfl) rfl rfl ?_
      refine mx_aload_n (mx_d tX1_isDone_0 17 rfl) rfl rfl ?_
      refine mx_iload_n (mx_d tX1_isDone_0 18 rfl) rfl rfl ?_
      obtain ⟨r9, h_r9, h⟩ := Option.bind_eq_some_iff.mp h
      refine mx_cVi (mx_d tX1_isDone_0 19 rfl) iX1_30 rfl vX1_draw ⟨_, rfl, rfl⟩ (ly1_o h0) (CX1_draw h0 h_r9) (by decide) rfl rfl (Nat.le_of_ble_eq_true rfl) ?_
      obtain ⟨r10, h_r10, h⟩ := Option.bind_eq_some_iff.mp h
      refine mx_cVi (mx_d tX1_isDone_0 20 rfl) iX1_38 rfl vX4_partFrom ⟨_, rfl, rfl⟩ (ly4_o h1) (CX4_partFrom h1 h_r10) (by decide) rfl rfl (Nat.le_of_ble_eq_true rfl) ?_
      refine mx_if_ne (tgt := 79) (mx_d tX1_isDone_0 21 rfl) (by decide) (fun hc11 => ?_) (fun hc11 => ?_)
      · rw [if_neg hc11] at h
        refine mx_iconst (0) (mx_d tX1_isDone_0 24 rfl) (by decide) ?_
        obtain rfl := Option.some.inj h
        exact mx_zreturn (mx_d tX1_isDone_0 25 rfl) rfl rfl ⟨rfl, rfl⟩
      · rw [if_pos hc11] at h
        refine mx_iconst (1) (mx_d tX1_isDone_0 22 rfl) (by decide) ?_
        refine mx_goto (tgt := 80) (mx_d tX1_isDone_0 23 rfl) (by decide) ?_
        obtain rfl := Option.some.inj h
        exact mx_zreturn (mx_d tX1_isDone_0 25 rfl) rfl rfl ⟨rfl, rfl⟩
    · rw [if_neg hc8] at h
      by_cases hc12 : r2.1 = 2
      · rw [if_pos hc12] at h
        refine mx_tableIn (tgt := 81) (mx_d tX1_isDone_0 6 rfl) (by rw [hc12]; decide) (by rw [hc12]; decide) (by rw [hc12]; rfl) (by decide) ?_
        refine mx_aload_n (mx_d tX1_isDone_0 26 rfl) rfl rfl ?_
        obtain ⟨r13, h_r13, h⟩ := Option.bind_eq_some_iff.mp h
        refine mx_cVi (mx_d tX1_isDone_0 27 rfl) iX1_41 rfl vX4_links ⟨_, rfl, rfl⟩ (ly4_o h1) (CX4_links h1 h_r13) (by decide) rfl rfl (Nat.le_of_ble_eq_true rfl) ?_
        refine mx_if_le (tgt := 100) (mx_d tX1_isDone_0 28 rfl) (by decide) (fun hc14 => ?_) (fun hc14 => ?_)
        · rw [if_pos hc14] at h
          refine mx_iconst (0) (mx_d tX1_isDone_0 35 rfl) (by decide) ?_
          obtain rfl := Option.some.inj h
          exact mx_zreturn (mx_d tX1_isDone_0 36 rfl) rfl rfl ⟨rfl, rfl⟩
        · rw [if_neg hc14] at h
          refine mx_aload_n (mx_d tX1_isDone_0 29 rfl) rfl rfl ?_
          refine mx_aload_n (mx_d tX1_isDone_0 30 rfl) rfl rfl ?_
          obtain ⟨r15, h_r15, h⟩ := Option.bind_eq_some_iff.mp h
          refine mx_cVi (mx_d tX1_isDone_0 31 rfl) iX1_44 rfl vX1_weighOne ⟨_, rfl, rfl⟩ (ly1_o h0) (CX1_weighOne h0 h1 h_r15) (by decide) rfl rfl (Nat.le_of_ble_eq_true rfl) ?_
          refine mx_if_eq (tgt := 100) (mx_d tX1_isDone_0 32 rfl) (by decide) (fun hc16 => ?_) (fun hc16 => ?_)
          · rw [if_pos hc16] at h
            refine mx_iconst (0) (mx_d tX1_isDone_0 35 rfl) (by decide) ?_
            obtain rfl := Option.some.inj h
            exact mx_zreturn (mx_d tX1_isDone_0 36 rfl) rfl rfl ⟨rfl, rfl⟩
          · rw [if_neg hc16] at h
            refine mx_iconst (1) (mx_d tX1_isDone_0 33 rfl) (by decide) ?_
            refine mx_goto (tgt := 101) (mx_d tX1_isDone_0 34 rfl) (by decide) ?_
            obtain rfl := Option.some.inj h
            exact mx_zreturn (mx_d tX1_isDone_0 36 rfl) rfl rfl ⟨rfl, rfl⟩
      · rw [if_neg hc12] at h
        by_cases hc17 : r2.1 = 3
        · rw [if_pos hc17] at h
          refine mx_tableIn (tgt := 102) (mx_d tX1_isDone_0 6 rfl) (by rw [hc17]; decide) (by rw [hc17]; decide) (by rw [hc17]; rfl) (by decide) ?_
          refine mx_aload_n (mx_d tX1_isDone_0 37 rfl) rfl rfl ?_
          refine mx_aload_n (mx_d tX1_isDone_0 38 rfl) rfl rfl ?_
          refine mx_iload_n (mx_d tX1_isDone_0 39 rfl) rfl rfl ?_
          obtain ⟨r18, h_r18, h⟩ := Option.bind_eq_some_iff.mp h
          refine mx_cVi (mx_d tX1_isDone_0 40 rfl) iX1_30 rfl vX1_draw ⟨_, rfl, rfl⟩ (ly1_o h0) (CX1_draw h0 h_r18) (by decide) rfl rfl (Nat.le_of_ble_eq_true rfl) ?_
          refine mx_aload_n (mx_d tX1_isDone_0 41 rfl) rfl rfl ?_
          refine mx_bipush (60) (mx_d tX1_isDone_0 42 rfl) (by decide) ?_
          obtain ⟨r19, h_r19, h⟩ := Option.bind_eq_some_iff.mp h
          refine mx_cVi (mx_d tX1_isDone_0 43 rfl) iX1_30 rfl vX1_draw ⟨_, rfl, rfl⟩ (ly1_o h0) (CX1_draw h0 h_r19) (by decide) rfl rfl (Nat.le_of_ble_eq_true rfl) ?_
          obtain ⟨r20, h_r20, h⟩ := Option.bind_eq_some_iff.mp h
          refine mx_cVi (mx_d tX1_isDone_0 44 rfl) iX1_48 rfl vX4_priceAt ⟨_, rfl, rfl⟩ (ly4_o h1) (CX4_priceAt h1 h_r20) (by decide) rfl rfl (Nat.le_of_ble_eq_true rfl) ?_
          refine mx_if_ne (tgt := 124) (mx_d tX1_isDone_0 45 rfl) (by decide) (fun hc21 => ?_) (fun hc21 => ?_)
          · rw [if_neg hc21] at h
            refine mx_iconst (0) (mx_d tX1_isDone_0 48 rfl) (by decide) ?_
            obtain rfl := Option.some.inj h
            exact mx_zreturn (mx_d tX1_isDone_0 49 rfl) rfl rfl ⟨rfl, rfl⟩
          · rw [if_pos hc21] at h
            refine mx_iconst (1) (mx_d tX1_isDone_0 46 rfl) (by decide) ?_
            refine mx_goto (tgt := 125) (mx_d tX1_isDone_0 47 rfl) (by decide) ?_
            obtain rfl := Option.some.inj h
            exact mx_zreturn (mx_d tX1_isDone_0 49 rfl) rfl rfl ⟨rfl, rfl⟩
        · rw [if_neg hc17] at h
          by_cases hc22 : r2.1 = 4
          · rw [if_pos hc22] at h
            refine mx_tableIn (tgt := 126) (mx_d tX1_isDone_0 6 rfl) (by rw [hc22]; decide) (by rw [hc22]; decide) (by rw [hc22]; rfl) (by decide) ?_
            refine mx_aload_n (mx_d tX1_isDone_0 50 rfl) rfl rfl ?_
            refine mx_aload_n (mx_d tX1_isDone_0 51 rfl) rfl rfl ?_
            refine mx_aload_n (mx_d tX1_isDone_0 52 rfl) rfl rfl ?_
            refine mx_iload_n (mx_d tX1_isDone_0 53 rfl) rfl rfl ?_
            obtain ⟨r23, h_r23, h⟩ := Option.bind_eq_some_iff.mp h
            refine mx_cVi (mx_d tX1_isDone_0 54 rfl) iX1_30 rfl vX1_draw ⟨_, rfl, rfl⟩ (ly1_o h0) (CX1_draw h0 h_r23) (by decide) rfl rfl (Nat.le_of_ble_eq_true rfl) ?_
            obtain ⟨r24, h_r24, h⟩ := Option.bind_eq_some_iff.mp h
            refine mx_cVi (mx_d tX1_isDone_0 55 rfl) iX1_51 rfl vX9_growFrom ⟨_, rfl, rfl⟩ (ly9_o h2) (CX9_growFrom h2 h1 h_r24) (by decide) rfl rfl (Nat.le_of_ble_eq_true rfl) ?_
            refine mx_if_ne (tgt := 143) (mx_d tX1_isDone_0 56 rfl) (by decide) (fun hc25 => ?_) (fun hc25 => ?_)
            · rw [if_neg hc25] at h
              refine mx_iconst (0) (mx_d tX1_isDone_0 59 rfl) (by decide) ?_
              obtain rfl := Option.some.inj h
              exact mx_zreturn (mx_d tX1_isDone_1 0 rfl) rfl rfl ⟨rfl, rfl⟩
            · rw [if_pos hc25] at h
              refine mx_iconst (1) (mx_d tX1_isDone_0 57 rfl) (by decide) ?_
              refine mx_goto (tgt := 144) (mx_d tX1_isDone_0 58 rfl) (by decide) ?_
              obtain rfl := Option.some.inj h
              exact mx_zreturn (mx_d tX1_isDone_1 0 rfl) rfl rfl ⟨rfl, rfl⟩
          · rw [if_neg hc22] at h
            by_cases hc26 : r2.1 = 5
            · rw [if_pos hc26] at h
              refine mx_tableIn (tgt := 126) (mx_d tX1_isDone_0 6 rfl) (by rw [hc26]; decide) (by rw [hc26]; decide) (by rw [hc26]; rfl) (by decide) ?_
              refine mx_aload_n (mx_d tX1_isDone_0 50 rfl) rfl rfl ?_
              refine mx_aload_n (mx_d tX1_isDone_0 51 rfl) rfl rfl ?_
              refine mx_aload_n (mx_d tX1_isDone_0 52 rfl) rfl rfl ?_
              refine mx_iload_n (mx_d tX1_isDone_0 53 rfl) rfl rfl ?_
              obtain ⟨r27, h_r27, h⟩ := Option.bind_eq_some_iff.mp h
              refine mx_cVi (mx_d tX1_isDone_0 54 rfl) iX1_30 rfl vX1_draw ⟨_, rfl, rfl⟩ (ly1_o h0) (CX1_draw h0 h_r27) (by decide) rfl rfl (Nat.le_of_ble_eq_true rfl) ?_
              obtain ⟨r28, h_r28, h⟩ := Option.bind_eq_some_iff.mp h
              refine mx_cVi (mx_d tX1_isDone_0 55 rfl) iX1_51 rfl vX9_growFrom ⟨_, rfl, rfl⟩ (ly9_o h2) (CX9_growFrom h2 h1 h_r28) (by decide) rfl rfl (Nat.le_of_ble_eq_true rfl) ?_
              refine mx_if_ne (tgt := 143) (mx_d tX1_isDone_0 56 rfl) (by decide) (fun hc29 => ?_) (fun hc29 => ?_)
              · rw [if_neg hc29] at h
                refine mx_iconst (0) (mx_d tX1_isDone_0 59 rfl) (by decide) ?_
                obtain rfl := Option.some.inj h
                exact mx_zreturn (mx_d tX1_isDone_1 0 rfl) rfl rfl ⟨rfl, rfl⟩
              · rw [if_pos hc29] at h
                refine mx_iconst (1) (mx_d tX1_isDone_0 57 rfl) (by decide) ?_
                refine mx_goto (tgt := 144) (mx_d tX1_isDone_0 58 rfl) (by decide) ?_
                obtain rfl := Option.some.inj h
                exact mx_zreturn (mx_d tX1_isDone_1 0 rfl) rfl rfl ⟨rfl, rfl⟩
            · rw [if_neg hc26] at h
              have z_hc3 := lv_neT hc3 (a := 0) (by decide)
              have z_hc8 := lv_neT hc8 (a := 1) (by decide)
              have z_hc12 := lv_neT hc12 (a := 2) (by decide)
              have z_hc17 := lv_neT hc17 (a := 3) (by decide)
              have z_hc22 := lv_neT hc22 (a := 4) (by decide)
              have z_hc26 := lv_neT hc26 (a := 5) (by decide)
              refine mx_tableOut (tgt := 145) (mx_d tX1_isDone_0 6 rfl) (by omega) (by decide) ?_
              refine mx_aload_n (mx_d tX1_isDone_1 1 rfl) rfl rfl ?_
              obtain ⟨r30, h_r30, h⟩ := Option.bind_eq_some_iff.mp h
              refine mx_cVi (mx_d tX1_isDone_1 2 rfl) iX1_57 rfl vX4_sets ⟨_, rfl, rfl⟩ (ly4_o h1) (CX4_sets h1 h_r30) (by decide) rfl rfl (Nat.le_of_ble_eq_true rfl) ?_
              refine mx_if_le (tgt := 164) (mx_d tX1_isDone_1 3 rfl) (by decide) (fun hc31 => ?_) (fun hc31 => ?_)
              · rw [if_pos hc31] at h
                refine mx_iconst (0) (mx_d tX1_isDone_1 10 rfl) (by decide) ?_
                obtain rfl := Option.some.inj h
                exact mx_zreturn (mx_d tX1_isDone_1 11 rfl) rfl rfl ⟨rfl, rfl⟩
              · rw [if_neg hc31] at h
                refine mx_aload_n (mx_d tX1_isDone_1 4 rfl) rfl rfl ?_
                refine mx_aload_n (mx_d tX1_isDone_1 5 rfl) rfl rfl ?_
                obtain ⟨r32, h_r32, h⟩ := Option.bind_eq_some_iff.mp h
                refine mx_cVi (mx_d tX1_isDone_1 6 rfl) iX1_60 rfl vX1_crownOne ⟨_, rfl, rfl⟩ (ly1_o h0) (CX1_crownOne h0 h1 h_r32) (by decide) rfl rfl (Nat.le_of_ble_eq_true rfl) ?_
                refine mx_if_eq (tgt := 164) (mx_d tX1_isDone_1 7 rfl) (by decide) (fun hc33 => ?_) (fun hc33 => ?_)
                · rw [if_pos hc33] at h
                  refine mx_iconst (0) (mx_d tX1_isDone_1 10 rfl) (by decide) ?_
                  obtain rfl := Option.some.inj h
                  exact mx_zreturn (mx_d tX1_isDone_1 11 rfl) rfl rfl ⟨rfl, rfl⟩
                · rw [if_neg hc33] at h
                  refine mx_iconst (1) (mx_d tX1_isDone_1 8 rfl) (by decide) ?_
                  refine mx_goto (tgt := 165) (mx_d tX1_isDone_1 9 rfl) (by decide) ?_
                  obtain rfl := Option.some.inj h
                  exact mx_zreturn (mx_d tX1_isDone_1 11 rfl) rfl rfl ⟨rfl, rfl⟩
def FX1_run_L22 (q0 : Nat) (q1 : Nat) (q2 : Nat) (y3 : Int32) : Nat → Int32 → Int32 → mB → Option (Int32 × mB)
  | 0, _, _, _ => none
  | f + 1, y5, y6, m => (if y3 ≤ y6 then (some ((y5, m))) else Option.bind (FX1_isDone q0 q1 q2 m) (fun r5 => (if r5.1 = 0 then mx_let (y6 + 1) (fun v7 => (FX1_run_L22 q0 q1 q2 y3 f y5 v7 r5.2)) else mx_let (y5 + 1) (fun v8 => mx_let (y6 + 1) (fun v9 => (FX1_run_L22 q0 q1 q2 y3 f v8 v9 r5.2))))))
set_option maxRecDepth 20000 in
theorem CX1_run_L22 {G : mG} {l : Launch} {e : mE} {Post : Option Value → mS → Prop} {q0 : Nat} {q1 : Nat} {q2 : Nat} {y3 : Int32} (g0 : ly1 e q0) (g1 : ly4 e q1) (g2 : ly9 e q2) : ∀ (f : Nat) {y5 : Int32} {y6 : Int32} {m : mB} {q : (Int32 × mB)}, FX1_run_L22 q0 q1 q2 y3 f y5 y6 m = some q → (mx_Fr G l MX1_run 196 0 0 Post 46 [.float 0, .float 0, .float 0, .float 0, .float 0, .int q.1, .float 0] [] (e, q.2)) → mx_Fr G l MX1_run 196 0 0 Post 22 [.ref q0, .ref q1, .ref q2, .int y3, .float 0, .int y5, .int y6] [] (e, m) := by
  intro f
  induction f with
  | zero => intro _ _ _ _ h; cases h
  | succ f ih =>
    intro y5 y6 m q h hex
    rw [FX1_run_L22] at h
    refine mx_iload (mx_d tX1_run_0 13 rfl) rfl ?_
    refine mx_iload_n (mx_d tX1_run_0 14 rfl) rfl rfl ?_
    refine mx_icmp_ge (tgt := 46) (mx_d tX1_run_0 15 rfl) (by decide) (fun hc4 => ?_) (fun hc4 => ?_)
    · rw [if_pos hc4] at h
      obtain rfl := Option.some.inj h
      refine mx_forget (L' := [.float 0, .float 0, .float 0, .float 0, .float 0, .int y5, .float 0]) ⟨rfl, trivial⟩ ?_
      exact hex
    · rw [if_neg hc4] at h
      refine mx_aload_n (mx_d tX1_run_0 16 rfl) rfl rfl ?_
      refine mx_aload_n (mx_d tX1_run_0 17 rfl) rfl rfl ?_
      refine mx_aload_n (mx_d tX1_run_0 18 rfl) rfl rfl ?_
      obtain ⟨r5, h_r5, h⟩ := Option.bind_eq_some_iff.mp h
      refine mx_cVi (mx_d tX1_run_0 19 rfl) iX1_19 rfl vX1_isDone ⟨_, rfl, rfl⟩ (ly1_o g0) (CX1_isDone g0 g1 g2 h_r5) (by decide) rfl rfl (Nat.le_of_ble_eq_true rfl) ?_
      refine mx_if_eq (tgt := 40) (mx_d tX1_run_0 20 rfl) (by decide) (fun hc6 => ?_) (fun hc6 => ?_)
      · rw [if_pos hc6] at h
        obtain ⟨v7, e_v7, h⟩ := mx_letE h
        refine mx_iinc v7 (L2 := [.ref q0, .ref q1, .ref q2, .int y3, .float 0, .int y5, .int v7]) (mx_d tX1_run_0 22 rfl) rfl (by rw [e_v7]; rfl) (by decide) rfl ?_
        refine mx_goto (tgt := 22) (mx_d tX1_run_0 23 rfl) (by decide) ?_
        exact ih h hex
      · rw [if_neg hc6] at h
        obtain ⟨v8, e_v8, h⟩ := mx_letE h
        refine mx_iinc v8 (L2 := [.ref q0, .ref q1, .ref q2, .int y3, .float 0, .int v8, .int y6]) (mx_d tX1_run_0 21 rfl) rfl (by rw [e_v8]; rfl) (by decide) rfl ?_
        obtain ⟨v9, e_v9, h⟩ := mx_letE h
        refine mx_iinc v9 (L2 := [.ref q0, .ref q1, .ref q2, .int y3, .float 0, .int v8, .int v9]) (mx_d tX1_run_0 22 rfl) rfl (by rw [e_v9]; rfl) (by decide) rfl ?_
        refine mx_goto (tgt := 22) (mx_d tX1_run_0 23 rfl) (by decide) ?_
        exact ih h hex
def FX1_run (a : Nat) (p0 : Nat) (p1 : Nat) (x2 : Int32) (x3 : Int32) (m : mB) : Option (Int32 × mB) := Option.bind (FX4_points p0 m) (fun r1 => (if 1 ≤ r1 then mx_let (mx_up m.1 a 0 x3, m.2) (fun m3 => Option.bind (FX1_run_L22 a p0 p1 x2 mx_FU 0 0 m3) (fun q10 => (some (q10.1, q10.2)))) else (some (0, m))))
set_option maxRecDepth 20000 in
theorem CX1_run {G : mG} {l : Launch} {e : mE} {a : Nat} {p0 : Nat} {p1 : Nat} {x2 : Int32} {x3 : Int32} {m : mB} {r : (Int32 × mB)} (h0 : ly1 e a) (h1 : ly4 e p0) (h2 : ly9 e p1) (h : FX1_run a p0 p1 x2 x3 m = some r) : mx_Call G l MX1_run 196 0 0 [.ref a, .ref p0, .ref p1, .int x2, .int x3] (e, m) (fun v z => v = some (.int r.1) ∧ z = (e, r.2)) := by
  refine mx_entry (L := [.ref a, .ref p0, .ref p1, .int x2, .int x3, .float 0, .float 0]) (by decide +kernel) (Nat.le_of_ble_eq_true rfl) rfl ?_
  unfold FX1_run at h
  refine mx_aload_n (mx_d tX1_run_0 0 rfl) rfl rfl ?_
  obtain ⟨r1, h_r1, h⟩ := Option.bind_eq_some_iff.mp h
  refine mx_cVi (mx_d tX1_run_0 1 rfl) iX1_7 rfl vX4_points ⟨_, rfl, rfl⟩ (ly4_o h1) (CX4_points h1 h_r1) (by decide) rfl rfl (Nat.le_of_ble_eq_true rfl) ?_
  refine mx_iconst (1) (mx_d tX1_run_0 2 rfl) (by decide) ?_
  refine mx_icmp_ge (tgt := 10) (mx_d tX1_run_0 3 rfl) (by decide) (fun hc2 => ?_) (fun hc2 => ?_)
  · rw [if_pos hc2] at h
    refine mx_aload_n (mx_d tX1_run_0 6 rfl) rfl rfl ?_
    refine mx_iload (mx_d tX1_run_0 7 rfl) rfl ?_
    obtain ⟨m3, e_m3, h⟩ := mx_letE h
    refine mx_putI (mx_d tX1_run_0 8 rfl) fX1_13 rfl ⟨_, rfl, rfl⟩ rfl (ly1_o h0) (mx_eqz (z' := (e, m3)) (by rw [e_m3]) ?_)
    refine mx_iconst (0) (mx_d tX1_run_0 9 rfl) (by decide) ?_
    refine mx_istore (L2 := [.ref a, .ref p0, .ref p1, .int x2, .int x3, .int 0, .float 0]) (mx_d tX1_run_0 10 rfl) (by decide) (by rfl) ?_
    refine mx_iconst (0) (mx_d tX1_run_0 11 rfl) (by decide) ?_
    refine mx_istore (L2 := [.ref a, .ref p0, .ref p1, .int x2, .int x3, .int 0, .int 0]) (mx_d tX1_run_0 12 rfl) (by decide) (by rfl) ?_
    obtain ⟨q10, h_q10, h⟩ := Option.bind_eq_some_iff.mp h
    refine mx_forget (L' := [.ref a, .ref p0, .ref p1, .int x2, .float 0, .int 0, .int 0]) ⟨rfl, rfl, rfl, rfl, rfl, rfl, trivial⟩ ?_
    refine CX1_run_L22 h0 h1 h2 mx_FU h_q10 ?_
    refine mx_iload (mx_d tX1_run_0 24 rfl) rfl ?_
    obtain rfl := Option.some.inj h
    exact mx_ireturn (mx_d tX1_run_0 25 rfl) rfl ⟨rfl, rfl⟩
  · rw [if_neg hc2] at h
    refine mx_iconst (0) (mx_d tX1_run_0 4 rfl) (by decide) ?_
    obtain rfl := Option.some.inj h
    exact mx_ireturn (mx_d tX1_run_0 5 rfl) rfl ⟨rfl, rfl⟩
def FX3_forget (a : Nat) (m : mB) : Option mB := mx_let (mx_up m.1 a 2 0, m.2) (fun m1 => (some m1))
set_option maxRecDepth 20000 in
theorem CX3_forget {G : mG} {l : Launch} {e : mE} {a : Nat} {m : mB} {r : mB} (h0 : ly3 e a) (h : FX3_forget a m = some r) : mx_Call G l MX3_forget 1 0 0 [.ref a] (e, m) (fun v z => v = none ∧ z = (e, r)) := by
  refine mx_entry (L := [.ref a]) (by decide +kernel) (Nat.le_of_ble_eq_true rfl) rfl ?_
  unfold FX3_forget at h
  refine mx_aload_n (mx_d tX3_forget_0 0 rfl) rfl rfl ?_
  refine mx_iconst (0) (mx_d tX3_forget_0 1 rfl) (by decide) ?_
  obtain ⟨m1, e_m1, h⟩ := mx_letE h
  refine mx_putI (mx_d tX3_forget_0 2 rfl) fX3_18 rfl ⟨_, rfl, rfl⟩ rfl (ly3_o h0) (mx_eqz (z' := (e, m1)) (by rw [e_m1]) ?_)
  obtain rfl := Option.some.inj h
  exact mx_return (mx_d tX3_forget_0 3 rfl) rfl ⟨rfl, rfl⟩
def FX3_mark (a : Nat) (p0 : Nat) (m : mB) : Option mB := Option.bind (FJ9_floorMod_7cf53 (m.1 a 1) 9 m) (fun r1 => mx_chk (mx_inb r1 9) (Option.bind (FX4_copyFrom (a + 2 + 11 * (Int32.toNatClampNeg r1)) p0 m) (fun r3 => (some r3))))
set_option maxRecDepth 20000 in
theorem CX3_mark {G : mG} {l : Launch} {e : mE} {a : Nat} {p0 : Nat} {m : mB} {r : mB} (h0 : ly3 e a) (h1 : ly4 e p0) (h : FX3_mark a p0 m = some r) : mx_Call G l MX3_mark 3 0 0 [.ref a, .ref p0] (e, m) (fun v z => v = none ∧ z = (e, r)) := by
  refine mx_entry (L := [.ref a, .ref p0, .float 0]) (by decide +kernel) (Nat.le_of_ble_eq_true rfl) rfl ?_
  unfold FX3_mark at h
  refine mx_aload_n (mx_d tX3_mark_0 0 rfl) rfl rfl ?_
  refine mx_getR (mx_d tX3_mark_0 1 rfl) fX3_13 rfl rfl (ly3_o h0) (ly3_r0 h0) ?_
  refine mx_aload_n (mx_d tX3_mark_0 2 rfl) rfl rfl ?_
  refine mx_getI (mx_d tX3_mark_0 3 rfl) fX3_22 rfl (Or.inl rfl) (ly3_o h0) ?_
  refine mx_bipush (9) (mx_d tX3_mark_0 4 rfl) (by decide) ?_
  obtain ⟨r1, h_r1, h⟩ := Option.bind_eq_some_iff.mp h
  refine mx_cSi (mx_d tX3_mark_0 5 rfl) iX3_25 rfl sJ9_floorMod_7cf53 (CJ9_floorMod_7cf53  h_r1) (by decide) rfl rfl (Nat.le_of_ble_eq_true rfl) ?_
  obtain ⟨hi2, h⟩ := mx_chkE h
  refine mx_aaload (mx_d tX3_mark_0 6 rfl) (ly3_s0 h0) (Or.inl rfl) (mx_inbE hi2) (ly3_e0 h0 (Nat.not_le.mp fun q => mx_inbE hi2 (Or.inr q))).1 ?_
  refine mx_astore_n (L2 := [.ref a, .ref p0, .ref (a + 2 + 11 * (Int32.toNatClampNeg r1))]) (mx_d tX3_mark_0 7 rfl) rfl (by decide) (by rfl) ?_
  refine mx_aload_n (mx_d tX3_mark_0 8 rfl) rfl rfl ?_
  refine mx_ifnull (mx_d tX3_mark_0 9 rfl) ?_
  refine mx_aload_n (mx_d tX3_mark_0 10 rfl) rfl rfl ?_
  refine mx_aload_n (mx_d tX3_mark_0 11 rfl) rfl rfl ?_
  obtain ⟨r3, h_r3, h⟩ := Option.bind_eq_some_iff.mp h
  refine mx_cVv (mx_d tX3_mark_0 12 rfl) iX3_31 rfl vX4_copyFrom ⟨_, rfl, rfl⟩ (ly4_o (ly3_e0 h0 (Nat.not_le.mp fun q => mx_inbE hi2 (Or.inr q))).2) (CX4_copyFrom (ly3_e0 h0 (Nat.not_le.mp fun q => mx_inbE hi2 (Or.inr q))).2 h1 h_r3) (by decide) rfl rfl (Nat.le_of_ble_eq_true rfl) ?_
  obtain rfl := Option.some.inj h
  exact mx_return (mx_d tX3_mark_0 13 rfl) rfl ⟨rfl, rfl⟩
def FX3_keep (a : Nat) (m : mB) : Option mB := mx_let (mx_up m.1 a 1 (((m.1 a 1) + 1) - ((m.1 a 1) + 1) / 9 * 9), m.2) (fun m1 => Option.bind (FJ9_min_7cf53 8 ((m1.1 a 2) + 1) m1) (fun r2 => mx_let (mx_up m1.1 a 2 r2, m1.2) (fun m3 => (some m3))))
set_option maxRecDepth 20000 in
theorem CX3_keep {G : mG} {l : Launch} {e : mE} {a : Nat} {m : mB} {r : mB} (h0 : ly3 e a) (h : FX3_keep a m = some r) : mx_Call G l MX3_keep 2 0 0 [.ref a] (e, m) (fun v z => v = none ∧ z = (e, r)) := by
  refine mx_entry (L := [.ref a]) (by decide +kernel) (Nat.le_of_ble_eq_true rfl) rfl ?_
  unfold FX3_keep at h
  refine mx_aload_n (mx_d tX3_keep_0 0 rfl) rfl rfl ?_
  refine mx_aload_n (mx_d tX3_keep_0 1 rfl) rfl rfl ?_
  refine mx_getI (mx_d tX3_keep_0 2 rfl) fX3_22 rfl (Or.inl rfl) (ly3_o h0) ?_
  refine mx_iconst (1) (mx_d tX3_keep_0 3 rfl) (by decide) ?_
  refine mx_iadd (mx_d tX3_keep_0 4 rfl) ?_
  refine mx_bipush (9) (mx_d tX3_keep_0 5 rfl) (by decide) ?_
  refine mx_irem (mx_d tX3_keep_0 6 rfl) (by decide) ?_
  obtain ⟨m1, e_m1, h⟩ := mx_letE h
  refine mx_putI (mx_d tX3_keep_0 7 rfl) fX3_22 rfl ⟨_, rfl, rfl⟩ rfl (ly3_o h0) (mx_eqz (z' := (e, m1)) (by rw [e_m1]) ?_)
  refine mx_aload_n (mx_d tX3_keep_0 8 rfl) rfl rfl ?_
  refine mx_bipush (8) (mx_d tX3_keep_0 9 rfl) (by decide) ?_
  refine mx_aload_n (mx_d tX3_keep_0 10 rfl) rfl rfl ?_
  refine mx_getI (mx_d tX3_keep_0 11 rfl) fX3_18 rfl (Or.inl rfl) (ly3_o h0) ?_
  refine mx_iconst (1) (mx_d tX3_keep_0 12 rfl) (by decide) ?_
  refine mx_iadd (mx_d tX3_keep_0 13 rfl) ?_
  obtain ⟨r2, h_r2, h⟩ := Option.bind_eq_some_iff.mp h
  refine mx_cSi (mx_d tX3_keep_0 14 rfl) iX3_35 rfl sJ9_min_7cf53 (CJ9_min_7cf53  h_r2) (by decide) rfl rfl (Nat.le_of_ble_eq_true rfl) ?_
  obtain ⟨m3, e_m3, h⟩ := mx_letE h
  refine mx_putI (mx_d tX3_keep_0 15 rfl) fX3_18 rfl ⟨_, rfl, rfl⟩ rfl (ly3_o h0) (mx_eqz (z' := (e, m3)) (by rw [e_m3]) ?_)
  obtain rfl := Option.some.inj h
  exact mx_return (mx_d tX3_keep_0 16 rfl) rfl ⟨rfl, rfl⟩
def FX3_takeBack (a : Nat) (p0 : Nat) (m : mB) : Option (Int32 × mB) := (if 0 < (m.1 a 2) then mx_let (mx_up m.1 a 2 ((m.1 a 2) - 1), m.2) (fun m2 => Option.bind (FJ9_floorMod_7cf53 ((m2.1 a 1) - 1) 9 m2) (fun r3 => mx_let (mx_up m2.1 a 1 r3, m2.2) (fun m4 => mx_chk (mx_inb (m4.1 a 1) 9) (Option.bind (FX4_copyFrom p0 (a + 2 + 11 * (Int32.toNatClampNeg (m4.1 a 1))) m4) (fun r6 => (some ((r6.1 a 2), r6))))))) else (some ((-1), m)))
set_option maxRecDepth 20000 in
theorem CX3_takeBack {G : mG} {l : Launch} {e : mE} {a : Nat} {p0 : Nat} {m : mB} {r : (Int32 × mB)} (h0 : ly3 e a) (h1 : ly4 e p0) (h : FX3_takeBack a p0 m = some r) : mx_Call G l MX3_takeBack 3 0 0 [.ref a, .ref p0] (e, m) (fun v z => v = some (.int r.1) ∧ z = (e, r.2)) := by
  refine mx_entry (L := [.ref a, .ref p0, .float 0]) (by decide +kernel) (Nat.le_of_ble_eq_true rfl) rfl ?_
  unfold FX3_takeBack at h
  refine mx_aload_n (mx_d tX3_takeBack_0 0 rfl) rfl rfl ?_
  refine mx_getI (mx_d tX3_takeBack_0 1 rfl) fX3_18 rfl (Or.inl rfl) (ly3_o h0) ?_
  refine mx_if_gt (tgt := 9) (mx_d tX3_takeBack_0 2 rfl) (by decide) (fun hc1 => ?_) (fun hc1 => ?_)
  · rw [if_pos hc1] at h
    refine mx_aload_n (mx_d tX3_takeBack_0 5 rfl) rfl rfl ?_
    refine mx_dup (mx_d tX3_takeBack_0 6 rfl) rfl ?_
    refine mx_getI (mx_d tX3_takeBack_0 7 rfl) fX3_18 rfl (Or.inl rfl) (ly3_o h0) ?_
    refine mx_iconst (1) (mx_d tX3_takeBack_0 8 rfl) (by decide) ?_
    refine mx_isub (mx_d tX3_takeBack_0 9 rfl) ?_
    obtain ⟨m2, e_m2, h⟩ := mx_letE h
    refine mx_putI (mx_d tX3_takeBack_0 10 rfl) fX3_18 rfl ⟨_, rfl, rfl⟩ rfl (ly3_o h0) (mx_eqz (z' := (e, m2)) (by rw [e_m2]) ?_)
    refine mx_aload_n (mx_d tX3_takeBack_0 11 rfl) rfl rfl ?_
    refine mx_aload_n (mx_d tX3_takeBack_0 12 rfl) rfl rfl ?_
    refine mx_getI (mx_d tX3_takeBack_0 13 rfl) fX3_22 rfl (Or.inl rfl) (ly3_o h0) ?_
    refine mx_iconst (1) (mx_d tX3_takeBack_0 14 rfl) (by decide) ?_
    refine mx_isub (mx_d tX3_takeBack_0 15 rfl) ?_
    refine mx_bipush (9) (mx_d tX3_takeBack_0 16 rfl) (by decide) ?_
    obtain ⟨r3, h_r3, h⟩ := Option.bind_eq_some_iff.mp h
    refine mx_cSi (mx_d tX3_takeBack_0 17 rfl) iX3_25 rfl sJ9_floorMod_7cf53 (CJ9_floorMod_7cf53  h_r3) (by decide) rfl rfl (Nat.le_of_ble_eq_true rfl) ?_
    obtain ⟨m4, e_m4, h⟩ := mx_letE h
    refine mx_putI (mx_d tX3_takeBack_0 18 rfl) fX3_22 rfl ⟨_, rfl, rfl⟩ rfl (ly3_o h0) (mx_eqz (z' := (e, m4)) (by rw [e_m4]) ?_)
    refine mx_aload_n (mx_d tX3_takeBack_0 19 rfl) rfl rfl ?_
    refine mx_getR (mx_d tX3_takeBack_0 20 rfl) fX3_13 rfl rfl (ly3_o h0) (ly3_r0 h0) ?_
    refine mx_aload_n (mx_d tX3_takeBack_0 21 rfl) rfl rfl ?_
    refine mx_getI (mx_d tX3_takeBack_0 22 rfl) fX3_22 rfl (Or.inl rfl) (ly3_o h0) ?_
    obtain ⟨hi5, h⟩ := mx_chkE h
    refine mx_aaload (mx_d tX3_takeBack_0 23 rfl) (ly3_s0 h0) (Or.inl rfl) (mx_inbE hi5) (ly3_e0 h0 (Nat.not_le.mp fun q => mx_inbE hi5 (Or.inr q))).1 ?_
    refine mx_astore_n (L2 := [.ref a, .ref p0, .ref (a + 2 + 11 * (Int32.toNatClampNeg (m4.1 a 1)))]) (mx_d tX3_takeBack_0 24 rfl) rfl (by decide) (by rfl) ?_
    refine mx_aload_n (mx_d tX3_takeBack_0 25 rfl) rfl rfl ?_
    refine mx_ifnull (mx_d tX3_takeBack_0 26 rfl) ?_
    refine mx_aload_n (mx_d tX3_takeBack_0 27 rfl) rfl rfl ?_
    refine mx_aload_n (mx_d tX3_takeBack_0 28 rfl) rfl rfl ?_
    obtain ⟨r6, h_r6, h⟩ := Option.bind_eq_some_iff.mp h
    refine mx_cVv (mx_d tX3_takeBack_0 29 rfl) iX3_31 rfl vX4_copyFrom ⟨_, rfl, rfl⟩ (ly4_o h1) (CX4_copyFrom h1 (ly3_e0 h0 (Nat.not_le.mp fun q => mx_inbE hi5 (Or.inr q))).2 h_r6) (by decide) rfl rfl (Nat.le_of_ble_eq_true rfl) ?_
    refine mx_aload_n (mx_d tX3_takeBack_0 30 rfl) rfl rfl ?_
    refine mx_getI (mx_d tX3_takeBack_0 31 rfl) fX3_18 rfl (Or.inl rfl) (ly3_o h0) ?_
    obtain rfl := Option.some.inj h
    exact mx_ireturn (mx_d tX3_takeBack_0 32 rfl) rfl ⟨rfl, rfl⟩
  · rw [if_neg hc1] at h
    refine mx_iconst ((-1)) (mx_d tX3_takeBack_0 3 rfl) (by decide) ?_
    obtain rfl := Option.some.inj h
    exact mx_ireturn (mx_d tX3_takeBack_0 4 rfl) rfl ⟨rfl, rfl⟩
def FX5_result (a : Nat) (m : mB) : Option Nat := (some (a + 1))
set_option maxRecDepth 20000 in
theorem CX5_result {G : mG} {l : Launch} {e : mE} {a : Nat} {m : mB} {r : Nat} (h0 : ly5 e a) (h : FX5_result a m = some r) : mx_Call G l MX5_result 1 0 0 [.ref a] (e, m) (fun v z => v = some (.ref r) ∧ z = (e, m)) := by
  refine mx_entry (L := [.ref a]) (by decide +kernel) (Nat.le_of_ble_eq_true rfl) rfl ?_
  unfold FX5_result at h
  refine mx_aload_n (mx_d tX5_result_0 0 rfl) rfl rfl ?_
  refine mx_getR (mx_d tX5_result_0 1 rfl) fX5_12 rfl rfl (ly5_o h0) (ly5_r0 h0) ?_
  obtain rfl := Option.some.inj h
  exact mx_areturn (mx_d tX5_result_0 2 rfl) rfl ⟨rfl, rfl⟩
def FX5_lines (a : Nat) (m : mB) : Option Int32 := (some (m.1 a 1))
set_option maxRecDepth 20000 in
theorem CX5_lines {G : mG} {l : Launch} {e : mE} {a : Nat} {m : mB} {r : Int32} (h0 : ly5 e a) (h : FX5_lines a m = some r) : mx_Call G l MX5_lines 1 0 0 [.ref a] (e, m) (fun v z => v = some (.int r) ∧ z = (e, m)) := by
  refine mx_entry (L := [.ref a]) (by decide +kernel) (Nat.le_of_ble_eq_true rfl) rfl ?_
  unfold FX5_lines at h
  refine mx_aload_n (mx_d tX5_lines_0 0 rfl) rfl rfl ?_
  refine mx_getI (mx_d tX5_lines_0 1 rfl) fX5_18 rfl (Or.inl rfl) (ly5_o h0) ?_
  obtain rfl := Option.some.inj h
  exact mx_ireturn (mx_d tX5_lines_0 2 rfl) rfl ⟨rfl, rfl⟩
def FX10_word (a : Nat) (m : mB) : Option Int64 := (some (m.2 a 9))
set_option maxRecDepth 20000 in
theorem CX10_word {G : mG} {l : Launch} {e : mE} {a : Nat} {m : mB} {r : Int64} (h0 : ly10 e a) (h : FX10_word a m = some r) : mx_Call G l MX10_word 1 0 0 [.ref a] (e, m) (fun v z => v = some (.long r) ∧ z = (e, m)) := by
  refine mx_entry (L := [.ref a]) (by decide +kernel) (Nat.le_of_ble_eq_true rfl) rfl ?_
  unfold FX10_word at h
  refine mx_aload_n (mx_d tX10_word_0 0 rfl) rfl rfl ?_
  refine mx_getJ (mx_d tX10_word_0 1 rfl) fX10_45 rfl rfl (ly10_o h0) ?_
  obtain rfl := Option.some.inj h
  exact mx_lreturn (mx_d tX10_word_0 2 rfl) rfl ⟨rfl, rfl⟩
def FX5_readPoint (a : Nat) (p0 : Nat) (m : mB) : Option (Int32 × mB) := Option.bind (FX10_advance p0 m) (fun r1 => Option.bind (FX10_kind p0 r1) (fun r2 => (if r2 = 2 then Option.bind (FX10_word p0 r1) (fun r4 => Option.bind (FX4_pointNamed (a + 1) r4 r1) (fun r5 => (if r5 = (-1) then Option.bind (FX10_word p0 r1) (fun r7 => Option.bind (FX4_addPoint (a + 1) r7 r1) (fun r8 => Option.bind (FX10_advance p0 r8) (fun r9 => (some (1, r9))))) else Option.bind (FX10_fail p0 3 r1) (fun r10 => mx_chk (mx_b01 r10.1) ((some (r10.1, r10.2))))))) else Option.bind (FX10_fail p0 1 r1) (fun r12 => mx_chk (mx_b01 r12.1) ((some (r12.1, r12.2)))))))
set_option maxRecDepth 20000 in
theorem CX5_readPoint {G : mG} {l : Launch} {e : mE} {a : Nat} {p0 : Nat} {m : mB} {r : (Int32 × mB)} (h0 : ly5 e a) (h1 : ly10 e p0) (h : FX5_readPoint a p0 m = some r) : mx_Call G l MX5_readPoint 3 0 0 [.ref a, .ref p0] (e, m) (fun v z => v = some (.int r.1) ∧ z = (e, r.2)) := by
  refine mx_entry (L := [.ref a, .ref p0]) (by decide +kernel) (Nat.le_of_ble_eq_true rfl) rfl ?_
  unfold FX5_readPoint at h
  refine mx_aload_n (mx_d tX5_readPoint_0 0 rfl) rfl rfl ?_
  obtain ⟨r1, h_r1, h⟩ := Option.bind_eq_some_iff.mp h
  refine mx_cVv (mx_d tX5_readPoint_0 1 rfl) iX5_77 rfl vX10_advance ⟨_, rfl, rfl⟩ (ly10_o h1) (CX10_advance h1 h_r1) (by decide) rfl rfl (Nat.le_of_ble_eq_true rfl) ?_
  refine mx_aload_n (mx_d tX5_readPoint_0 2 rfl) rfl rfl ?_
  obtain ⟨r2, h_r2, h⟩ := Option.bind_eq_some_iff.mp h
  refine mx_cVi (mx_d tX5_readPoint_0 3 rfl) iX5_34 rfl vX10_kind ⟨_, rfl, rfl⟩ (ly10_o h1) (CX10_kind h1 h_r2) (by decide) rfl rfl (Nat.le_of_ble_eq_true rfl) ?_
  refine mx_iconst (2) (mx_d tX5_readPoint_0 4 rfl) (by decide) ?_
  refine mx_icmp_eq (tgt := 18) (mx_d tX5_readPoint_0 5 rfl) (by decide) (fun hc3 => ?_) (fun hc3 => ?_)
  · rw [if_pos hc3] at h
    refine mx_aload_n (mx_d tX5_readPoint_0 10 rfl) rfl rfl ?_
    refine mx_getR (mx_d tX5_readPoint_0 11 rfl) fX5_12 rfl rfl (ly5_o h0) (ly5_r0 h0) ?_
    refine mx_aload_n (mx_d tX5_readPoint_0 12 rfl) rfl rfl ?_
    obtain ⟨r4, h_r4, h⟩ := Option.bind_eq_some_iff.mp h
    refine mx_cVj (mx_d tX5_readPoint_0 13 rfl) iX5_80 rfl vX10_word ⟨_, rfl, rfl⟩ (ly10_o h1) (CX10_word h1 h_r4) (by decide) rfl rfl (Nat.le_of_ble_eq_true rfl) ?_
    obtain ⟨r5, h_r5, h⟩ := Option.bind_eq_some_iff.mp h
    refine mx_cVi (mx_d tX5_readPoint_0 14 rfl) iX5_84 rfl vX4_pointNamed ⟨_, rfl, rfl⟩ (ly4_o (ly5_s0 h0)) (CX4_pointNamed (ly5_s0 h0) h_r5) (by decide) rfl rfl (Nat.le_of_ble_eq_true rfl) ?_
    refine mx_iconst ((-1)) (mx_d tX5_readPoint_0 15 rfl) (by decide) ?_
    refine mx_icmp_eq (tgt := 39) (mx_d tX5_readPoint_0 16 rfl) (by decide) (fun hc6 => ?_) (fun hc6 => ?_)
    · rw [if_pos hc6] at h
      refine mx_aload_n (mx_d tX5_readPoint_0 21 rfl) rfl rfl ?_
      refine mx_getR (mx_d tX5_readPoint_0 22 rfl) fX5_12 rfl rfl (ly5_o h0) (ly5_r0 h0) ?_
      refine mx_aload_n (mx_d tX5_readPoint_0 23 rfl) rfl rfl ?_
      obtain ⟨r7, h_r7, h⟩ := Option.bind_eq_some_iff.mp h
      refine mx_cVj (mx_d tX5_readPoint_0 24 rfl) iX5_80 rfl vX10_word ⟨_, rfl, rfl⟩ (ly10_o h1) (CX10_word h1 h_r7) (by decide) rfl rfl (Nat.le_of_ble_eq_true rfl) ?_
      obtain ⟨r8, h_r8, h⟩ := Option.bind_eq_some_iff.mp h
      refine mx_cVv (mx_d tX5_readPoint_0 25 rfl) iX5_88 rfl vX4_addPoint ⟨_, rfl, rfl⟩ (ly4_o (ly5_s0 h0)) (CX4_addPoint (ly5_s0 h0) h_r8) (by decide) rfl rfl (Nat.le_of_ble_eq_true rfl) ?_
      refine mx_aload_n (mx_d tX5_readPoint_0 26 rfl) rfl rfl ?_
      obtain ⟨r9, h_r9, h⟩ := Option.bind_eq_some_iff.mp h
      refine mx_cVv (mx_d tX5_readPoint_0 27 rfl) iX5_77 rfl vX10_advance ⟨_, rfl, rfl⟩ (ly10_o h1) (CX10_advance h1 h_r9) (by decide) rfl rfl (Nat.le_of_ble_eq_true rfl) ?_
      refine mx_iconst (1) (mx_d tX5_readPoint_0 28 rfl) (by decide) ?_
      obtain rfl := Option.some.inj h
      exact mx_zreturn (mx_d tX5_readPoint_0 29 rfl) rfl rfl ⟨rfl, rfl⟩
    · rw [if_neg hc6] at h
      refine mx_aload_n (mx_d tX5_readPoint_0 17 rfl) rfl rfl ?_
      refine mx_iconst (3) (mx_d tX5_readPoint_0 18 rfl) (by decide) ?_
      obtain ⟨r10, h_r10, h⟩ := Option.bind_eq_some_iff.mp h
      refine mx_cVi (mx_d tX5_readPoint_0 19 rfl) iX5_56 rfl vX10_fail ⟨_, rfl, rfl⟩ (ly10_o h1) (CX10_fail h1 h_r10) (by decide) rfl rfl (Nat.le_of_ble_eq_true rfl) ?_
      obtain ⟨hb11, h⟩ := mx_chkE h
      obtain rfl := Option.some.inj h
      exact mx_zreturn (mx_d tX5_readPoint_0 20 rfl) rfl (mx_nb (mx_b01E hb11)) ⟨rfl, rfl⟩
  · rw [if_neg hc3] at h
    refine mx_aload_n (mx_d tX5_readPoint_0 6 rfl) rfl rfl ?_
    refine mx_iconst (1) (mx_d tX5_readPoint_0 7 rfl) (by decide) ?_
    obtain ⟨r12, h_r12, h⟩ := Option.bind_eq_some_iff.mp h
    refine mx_cVi (mx_d tX5_readPoint_0 8 rfl) iX5_56 rfl vX10_fail ⟨_, rfl, rfl⟩ (ly10_o h1) (CX10_fail h1 h_r12) (by decide) rfl rfl (Nat.le_of_ble_eq_true rfl) ?_
    obtain ⟨hb13, h⟩ := mx_chkE h
    obtain rfl := Option.some.inj h
    exact mx_zreturn (mx_d tX5_readPoint_0 9 rfl) rfl (mx_nb (mx_b01E hb13)) ⟨rfl, rfl⟩
def FX5_readLink (a : Nat) (p0 : Nat) (m : mB) : Option (Int32 × mB) := Option.bind (FX10_advance p0 m) (fun r1 => Option.bind (FX10_takePoint p0 (a + 1) r1) (fun r2 => (if r2.1 = (-1) then (some (0, r2.2)) else Option.bind (FX10_pointHere p0 (a + 1) r2.2) (fun r4 => (if r4.1 = (-1) then (some (0, r4.2)) else (if r2.1 = r4.1 then Option.bind (FX10_fail p0 3 r4.2) (fun r7 => mx_chk (mx_b01 r7.1) ((some (r7.1, r7.2)))) else Option.bind (FX4_areLinked (a + 1) r2.1 r4.1 r4.2) (fun r9 => (if r9 = 0 then Option.bind (FX10_advance p0 r4.2) (fun r11 => Option.bind (FX10_takeNumber p0 1 99 r11) (fun r12 => (if r12.1 = (-1) then (some (0, r12.2)) else Option.bind (FX4_addLink (a + 1) r2.1 r4.1 r12.1 r12.2) (fun r14 => (some (1, r14)))))) else Option.bind (FX10_fail p0 3 r4.2) (fun r15 => mx_chk (mx_b01 r15.1) ((some (r15.1, r15.2))))))))))))
set_option maxRecDepth 20000 in
theorem CX5_readLink {G : mG} {l : Launch} {e : mE} {a : Nat} {p0 : Nat} {m : mB} {r : (Int32 × mB)} (h0 : ly5 e a) (h1 : ly10 e p0) (h : FX5_readLink a p0 m = some r) : mx_Call G l MX5_readLink 4 0 0 [.ref a, .ref p0] (e, m) (fun v z => v = some (.int r.1) ∧ z = (e, r.2)) := by
  refine mx_entry (L := [.ref a, .ref p0, .float 0, .float 0, .float 0]) (by decide +kernel) (Nat.le_of_ble_eq_true rfl) rfl ?_
  unfold FX5_readLink at h
  refine mx_aload_n (mx_d tX5_readLink_0 0 rfl) rfl rfl ?_
  obtain ⟨r1, h_r1, h⟩ := Option.bind_eq_some_iff.mp h
  refine mx_cVv (mx_d tX5_readLink_0 1 rfl) iX5_77 rfl vX10_advance ⟨_, rfl, rfl⟩ (ly10_o h1) (CX10_advance h1 h_r1) (by decide) rfl rfl (Nat.le_of_ble_eq_true rfl) ?_
  refine mx_aload_n (mx_d tX5_readLink_0 2 rfl) rfl rfl ?_
  refine mx_aload_n (mx_d tX5_readLink_0 3 rfl) rfl rfl ?_
  refine mx_getR (mx_d tX5_readLink_0 4 rfl) fX5_12 rfl rfl (ly5_o h0) (ly5_r0 h0) ?_
  obtain ⟨r2, h_r2, h⟩ := Option.bind_eq_some_iff.mp h
  refine mx_cVi (mx_d tX5_readLink_0 5 rfl) iX5_92 rfl vX10_takePoint ⟨_, rfl, rfl⟩ (ly10_o h1) (CX10_takePoint h1 (ly5_s0 h0) h_r2) (by decide) rfl rfl (Nat.le_of_ble_eq_true rfl) ?_
  refine mx_istore_n (L2 := [.ref a, .ref p0, .int r2.1, .float 0, .float 0]) (mx_d tX5_readLink_0 6 rfl) rfl (by decide) (by rfl) ?_
  refine mx_iload_n (mx_d tX5_readLink_0 7 rfl) rfl rfl ?_
  refine mx_iconst ((-1)) (mx_d tX5_readLink_0 8 rfl) (by decide) ?_
  refine mx_icmp_ne (tgt := 22) (mx_d tX5_readLink_0 9 rfl) (by decide) (fun hc3 => ?_) (fun hc3 => ?_)
  · rw [if_neg hc3] at h
    refine mx_aload_n (mx_d tX5_readLink_0 12 rfl) rfl rfl ?_
    refine mx_aload_n (mx_d tX5_readLink_0 13 rfl) rfl rfl ?_
    refine mx_getR (mx_d tX5_readLink_0 14 rfl) fX5_12 rfl rfl (ly5_o h0) (ly5_r0 h0) ?_
    obtain ⟨r4, h_r4, h⟩ := Option.bind_eq_some_iff.mp h
    refine mx_cVi (mx_d tX5_readLink_0 15 rfl) iX5_96 rfl vX10_pointHere ⟨_, rfl, rfl⟩ (ly10_o h1) (CX10_pointHere h1 (ly5_s0 h0) h_r4) (by decide) rfl rfl (Nat.le_of_ble_eq_true rfl) ?_
    refine mx_istore_n (L2 := [.ref a, .ref p0, .int r2.1, .int r4.1, .float 0]) (mx_d tX5_readLink_0 16 rfl) rfl (by decide) (by rfl) ?_
    refine mx_iload_n (mx_d tX5_readLink_0 17 rfl) rfl rfl ?_
    refine mx_iconst ((-1)) (mx_d tX5_readLink_0 18 rfl) (by decide) ?_
    refine mx_icmp_ne (tgt := 38) (mx_d tX5_readLink_0 19 rfl) (by decide) (fun hc5 => ?_) (fun hc5 => ?_)
    · rw [if_neg hc5] at h
      refine mx_iload_n (mx_d tX5_readLink_0 22 rfl) rfl rfl ?_
      refine mx_iload_n (mx_d tX5_readLink_0 23 rfl) rfl rfl ?_
      refine mx_icmp_eq (tgt := 55) (mx_d tX5_readLink_0 24 rfl) (by decide) (fun hc6 => ?_) (fun hc6 => ?_)
      · rw [if_pos hc6] at h
        refine mx_aload_n (mx_d tX5_readLink_0 31 rfl) rfl rfl ?_
        refine mx_iconst (3) (mx_d tX5_readLink_0 32 rfl) (by decide) ?_
        obtain ⟨r7, h_r7, h⟩ := Option.bind_eq_some_iff.mp h
        refine mx_cVi (mx_d tX5_readLink_0 33 rfl) iX5_56 rfl vX10_fail ⟨_, rfl, rfl⟩ (ly10_o h1) (CX10_fail h1 h_r7) (by decide) rfl rfl (Nat.le_of_ble_eq_true rfl) ?_
        obtain ⟨hb8, h⟩ := mx_chkE h
        obtain rfl := Option.some.inj h
        exact mx_zreturn (mx_d tX5_readLink_0 34 rfl) rfl (mx_nb (mx_b01E hb8)) ⟨rfl, rfl⟩
      · rw [if_neg hc6] at h
        refine mx_aload_n (mx_d tX5_readLink_0 25 rfl) rfl rfl ?_
        refine mx_getR (mx_d tX5_readLink_0 26 rfl) fX5_12 rfl rfl (ly5_o h0) (ly5_r0 h0) ?_
        refine mx_iload_n (mx_d tX5_readLink_0 27 rfl) rfl rfl ?_
        refine mx_iload_n (mx_d tX5_readLink_0 28 rfl) rfl rfl ?_
        obtain ⟨r9, h_r9, h⟩ := Option.bind_eq_some_iff.mp h
        refine mx_cVi (mx_d tX5_readLink_0 29 rfl) iX5_99 rfl vX4_areLinked ⟨_, rfl, rfl⟩ (ly4_o (ly5_s0 h0)) (CX4_areLinked (ly5_s0 h0) h_r9) (by decide) rfl rfl (Nat.le_of_ble_eq_true rfl) ?_
        refine mx_if_eq (tgt := 61) (mx_d tX5_readLink_0 30 rfl) (by decide) (fun hc10 => ?_) (fun hc10 => ?_)
        · rw [if_pos hc10] at h
          refine mx_aload_n (mx_d tX5_readLink_0 35 rfl) rfl rfl ?_
          obtain ⟨r11, h_r11, h⟩ := Option.bind_eq_some_iff.mp h
          refine mx_cVv (mx_d tX5_readLink_0 36 rfl) iX5_77 rfl vX10_advance ⟨_, rfl, rfl⟩ (ly10_o h1) (CX10_advance h1 h_r11) (by decide) rfl rfl (Nat.le_of_ble_eq_true rfl) ?_
          refine mx_aload_n (mx_d tX5_readLink_0 37 rfl) rfl rfl ?_
          refine mx_iconst (1) (mx_d tX5_readLink_0 38 rfl) (by decide) ?_
          refine mx_bipush (99) (mx_d tX5_readLink_0 39 rfl) (by decide) ?_
          obtain ⟨r12, h_r12, h⟩ := Option.bind_eq_some_iff.mp h
          refine mx_cVi (mx_d tX5_readLink_0 40 rfl) iX5_103 rfl vX10_takeNumber ⟨_, rfl, rfl⟩ (ly10_o h1) (CX10_takeNumber h1 h_r12) (by decide) rfl rfl (Nat.le_of_ble_eq_true rfl) ?_
          refine mx_istore (L2 := [.ref a, .ref p0, .int r2.1, .int r4.1, .int r12.1]) (mx_d tX5_readLink_0 41 rfl) (by decide) (by rfl) ?_
          refine mx_iload (mx_d tX5_readLink_0 42 rfl) rfl ?_
          refine mx_iconst ((-1)) (mx_d tX5_readLink_0 43 rfl) (by decide) ?_
          refine mx_icmp_ne (tgt := 82) (mx_d tX5_readLink_0 44 rfl) (by decide) (fun hc13 => ?_) (fun hc13 => ?_)
          · rw [if_neg hc13] at h
            refine mx_aload_n (mx_d tX5_readLink_0 47 rfl) rfl rfl ?_
            refine mx_getR (mx_d tX5_readLink_0 48 rfl) fX5_12 rfl rfl (ly5_o h0) (ly5_r0 h0) ?_
            refine mx_iload_n (mx_d tX5_readLink_0 49 rfl) rfl rfl ?_
            refine mx_iload_n (mx_d tX5_readLink_0 50 rfl) rfl rfl ?_
            refine mx_iload (mx_d tX5_readLink_0 51 rfl) rfl ?_
            obtain ⟨r14, h_r14, h⟩ := Option.bind_eq_some_iff.mp h
            refine mx_cVv (mx_d tX5_readLink_0 52 rfl) iX5_107 rfl vX4_addLink ⟨_, rfl, rfl⟩ (ly4_o (ly5_s0 h0)) (CX4_addLink (ly5_s0 h0) h_r14) (by decide) rfl rfl (Nat.le_of_ble_eq_true rfl) ?_
            refine mx_iconst (1) (mx_d tX5_readLink_0 53 rfl) (by decide) ?_
            obtain rfl := Option.some.inj h
            exact mx_zreturn (mx_d tX5_readLink_0 54 rfl) rfl rfl ⟨rfl, rfl⟩
          · rw [if_pos hc13] at h
            refine mx_iconst (0) (mx_d tX5_readLink_0 45 rfl) (by decide) ?_
            obtain rfl := Option.some.inj h
            exact mx_zreturn (mx_d tX5_readLink_0 46 rfl) rfl rfl ⟨rfl, rfl⟩
        · rw [if_neg hc10] at h
          refine mx_aload_n (mx_d tX5_readLink_0 31 rfl) rfl rfl ?_
          refine mx_iconst (3) (mx_d tX5_readLink_0 32 rfl) (by decide) ?_
          obtain ⟨r15, h_r15, h⟩ := Option.bind_eq_some_iff.mp h
          refine mx_cVi (mx_d tX5_readLink_0 33 rfl) iX5_56 rfl vX10_fail ⟨_, rfl, rfl⟩ (ly10_o h1) (CX10_fail h1 h_r15) (by decide) rfl rfl (Nat.le_of_ble_eq_true rfl) ?_
          obtain ⟨hb16, h⟩ := mx_chkE h
          obtain rfl := Option.some.inj h
          exact mx_zreturn (mx_d tX5_readLink_0 34 rfl) rfl (mx_nb (mx_b01E hb16)) ⟨rfl, rfl⟩
    · rw [if_pos hc5] at h
      refine mx_iconst (0) (mx_d tX5_readLink_0 20 rfl) (by decide) ?_
      obtain rfl := Option.some.inj h
      exact mx_zreturn (mx_d tX5_readLink_0 21 rfl) rfl rfl ⟨rfl, rfl⟩
  · rw [if_pos hc3] at h
    refine mx_iconst ((-1)) (mx_d tX5_readLink_0 10 rfl) (by decide) ?_
    refine mx_goto (tgt := 30) (mx_d tX5_readLink_0 11 rfl) (by decide) ?_
    refine mx_istore_n (L2 := [.ref a, .ref p0, .int r2.1, .int (-1), .float 0]) (mx_d tX5_readLink_0 16 rfl) rfl (by decide) (by rfl) ?_
    refine mx_iload_n (mx_d tX5_readLink_0 17 rfl) rfl rfl ?_
    refine mx_iconst ((-1)) (mx_d tX5_readLink_0 18 rfl) (by decide) ?_
    refine mx_icmp_ne (tgt := 38) (mx_d tX5_readLink_0 19 rfl) (by decide) (fun hd_ => absurd hd_ (by decide)) (fun _ => ?_)
    refine mx_iconst (0) (mx_d tX5_readLink_0 20 rfl) (by decide) ?_
    obtain rfl := Option.some.inj h
    exact mx_zreturn (mx_d tX5_readLink_0 21 rfl) rfl rfl ⟨rfl, rfl⟩
def FX5_readPair (a : Nat) (p0 : Nat) (m : mB) : Option (Int32 × mB) := Option.bind (FX10_advance p0 m) (fun r1 => Option.bind (FX10_takePoint p0 (a + 1) r1) (fun r2 => (if r2.1 = (-1) then (some (0, r2.2)) else Option.bind (FX10_pointHere p0 (a + 1) r2.2) (fun r4 => (if r4.1 = (-1) then (some (0, r4.2)) else Option.bind (FX4_pairUp (a + 1) r2.1 r4.1 r4.2) (fun r6 => (if r6.1 = 0 then Option.bind (FX10_advance p0 r6.2) (fun r8 => (some (1, r8))) else Option.bind (FX10_fail p0 3 r6.2) (fun r9 => mx_chk (mx_b01 r9.1) ((some (r9.1, r9.2)))))))))))
set_option maxRecDepth 20000 in
theorem CX5_readPair {G : mG} {l : Launch} {e : mE} {a : Nat} {p0 : Nat} {m : mB} {r : (Int32 × mB)} (h0 : ly5 e a) (h1 : ly10 e p0) (h : FX5_readPair a p0 m = some r) : mx_Call G l MX5_readPair 4 0 0 [.ref a, .ref p0] (e, m) (fun v z => v = some (.int r.1) ∧ z = (e, r.2)) := by
  refine mx_entry (L := [.ref a, .ref p0, .float 0, .float 0]) (by decide +kernel) (Nat.le_of_ble_eq_true rfl) rfl ?_
  unfold FX5_readPair at h
  refine mx_aload_n (mx_d tX5_readPair_0 0 rfl) rfl rfl ?_
  obtain ⟨r1, h_r1, h⟩ := Option.bind_eq_some_iff.mp h
  refine mx_cVv (mx_d tX5_readPair_0 1 rfl) iX5_77 rfl vX10_advance ⟨_, rfl, rfl⟩ (ly10_o h1) (CX10_advance h1 h_r1) (by decide) rfl rfl (Nat.le_of_ble_eq_true rfl) ?_
  refine mx_aload_n (mx_d tX5_readPair_0 2 rfl) rfl rfl ?_
  refine mx_aload_n (mx_d tX5_readPair_0 3 rfl) rfl rfl ?_
  refine mx_getR (mx_d tX5_readPair_0 4 rfl) fX5_12 rfl rfl (ly5_o h0) (ly5_r0 h0) ?_
  obtain ⟨r2, h_r2, h⟩ := Option.bind_eq_some_iff.mp h
  refine mx_cVi (mx_d tX5_readPair_0 5 rfl) iX5_92 rfl vX10_takePoint ⟨_, rfl, rfl⟩ (ly10_o h1) (CX10_takePoint h1 (ly5_s0 h0) h_r2) (by decide) rfl rfl (Nat.le_of_ble_eq_true rfl) ?_
  refine mx_istore_n (L2 := [.ref a, .ref p0, .int r2.1, .float 0]) (mx_d tX5_readPair_0 6 rfl) rfl (by decide) (by rfl) ?_
  refine mx_iload_n (mx_d tX5_readPair_0 7 rfl) rfl rfl ?_
  refine mx_iconst ((-1)) (mx_d tX5_readPair_0 8 rfl) (by decide) ?_
  refine mx_icmp_ne (tgt := 22) (mx_d tX5_readPair_0 9 rfl) (by decide) (fun hc3 => ?_) (fun hc3 => ?_)
  · rw [if_neg hc3] at h
    refine mx_aload_n (mx_d tX5_readPair_0 12 rfl) rfl rfl ?_
    refine mx_aload_n (mx_d tX5_readPair_0 13 rfl) rfl rfl ?_
    refine mx_getR (mx_d tX5_readPair_0 14 rfl) fX5_12 rfl rfl (ly5_o h0) (ly5_r0 h0) ?_
    obtain ⟨r4, h_r4, h⟩ := Option.bind_eq_some_iff.mp h
    refine mx_cVi (mx_d tX5_readPair_0 15 rfl) iX5_96 rfl vX10_pointHere ⟨_, rfl, rfl⟩ (ly10_o h1) (CX10_pointHere h1 (ly5_s0 h0) h_r4) (by decide) rfl rfl (Nat.le_of_ble_eq_true rfl) ?_
    refine mx_istore_n (L2 := [.ref a, .ref p0, .int r2.1, .int r4.1]) (mx_d tX5_readPair_0 16 rfl) rfl (by decide) (by rfl) ?_
    refine mx_iload_n (mx_d tX5_readPair_0 17 rfl) rfl rfl ?_
    refine mx_iconst ((-1)) (mx_d tX5_readPair_0 18 rfl) (by decide) ?_
    refine mx_icmp_ne (tgt := 38) (mx_d tX5_readPair_0 19 rfl) (by decide) (fun hc5 => ?_) (fun hc5 => ?_)
    · rw [if_neg hc5] at h
      refine mx_aload_n (mx_d tX5_readPair_0 22 rfl) rfl rfl ?_
      refine mx_getR (mx_d tX5_readPair_0 23 rfl) fX5_12 rfl rfl (ly5_o h0) (ly5_r0 h0) ?_
      refine mx_iload_n (mx_d tX5_readPair_0 24 rfl) rfl rfl ?_
      refine mx_iload_n (mx_d tX5_readPair_0 25 rfl) rfl rfl ?_
      obtain ⟨r6, h_r6, h⟩ := Option.bind_eq_some_iff.mp h
      refine mx_cVi (mx_d tX5_readPair_0 26 rfl) iX5_111 rfl vX4_pairUp ⟨_, rfl, rfl⟩ (ly4_o (ly5_s0 h0)) (CX4_pairUp (ly5_s0 h0) h_r6) (by decide) rfl rfl (Nat.le_of_ble_eq_true rfl) ?_
      refine mx_if_eq (tgt := 56) (mx_d tX5_readPair_0 27 rfl) (by decide) (fun hc7 => ?_) (fun hc7 => ?_)
      · rw [if_pos hc7] at h
        refine mx_aload_n (mx_d tX5_readPair_0 32 rfl) rfl rfl ?_
        obtain ⟨r8, h_r8, h⟩ := Option.bind_eq_some_iff.mp h
        refine mx_cVv (mx_d tX5_readPair_0 33 rfl) iX5_77 rfl vX10_advance ⟨_, rfl, rfl⟩ (ly10_o h1) (CX10_advance h1 h_r8) (by decide) rfl rfl (Nat.le_of_ble_eq_true rfl) ?_
        refine mx_iconst (1) (mx_d tX5_readPair_0 34 rfl) (by decide) ?_
        obtain rfl := Option.some.inj h
        exact mx_zreturn (mx_d tX5_readPair_0 35 rfl) rfl rfl ⟨rfl, rfl⟩
      · rw [if_neg hc7] at h
        refine mx_aload_n (mx_d tX5_readPair_0 28 rfl) rfl rfl ?_
        refine mx_iconst (3) (mx_d tX5_readPair_0 29 rfl) (by decide) ?_
        obtain ⟨r9, h_r9, h⟩ := Option.bind_eq_some_iff.mp h
        refine mx_cVi (mx_d tX5_readPair_0 30 rfl) iX5_56 rfl vX10_fail ⟨_, rfl, rfl⟩ (ly10_o h1) (CX10_fail h1 h_r9) (by decide) rfl rfl (Nat.le_of_ble_eq_true rfl) ?_
        obtain ⟨hb10, h⟩ := mx_chkE h
        obtain rfl := Option.some.inj h
        exact mx_zreturn (mx_d tX5_readPair_0 31 rfl) rfl (mx_nb (mx_b01E hb10)) ⟨rfl, rfl⟩
    · rw [if_pos hc5] at h
      refine mx_iconst (0) (mx_d tX5_readPair_0 20 rfl) (by decide) ?_
      obtain rfl := Option.some.inj h
      exact mx_zreturn (mx_d tX5_readPair_0 21 rfl) rfl rfl ⟨rfl, rfl⟩
  · rw [if_pos hc3] at h
    refine mx_iconst ((-1)) (mx_d tX5_readPair_0 10 rfl) (by decide) ?_
    refine mx_goto (tgt := 30) (mx_d tX5_readPair_0 11 rfl) (by decide) ?_
    refine mx_istore_n (L2 := [.ref a, .ref p0, .int r2.1, .int (-1)]) (mx_d tX5_readPair_0 16 rfl) rfl (by decide) (by rfl) ?_
    refine mx_iload_n (mx_d tX5_readPair_0 17 rfl) rfl rfl ?_
    refine mx_iconst ((-1)) (mx_d tX5_readPair_0 18 rfl) (by decide) ?_
    refine mx_icmp_ne (tgt := 38) (mx_d tX5_readPair_0 19 rfl) (by decide) (fun hd_ => absurd hd_ (by decide)) (fun _ => ?_)
    refine mx_iconst (0) (mx_d tX5_readPair_0 20 rfl) (by decide) ?_
    obtain rfl := Option.some.inj h
    exact mx_zreturn (mx_d tX5_readPair_0 21 rfl) rfl rfl ⟨rfl, rfl⟩
def FX5_readPrice (a : Nat) (p0 : Nat) (m : mB) : Option (Int32 × mB) := Option.bind (FX10_advance p0 m) (fun r1 => Option.bind (FX10_pointHere p0 (a + 1) r1) (fun r2 => (if r2.1 = (-1) then (some (0, r2.2)) else (if (((r2.2.1 a 2) >>> (r2.1 &&& 31)) &&& 1) = 0 then Option.bind (FX10_advance p0 r2.2) (fun r5 => Option.bind (FX10_takeNumber p0 0 400 r5) (fun r6 => (if r6.1 = (-1) then (some (0, r6.2)) else mx_let (mx_up r6.2.1 a 2 ((r6.2.1 a 2) ||| ((1 : Int32) <<< (r2.1 &&& 31))), r6.2.2) (fun m8 => Option.bind (FX4_priceAt (a + 1) r2.1 r6.1 m8) (fun r9 => (some (1, r9.2))))))) else Option.bind (FX10_fail p0 3 r2.2) (fun r10 => mx_chk (mx_b01 r10.1) ((some (r10.1, r10.2))))))))
set_option maxRecDepth 20000 in
theorem CX5_readPrice {G : mG} {l : Launch} {e : mE} {a : Nat} {p0 : Nat} {m : mB} {r : (Int32 × mB)} (h0 : ly5 e a) (h1 : ly10 e p0) (h : FX5_readPrice a p0 m = some r) : mx_Call G l MX5_readPrice 4 0 0 [.ref a, .ref p0] (e, m) (fun v z => v = some (.int r.1) ∧ z = (e, r.2)) := by
  refine mx_entry (L := [.ref a, .ref p0, .float 0, .float 0]) (by decide +kernel) (Nat.le_of_ble_eq_true rfl) rfl ?_
  unfold FX5_readPrice at h
  refine mx_aload_n (mx_d tX5_readPrice_0 0 rfl) rfl rfl ?_
  obtain ⟨r1, h_r1, h⟩ := Option.bind_eq_some_iff.mp h
  refine mx_cVv (mx_d tX5_readPrice_0 1 rfl) iX5_77 rfl vX10_advance ⟨_, rfl, rfl⟩ (ly10_o h1) (CX10_advance h1 h_r1) (by decide) rfl rfl (Nat.le_of_ble_eq_true rfl) ?_
  refine mx_aload_n (mx_d tX5_readPrice_0 2 rfl) rfl rfl ?_
  refine mx_aload_n (mx_d tX5_readPrice_0 3 rfl) rfl rfl ?_
  refine mx_getR (mx_d tX5_readPrice_0 4 rfl) fX5_12 rfl rfl (ly5_o h0) (ly5_r0 h0) ?_
  obtain ⟨r2, h_r2, h⟩ := Option.bind_eq_some_iff.mp h
  refine mx_cVi (mx_d tX5_readPrice_0 5 rfl) iX5_96 rfl vX10_pointHere ⟨_, rfl, rfl⟩ (ly10_o h1) (CX10_pointHere h1 (ly5_s0 h0) h_r2) (by decide) rfl rfl (Nat.le_of_ble_eq_true rfl) ?_
  refine mx_istore_n (L2 := [.ref a, .ref p0, .int r2.1, .float 0]) (mx_d tX5_readPrice_0 6 rfl) rfl (by decide) (by rfl) ?_
  refine mx_iload_n (mx_d tX5_readPrice_0 7 rfl) rfl rfl ?_
  refine mx_iconst ((-1)) (mx_d tX5_readPrice_0 8 rfl) (by decide) ?_
  refine mx_icmp_ne (tgt := 20) (mx_d tX5_readPrice_0 9 rfl) (by decide) (fun hc3 => ?_) (fun hc3 => ?_)
  · rw [if_neg hc3] at h
    refine mx_aload_n (mx_d tX5_readPrice_0 12 rfl) rfl rfl ?_
    refine mx_getI (mx_d tX5_readPrice_0 13 rfl) fX5_25 rfl (Or.inl rfl) (ly5_o h0) ?_
    refine mx_iload_n (mx_d tX5_readPrice_0 14 rfl) rfl rfl ?_
    refine mx_ishr (mx_d tX5_readPrice_0 15 rfl) ?_
    refine mx_iconst (1) (mx_d tX5_readPrice_0 16 rfl) (by decide) ?_
    refine mx_iand (mx_d tX5_readPrice_0 17 rfl) ?_
    refine mx_if_eq (tgt := 37) (mx_d tX5_readPrice_0 18 rfl) (by decide) (fun hc4 => ?_) (fun hc4 => ?_)
    · rw [if_pos hc4] at h
      refine mx_aload_n (mx_d tX5_readPrice_0 23 rfl) rfl rfl ?_
      obtain ⟨r5, h_r5, h⟩ := Option.bind_eq_some_iff.mp h
      refine mx_cVv (mx_d tX5_readPrice_0 24 rfl) iX5_77 rfl vX10_advance ⟨_, rfl, rfl⟩ (ly10_o h1) (CX10_advance h1 h_r5) (by decide) rfl rfl (Nat.le_of_ble_eq_true rfl) ?_
      refine mx_aload_n (mx_d tX5_readPrice_0 25 rfl) rfl rfl ?_
      refine mx_iconst (0) (mx_d tX5_readPrice_0 26 rfl) (by decide) ?_
      refine mx_sipush (400) (mx_d tX5_readPrice_0 27 rfl) (by decide) ?_
      obtain ⟨r6, h_r6, h⟩ := Option.bind_eq_some_iff.mp h
      refine mx_cVi (mx_d tX5_readPrice_0 28 rfl) iX5_103 rfl vX10_takeNumber ⟨_, rfl, rfl⟩ (ly10_o h1) (CX10_takeNumber h1 h_r6) (by decide) rfl rfl (Nat.le_of_ble_eq_true rfl) ?_
      refine mx_istore_n (L2 := [.ref a, .ref p0, .int r2.1, .int r6.1]) (mx_d tX5_readPrice_0 29 rfl) rfl (by decide) (by rfl) ?_
      refine mx_iload_n (mx_d tX5_readPrice_0 30 rfl) rfl rfl ?_
      refine mx_iconst ((-1)) (mx_d tX5_readPrice_0 31 rfl) (by decide) ?_
      refine mx_icmp_ne (tgt := 57) (mx_d tX5_readPrice_0 32 rfl) (by decide) (fun hc7 => ?_) (fun hc7 => ?_)
      · rw [if_neg hc7] at h
        refine mx_aload_n (mx_d tX5_readPrice_0 35 rfl) rfl rfl ?_
        refine mx_dup (mx_d tX5_readPrice_0 36 rfl) rfl ?_
        refine mx_getI (mx_d tX5_readPrice_0 37 rfl) fX5_25 rfl (Or.inl rfl) (ly5_o h0) ?_
        refine mx_iconst (1) (mx_d tX5_readPrice_0 38 rfl) (by decide) ?_
        refine mx_iload_n (mx_d tX5_readPrice_0 39 rfl) rfl rfl ?_
        refine mx_ishl (mx_d tX5_readPrice_0 40 rfl) ?_
        refine mx_ior (mx_d tX5_readPrice_0 41 rfl) ?_
        obtain ⟨m8, e_m8, h⟩ := mx_letE h
        refine mx_putI (mx_d tX5_readPrice_0 42 rfl) fX5_25 rfl ⟨_, rfl, rfl⟩ rfl (ly5_o h0) (mx_eqz (z' := (e, m8)) (by rw [e_m8]) ?_)
        refine mx_aload_n (mx_d tX5_readPrice_0 43 rfl) rfl rfl ?_
        refine mx_getR (mx_d tX5_readPrice_0 44 rfl) fX5_12 rfl rfl (ly5_o h0) (ly5_r0 h0) ?_
        refine mx_iload_n (mx_d tX5_readPrice_0 45 rfl) rfl rfl ?_
        refine mx_iload_n (mx_d tX5_readPrice_0 46 rfl) rfl rfl ?_
        obtain ⟨r9, h_r9, h⟩ := Option.bind_eq_some_iff.mp h
        refine mx_cVi (mx_d tX5_readPrice_0 47 rfl) iX5_114 rfl vX4_priceAt ⟨_, rfl, rfl⟩ (ly4_o (ly5_s0 h0)) (CX4_priceAt (ly5_s0 h0) h_r9) (by decide) rfl rfl (Nat.le_of_ble_eq_true rfl) ?_
        refine mx_pop (mx_d tX5_readPrice_0 48 rfl) rfl ?_
        refine mx_iconst (1) (mx_d tX5_readPrice_0 49 rfl) (by decide) ?_
        obtain rfl := Option.some.inj h
        exact mx_zreturn (mx_d tX5_readPrice_0 50 rfl) rfl rfl ⟨rfl, rfl⟩
      · rw [if_pos hc7] at h
        refine mx_iconst (0) (mx_d tX5_readPrice_0 33 rfl) (by decide) ?_
        obtain rfl := Option.some.inj h
        exact mx_zreturn (mx_d tX5_readPrice_0 34 rfl) rfl rfl ⟨rfl, rfl⟩
    · rw [if_neg hc4] at h
      refine mx_aload_n (mx_d tX5_readPrice_0 19 rfl) rfl rfl ?_
      refine mx_iconst (3) (mx_d tX5_readPrice_0 20 rfl) (by decide) ?_
      obtain ⟨r10, h_r10, h⟩ := Option.bind_eq_some_iff.mp h
      refine mx_cVi (mx_d tX5_readPrice_0 21 rfl) iX5_56 rfl vX10_fail ⟨_, rfl, rfl⟩ (ly10_o h1) (CX10_fail h1 h_r10) (by decide) rfl rfl (Nat.le_of_ble_eq_true rfl) ?_
      obtain ⟨hb11, h⟩ := mx_chkE h
      obtain rfl := Option.some.inj h
      exact mx_zreturn (mx_d tX5_readPrice_0 22 rfl) rfl (mx_nb (mx_b01E hb11)) ⟨rfl, rfl⟩
  · rw [if_pos hc3] at h
    refine mx_iconst (0) (mx_d tX5_readPrice_0 10 rfl) (by decide) ?_
    obtain rfl := Option.some.inj h
    exact mx_zreturn (mx_d tX5_readPrice_0 11 rfl) rfl rfl ⟨rfl, rfl⟩
def FX5_readSet_L25 (q0 : Nat) (q1 : Nat) (y2 : Int32) : Nat → Int32 → Int32 → mB → Option ((Int32 × mB) ⊕ (Int32 × mB))
  | 0, _, _, _ => none
  | f + 1, y3, y4, m => (if 9 ≤ y4 then (some (.inr (y3, m))) else Option.bind (FX10_kind q1 m) (fun r5 => mx_let (Option.bind (FX10_pointHere q1 (q0 + 1) m) (fun r8 => (if r8.1 = (-1) then (some (.inl (0, r8.2))) else (if ((y3 >>> (r8.1 &&& 31)) &&& 1) = 0 then mx_let (y3 ||| ((1 : Int32) <<< (r8.1 &&& 31))) (fun v11 => Option.bind (FX10_advance q1 r8.2) (fun r12 => mx_let (y4 + 1) (fun v13 => (FX5_readSet_L25 q0 q1 y2 f v11 v13 r12)))) else Option.bind (FX10_fail q1 3 r8.2) (fun r14 => mx_chk (mx_b01 r14.1) ((some (.inl (r14.1, r14.2))))))))) (fun k7 => (if r5 = 59 then (if y4 < 3 then k7 else (if (y4 - y4 / 2 * 2) = 1 then (some (.inr (y3, m))) else k7)) else k7))))
set_option maxRecDepth 20000 in
theorem CX5_readSet_L25 {G : mG} {l : Launch} {e : mE} {Post : Option Value → mS → Prop} {q0 : Nat} {q1 : Nat} {y2 : Int32} (g0 : ly5 e q0) (g1 : ly10 e q1) : ∀ (f : Nat) {y3 : Int32} {y4 : Int32} {m : mB} {q : ((Int32 × mB) ⊕ (Int32 × mB))}, FX5_readSet_L25 q0 q1 y2 f y3 y4 m = some q → (∀ rr, q = .inl rr → Post (some (.int rr.1)) (e, rr.2)) → (∀ u, q = .inr u → mx_Fr G l MX5_readSet 4 0 0 Post 108 [.ref q0, .ref q1, .int y2, .int u.1, .float 0, .float 0] [] (e, u.2)) → mx_Fr G l MX5_readSet 4 0 0 Post 25 [.ref q0, .ref q1, .int y2, .int y3, .int y4, .float 0] [] (e, m) := by
  intro f
  induction f with
  | zero => intro _ _ _ _ h; cases h
  | succ f ih =>
    intro y3 y4 m q h hret hex
    rw [FX5_readSet_L25] at h
    refine mx_iload (mx_d tX5_readSet_0 16 rfl) rfl ?_
    refine mx_bipush (9) (mx_d tX5_readSet_0 17 rfl) (by decide) ?_
    refine mx_icmp_ge (tgt := 108) (mx_d tX5_readSet_0 18 rfl) (by decide) (fun hc4 => ?_) (fun hc4 => ?_)
    · rw [if_pos hc4] at h
      obtain rfl := Option.some.inj h
      refine mx_forget (L' := [.ref q0, .ref q1, .int y2, .int y3, .float 0, .float 0]) ⟨rfl, rfl, rfl, rfl, trivial⟩ ?_
      exact (hex _ rfl)
    · rw [if_neg hc4] at h
      refine mx_aload_n (mx_d tX5_readSet_0 19 rfl) rfl rfl ?_
      obtain ⟨r5, h_r5, h⟩ := Option.bind_eq_some_iff.mp h
      refine mx_cVi (mx_d tX5_readSet_0 20 rfl) iX5_34 rfl vX10_kind ⟨_, rfl, rfl⟩ (ly10_o g1) (CX10_kind g1 h_r5) (by decide) rfl rfl (Nat.le_of_ble_eq_true rfl) ?_
      refine mx_bipush (59) (mx_d tX5_readSet_0 21 rfl) (by decide) ?_
      refine mx_letK (J := fun k7 => k7 = some q → mx_Fr G l MX5_readSet 4 0 0 Post 58 [.ref q0, .ref q1, .int y2, .int y3, .int y4, .float 0] [] (e, m)) h ?_ (fun k7 j_k7 h => ?_)
      · intro h
        refine mx_aload_n (mx_d tX5_readSet_0 32 rfl) rfl rfl ?_
        refine mx_aload_n (mx_d tX5_readSet_0 33 rfl) rfl rfl ?_
        refine mx_getR (mx_d tX5_readSet_0 34 rfl) fX5_12 rfl rfl (ly5_o g0) (ly5_r0 g0) ?_
        obtain ⟨r8, h_r8, h⟩ := Option.bind_eq_some_iff.mp h
        refine mx_cVi (mx_d tX5_readSet_0 35 rfl) iX5_96 rfl vX10_pointHere ⟨_, rfl, rfl⟩ (ly10_o g1) (CX10_pointHere g1 (ly5_s0 g0) h_r8) (by decide) rfl rfl (Nat.le_of_ble_eq_true rfl) ?_
        refine mx_istore (L2 := [.ref q0, .ref q1, .int y2, .int y3, .int y4, .int r8.1]) (mx_d tX5_readSet_0 36 rfl) (by decide) (by rfl) ?_
        refine mx_iload (mx_d tX5_readSet_0 37 rfl) rfl ?_
        refine mx_iconst ((-1)) (mx_d tX5_readSet_0 38 rfl) (by decide) ?_
        refine mx_icmp_ne (tgt := 76) (mx_d tX5_readSet_0 39 rfl) (by decide) (fun hc9 => ?_) (fun hc9 => ?_)
        · rw [if_neg hc9] at h
          refine mx_iload_n (mx_d tX5_readSet_0 42 rfl) rfl rfl ?_
          refine mx_iload (mx_d tX5_readSet_0 43 rfl) rfl ?_
          refine mx_ishr (mx_d tX5_readSet_0 44 rfl) ?_
          refine mx_iconst (1) (mx_d tX5_readSet_0 45 rfl) (by decide) ?_
          refine mx_iand (mx_d tX5_readSet_0 46 rfl) ?_
          refine mx_if_eq (tgt := 91) (mx_d tX5_readSet_0 47 rfl) (by decide) (fun hc10 => ?_) (fun hc10 => ?_)
          · rw [if_pos hc10] at h
            refine mx_iload_n (mx_d tX5_readSet_0 52 rfl) rfl rfl ?_
            refine mx_iconst (1) (mx_d tX5_readSet_0 53 rfl) (by decide) ?_
            refine mx_iload (mx_d tX5_readSet_0 54 rfl) rfl ?_
            refine mx_ishl (mx_d tX5_readSet_0 55 rfl) ?_
            refine mx_ior (mx_d tX5_readSet_0 56 rfl) ?_
            obtain ⟨v11, e_v11, h⟩ := mx_letE h
            refine mx_istore_n (L2 := [.ref q0, .ref q1, .int y2, .int v11, .int y4, .int r8.1]) (mx_d tX5_readSet_0 57 rfl) rfl (by decide) (by rw [e_v11]; rfl) ?_
            refine mx_aload_n (mx_d tX5_readSet_0 58 rfl) rfl rfl ?_
            obtain ⟨r12, h_r12, h⟩ := Option.bind_eq_some_iff.mp h
            refine mx_cVv (mx_d tX5_readSet_0 59 rfl) iX5_77 rfl vX10_advance ⟨_, rfl, rfl⟩ (ly10_o g1) (CX10_advance g1 h_r12) (by decide) rfl rfl (Nat.le_of_ble_eq_true rfl) ?_
            obtain ⟨v13, e_v13, h⟩ := mx_letE h
            refine mx_iinc v13 (L2 := [.ref q0, .ref q1, .int y2, .int v11, .int v13, .int r8.1]) (mx_d tX5_readSet_1 0 rfl) rfl (by rw [e_v13]; rfl) (by decide) rfl ?_
            refine mx_goto (tgt := 25) (mx_d tX5_readSet_1 1 rfl) (by decide) ?_
            refine mx_forget (L' := [.ref q0, .ref q1, .int y2, .int v11, .int v13, .float 0]) ⟨rfl, rfl, rfl, rfl, rfl, trivial⟩ ?_
            exact ih h hret hex
          · rw [if_neg hc10] at h
            refine mx_aload_n (mx_d tX5_readSet_0 48 rfl) rfl rfl ?_
            refine mx_iconst (3) (mx_d tX5_readSet_0 49 rfl) (by decide) ?_
            obtain ⟨r14, h_r14, h⟩ := Option.bind_eq_some_iff.mp h
            refine mx_cVi (mx_d tX5_readSet_0 50 rfl) iX5_56 rfl vX10_fail ⟨_, rfl, rfl⟩ (ly10_o g1) (CX10_fail g1 h_r14) (by decide) rfl rfl (Nat.le_of_ble_eq_true rfl) ?_
            obtain ⟨hb15, h⟩ := mx_chkE h
            obtain rfl := Option.some.inj h
            exact mx_zreturn (mx_d tX5_readSet_0 51 rfl) rfl (mx_nb (mx_b01E hb15)) (hret _ rfl)
        · rw [if_pos hc9] at h
          refine mx_iconst (0) (mx_d tX5_readSet_0 40 rfl) (by decide) ?_
          obtain rfl := Option.some.inj h
          exact mx_zreturn (mx_d tX5_readSet_0 41 rfl) rfl rfl (hret _ rfl)
      refine mx_icmp_ne (tgt := 58) (mx_d tX5_readSet_0 22 rfl) (by decide) (fun hc6 => ?_) (fun hc6 => ?_)
      · rw [if_neg hc6] at h
        exact j_k7 h
      · rw [if_pos hc6] at h
        refine mx_iload (mx_d tX5_readSet_0 23 rfl) rfl ?_
        refine mx_iconst (3) (mx_d tX5_readSet_0 24 rfl) (by decide) ?_
        refine mx_icmp_lt (tgt := 58) (mx_d tX5_readSet_0 25 rfl) (by decide) (fun hc16 => ?_) (fun hc16 => ?_)
        · rw [if_pos hc16] at h
          exact j_k7 h
        · rw [if_neg hc16] at h
          refine mx_iload (mx_d tX5_readSet_0 26 rfl) rfl ?_
          refine mx_iconst (2) (mx_d tX5_readSet_0 27 rfl) (by decide) ?_
          refine mx_irem (mx_d tX5_readSet_0 28 rfl) (by decide) ?_
          refine mx_iconst (1) (mx_d tX5_readSet_0 29 rfl) (by decide) ?_
          refine mx_icmp_ne (tgt := 58) (mx_d tX5_readSet_0 30 rfl) (by decide) (fun hc17 => ?_) (fun hc17 => ?_)
          · rw [if_neg hc17] at h
            exact j_k7 h
          · rw [if_pos hc17] at h
            refine mx_goto (tgt := 108) (mx_d tX5_readSet_0 31 rfl) (by decide) ?_
            obtain rfl := Option.some.inj h
            refine mx_forget (L' := [.ref q0, .ref q1, .int y2, .int y3, .float 0, .float 0]) ⟨rfl, rfl, rfl, rfl, trivial⟩ ?_
            exact (hex _ rfl)
def FX5_readSet (a : Nat) (p0 : Nat) (m : mB) : Option (Int32 × mB) := Option.bind (FX10_advance p0 m) (fun r1 => Option.bind (FX10_takeNumber p0 0 400 r1) (fun r2 => (if r2.1 = (-1) then (some (0, r2.2)) else Option.bind (FX5_readSet_L25 a p0 r2.1 mx_FU 0 0 r2.2) (fun q18 => Sum.elim (fun rr => some rr) (fun u19 => Option.bind (FX10_kind p0 u19.2) (fun r21 => (if r21 = 59 then Option.bind (FX4_setOf (a + 1) u19.1 u19.2) (fun r24 => (if r24 = (-1) then Option.bind (FX4_addSet (a + 1) u19.1 r2.1 u19.2) (fun r26 => (some (1, r26))) else Option.bind (FX10_fail p0 3 u19.2) (fun r27 => mx_chk (mx_b01 r27.1) ((some (r27.1, r27.2)))))) else Option.bind (FX4_addSet (a + 1) u19.1 r2.1 u19.2) (fun r23 => (some (1, r23)))))) q18))))
set_option maxRecDepth 20000 in
theorem CX5_readSet {G : mG} {l : Launch} {e : mE} {a : Nat} {p0 : Nat} {m : mB} {r : (Int32 × mB)} (h0 : ly5 e a) (h1 : ly10 e p0) (h : FX5_readSet a p0 m = some r) : mx_Call G l MX5_readSet 4 0 0 [.ref a, .ref p0] (e, m) (fun v z => v = some (.int r.1) ∧ z = (e, r.2)) := by
  refine mx_entry (L := [.ref a, .ref p0, .float 0, .float 0, .float 0, .float 0]) (by decide +kernel) (Nat.le_of_ble_eq_true rfl) rfl ?_
  unfold FX5_readSet at h
  refine mx_aload_n (mx_d tX5_readSet_0 0 rfl) rfl rfl ?_
  obtain ⟨r1, h_r1, h⟩ := Option.bind_eq_some_iff.mp h
  refine mx_cVv (mx_d tX5_readSet_0 1 rfl) iX5_77 rfl vX10_advance ⟨_, rfl, rfl⟩ (ly10_o h1) (CX10_advance h1 h_r1) (by decide) rfl rfl (Nat.le_of_ble_eq_true rfl) ?_
  refine mx_aload_n (mx_d tX5_readSet_0 2 rfl) rfl rfl ?_
  refine mx_iconst (0) (mx_d tX5_readSet_0 3 rfl) (by decide) ?_
  refine mx_sipush (400) (mx_d tX5_readSet_0 4 rfl) (by decide) ?_
  obtain ⟨r2, h_r2, h⟩ := Option.bind_eq_some_iff.mp h
  refine mx_cVi (mx_d tX5_readSet_0 5 rfl) iX5_103 rfl vX10_takeNumber ⟨_, rfl, rfl⟩ (ly10_o h1) (CX10_takeNumber h1 h_r2) (by decide) rfl rfl (Nat.le_of_ble_eq_true rfl) ?_
  refine mx_istore_n (L2 := [.ref a, .ref p0, .int r2.1, .float 0, .float 0, .float 0]) (mx_d tX5_readSet_0 6 rfl) rfl (by decide) (by rfl) ?_
  refine mx_iload_n (mx_d tX5_readSet_0 7 rfl) rfl rfl ?_
  refine mx_iconst ((-1)) (mx_d tX5_readSet_0 8 rfl) (by decide) ?_
  refine mx_icmp_ne (tgt := 20) (mx_d tX5_readSet_0 9 rfl) (by decide) (fun hc3 => ?_) (fun hc3 => ?_)
  · rw [if_neg hc3] at h
    refine mx_iconst (0) (mx_d tX5_readSet_0 12 rfl) (by decide) ?_
    refine mx_istore_n (L2 := [.ref a, .ref p0, .int r2.1, .int 0, .float 0, .float 0]) (mx_d tX5_readSet_0 13 rfl) rfl (by decide) (by rfl) ?_
    refine mx_iconst (0) (mx_d tX5_readSet_0 14 rfl) (by decide) ?_
    refine mx_istore (L2 := [.ref a, .ref p0, .int r2.1, .int 0, .int 0, .float 0]) (mx_d tX5_readSet_0 15 rfl) (by decide) (by rfl) ?_
    obtain ⟨q18, h_q18, h⟩ := Option.bind_eq_some_iff.mp h
    refine CX5_readSet_L25 h0 h1 mx_FU h_q18 (fun rr20 e_rr20 => ?_) (fun u19 e_u19 => ?_)
    · subst e_rr20
      rw [Sum.elim_inl] at h
      obtain rfl := Option.some.inj h
      exact ⟨rfl, rfl⟩
    · subst e_u19
      rw [Sum.elim_inr] at h
      refine mx_aload_n (mx_d tX5_readSet_1 2 rfl) rfl rfl ?_
      obtain ⟨r21, h_r21, h⟩ := Option.bind_eq_some_iff.mp h
      refine mx_cVi (mx_d tX5_readSet_1 3 rfl) iX5_34 rfl vX10_kind ⟨_, rfl, rfl⟩ (ly10_o h1) (CX10_kind h1 h_r21) (by decide) rfl rfl (Nat.le_of_ble_eq_true rfl) ?_
      refine mx_bipush (59) (mx_d tX5_readSet_1 4 rfl) (by decide) ?_
      refine mx_icmp_ne (tgt := 135) (mx_d tX5_readSet_1 5 rfl) (by decide) (fun hc22 => ?_) (fun hc22 => ?_)
      · rw [if_neg hc22] at h
        refine mx_aload_n (mx_d tX5_readSet_1 16 rfl) rfl rfl ?_
        refine mx_getR (mx_d tX5_readSet_1 17 rfl) fX5_12 rfl rfl (ly5_o h0) (ly5_r0 h0) ?_
        refine mx_iload_n (mx_d tX5_readSet_1 18 rfl) rfl rfl ?_
        refine mx_iload_n (mx_d tX5_readSet_1 19 rfl) rfl rfl ?_
        obtain ⟨r23, h_r23, h⟩ := Option.bind_eq_some_iff.mp h
        refine mx_cVv (mx_d tX5_readSet_1 20 rfl) iX5_121 rfl vX4_addSet ⟨_, rfl, rfl⟩ (ly4_o (ly5_s0 h0)) (CX4_addSet (ly5_s0 h0) h_r23) (by decide) rfl rfl (Nat.le_of_ble_eq_true rfl) ?_
        refine mx_iconst (1) (mx_d tX5_readSet_1 21 rfl) (by decide) ?_
        obtain rfl := Option.some.inj h
        exact mx_zreturn (mx_d tX5_readSet_1 22 rfl) rfl rfl ⟨rfl, rfl⟩
      · rw [if_pos hc22] at h
        refine mx_aload_n (mx_d tX5_readSet_1 6 rfl) rfl rfl ?_
        refine mx_getR (mx_d tX5_readSet_1 7 rfl) fX5_12 rfl rfl (ly5_o h0) (ly5_r0 h0) ?_
        refine mx_iload_n (mx_d tX5_readSet_1 8 rfl) rfl rfl ?_
        obtain ⟨r24, h_r24, h⟩ := Option.bind_eq_some_iff.mp h
        refine mx_cVi (mx_d tX5_readSet_1 9 rfl) iX5_117 rfl vX4_setOf ⟨_, rfl, rfl⟩ (ly4_o (ly5_s0 h0)) (CX4_setOf (ly5_s0 h0) h_r24) (by decide) rfl rfl (Nat.le_of_ble_eq_true rfl) ?_
        refine mx_iconst ((-1)) (mx_d tX5_readSet_1 10 rfl) (by decide) ?_
        refine mx_icmp_eq (tgt := 135) (mx_d tX5_readSet_1 11 rfl) (by decide) (fun hc25 => ?_) (fun hc25 => ?_)
        · rw [if_pos hc25] at h
          refine mx_aload_n (mx_d tX5_readSet_1 16 rfl) rfl rfl ?_
          refine mx_getR (mx_d tX5_readSet_1 17 rfl) fX5_12 rfl rfl (ly5_o h0) (ly5_r0 h0) ?_
          refine mx_iload_n (mx_d tX5_readSet_1 18 rfl) rfl rfl ?_
          refine mx_iload_n (mx_d tX5_readSet_1 19 rfl) rfl rfl ?_
          obtain ⟨r26, h_r26, h⟩ := Option.bind_eq_some_iff.mp h
          refine mx_cVv (mx_d tX5_readSet_1 20 rfl) iX5_121 rfl vX4_addSet ⟨_, rfl, rfl⟩ (ly4_o (ly5_s0 h0)) (CX4_addSet (ly5_s0 h0) h_r26) (by decide) rfl rfl (Nat.le_of_ble_eq_true rfl) ?_
          refine mx_iconst (1) (mx_d tX5_readSet_1 21 rfl) (by decide) ?_
          obtain rfl := Option.some.inj h
          exact mx_zreturn (mx_d tX5_readSet_1 22 rfl) rfl rfl ⟨rfl, rfl⟩
        · rw [if_neg hc25] at h
          refine mx_aload_n (mx_d tX5_readSet_1 12 rfl) rfl rfl ?_
          refine mx_iconst (3) (mx_d tX5_readSet_1 13 rfl) (by decide) ?_
          obtain ⟨r27, h_r27, h⟩ := Option.bind_eq_some_iff.mp h
          refine mx_cVi (mx_d tX5_readSet_1 14 rfl) iX5_56 rfl vX10_fail ⟨_, rfl, rfl⟩ (ly10_o h1) (CX10_fail h1 h_r27) (by decide) rfl rfl (Nat.le_of_ble_eq_true rfl) ?_
          obtain ⟨hb28, h⟩ := mx_chkE h
          obtain rfl := Option.some.inj h
          exact mx_zreturn (mx_d tX5_readSet_1 15 rfl) rfl (mx_nb (mx_b01E hb28)) ⟨rfl, rfl⟩
  · rw [if_pos hc3] at h
    refine mx_iconst (0) (mx_d tX5_readSet_0 10 rfl) (by decide) ?_
    obtain rfl := Option.some.inj h
    exact mx_zreturn (mx_d tX5_readSet_0 11 rfl) rfl rfl ⟨rfl, rfl⟩
def FX5_readLine (a : Nat) (p0 : Nat) (m : mB) : Option (Int32 × mB) := Option.bind (FX10_kind p0 m) (fun r1 => (if r1 = 100 then Option.bind (FX4_points (a + 1) m) (fun r3 => (if 10 ≤ r3 then Option.bind (FX10_fail p0 4 m) (fun r5 => mx_chk (mx_b01 r5.1) ((some (r5.1, r5.2)))) else Option.bind (FX5_readPoint a p0 m) (fun r7 => mx_chk (mx_b01 r7.1) ((some (r7.1, r7.2)))))) else if r1 = 101 then Option.bind (FX4_links (a + 1) m) (fun r10 => (if 30 ≤ r10 then Option.bind (FX10_fail p0 4 m) (fun r12 => mx_chk (mx_b01 r12.1) ((some (r12.1, r12.2)))) else Option.bind (FX5_readLink a p0 m) (fun r14 => mx_chk (mx_b01 r14.1) ((some (r14.1, r14.2)))))) else if r1 = 102 then Option.bind (FX5_readPair a p0 m) (fun r17 => mx_chk (mx_b01 r17.1) ((some (r17.1, r17.2)))) else if r1 = 103 then Option.bind (FX5_readPrice a p0 m) (fun r20 => mx_chk (mx_b01 r20.1) ((some (r20.1, r20.2)))) else if r1 = 104 then Option.bind (FX4_sets (a + 1) m) (fun r23 => (if 6 ≤ r23 then Option.bind (FX10_fail p0 4 m) (fun r25 => mx_chk (mx_b01 r25.1) ((some (r25.1, r25.2)))) else Option.bind (FX5_readSet a p0 m) (fun r27 => mx_chk (mx_b01 r27.1) ((some (r27.1, r27.2)))))) else Option.bind (FX10_fail p0 1 m) (fun r29 => mx_chk (mx_b01 r29.1) ((some (r29.1, r29.2))))))
set_option maxRecDepth 20000 in
theorem CX5_readLine {G : mG} {l : Launch} {e : mE} {a : Nat} {p0 : Nat} {m : mB} {r : (Int32 × mB)} (h0 : ly5 e a) (h1 : ly10 e p0) (h : FX5_readLine a p0 m = some r) : mx_Call G l MX5_readLine 5 0 0 [.ref a, .ref p0] (e, m) (fun v z => v = some (.int r.1) ∧ z = (e, r.2)) := by
  refine mx_entry (L := [.ref a, .ref p0]) (by decide +kernel) (Nat.le_of_ble_eq_true rfl) rfl ?_
  unfold FX5_readLine at h
  refine mx_aload_n (mx_d tX5_readLine_0 0 rfl) rfl rfl ?_
  obtain ⟨r1, h_r1, h⟩ := Option.bind_eq_some_iff.mp h
  refine mx_cVi (mx_d tX5_readLine_0 1 rfl) iX5_34 rfl vX10_kind ⟨_, rfl, rfl⟩ (ly10_o h1) (CX10_kind h1 h_r1) (by decide) rfl rfl (Nat.le_of_ble_eq_true rfl) ?_
  by_cases hc2 : r1 = 100
  · rw [if_pos hc2] at h
    refine mx_tableIn (tgt := 40) (mx_d tX5_readLine_0 2 rfl) (by rw [hc2]; decide) (by rw [hc2]; decide) (by rw [hc2]; rfl) (by decide) ?_
    refine mx_aload_n (mx_d tX5_readLine_0 3 rfl) rfl rfl ?_
    refine mx_getR (mx_d tX5_readLine_0 4 rfl) fX5_12 rfl rfl (ly5_o h0) (ly5_r0 h0) ?_
    obtain ⟨r3, h_r3, h⟩ := Option.bind_eq_some_iff.mp h
    refine mx_cVi (mx_d tX5_readLine_0 5 rfl) iX5_50 rfl vX4_points ⟨_, rfl, rfl⟩ (ly4_o (ly5_s0 h0)) (CX4_points (ly5_s0 h0) h_r3) (by decide) rfl rfl (Nat.le_of_ble_eq_true rfl) ?_
    refine mx_bipush (10) (mx_d tX5_readLine_0 6 rfl) (by decide) ?_
    refine mx_icmp_ge (tgt := 60) (mx_d tX5_readLine_0 7 rfl) (by decide) (fun hc4 => ?_) (fun hc4 => ?_)
    · rw [if_pos hc4] at h
      refine mx_aload_n (mx_d tX5_readLine_0 12 rfl) rfl rfl ?_
      refine mx_iconst (4) (mx_d tX5_readLine_0 13 rfl) (by decide) ?_
      obtain ⟨r5, h_r5, h⟩ := Option.bind_eq_some_iff.mp h
      refine mx_cVi (mx_d tX5_readLine_0 14 rfl) iX5_56 rfl vX10_fail ⟨_, rfl, rfl⟩ (ly10_o h1) (CX10_fail h1 h_r5) (by decide) rfl rfl (Nat.le_of_ble_eq_true rfl) ?_
      obtain ⟨hb6, h⟩ := mx_chkE h
      obtain rfl := Option.some.inj h
      exact mx_zreturn (mx_d tX5_readLine_0 15 rfl) rfl (mx_nb (mx_b01E hb6)) ⟨rfl, rfl⟩
    · rw [if_neg hc4] at h
      refine mx_aload_n (mx_d tX5_readLine_0 8 rfl) rfl rfl ?_
      refine mx_aload_n (mx_d tX5_readLine_0 9 rfl) rfl rfl ?_
      obtain ⟨r7, h_r7, h⟩ := Option.bind_eq_some_iff.mp h
      refine mx_cVi (mx_d tX5_readLine_0 10 rfl) iX5_53 rfl vX5_readPoint ⟨_, rfl, rfl⟩ (ly5_o h0) (CX5_readPoint h0 h1 h_r7) (by decide) rfl rfl (Nat.le_of_ble_eq_true rfl) ?_
      refine mx_goto (tgt := 65) (mx_d tX5_readLine_0 11 rfl) (by decide) ?_
      obtain ⟨hb8, h⟩ := mx_chkE h
      obtain rfl := Option.some.inj h
      exact mx_zreturn (mx_d tX5_readLine_0 15 rfl) rfl (mx_nb (mx_b01E hb8)) ⟨rfl, rfl⟩
  · rw [if_neg hc2] at h
    by_cases hc9 : r1 = 101
    · rw [if_pos hc9] at h
      refine mx_tableIn (tgt := 66) (mx_d tX5_readLine_0 2 rfl) (by rw [hc9]; decide) (by rw [hc9]; decide) (by rw [hc9]; rfl) (by decide) ?_
      refine mx_aload_n (mx_d tX5_readLine_0 16 rfl) rfl rfl ?_
      refine mx_getR (mx_d tX5_readLine_0 17 rfl) fX5_12 rfl rfl (ly5_o h0) (ly5_r0 h0) ?_
      obtain ⟨r10, h_r10, h⟩ := Option.bind_eq_some_iff.mp h
      refine mx_cVi (mx_d tX5_readLine_0 18 rfl) iX5_59 rfl vX4_links ⟨_, rfl, rfl⟩ (ly4_o (ly5_s0 h0)) (CX4_links (ly5_s0 h0) h_r10) (by decide) rfl rfl (Nat.le_of_ble_eq_true rfl) ?_
      refine mx_bipush (30) (mx_d tX5_readLine_0 19 rfl) (by decide) ?_
      refine mx_icmp_ge (tgt := 86) (mx_d tX5_readLine_0 20 rfl) (by decide) (fun hc11 => ?_) (fun hc11 => ?_)
      · rw [if_pos hc11] at h
        refine mx_aload_n (mx_d tX5_readLine_0 25 rfl) rfl rfl ?_
        refine mx_iconst (4) (mx_d tX5_readLine_0 26 rfl) (by decide) ?_
        obtain ⟨r12, h_r12, h⟩ := Option.bind_eq_some_iff.mp h
        refine mx_cVi (mx_d tX5_readLine_0 27 rfl) iX5_56 rfl vX10_fail ⟨_, rfl, rfl⟩ (ly10_o h1) (CX10_fail h1 h_r12) (by decide) rfl rfl (Nat.le_of_ble_eq_true rfl) ?_
        obtain ⟨hb13, h⟩ := mx_chkE h
        obtain rfl := Option.some.inj h
        exact mx_zreturn (mx_d tX5_readLine_0 28 rfl) rfl (mx_nb (mx_b01E hb13)) ⟨rfl, rfl⟩
      · rw [if_neg hc11] at h
        refine mx_aload_n (mx_d tX5_readLine_0 21 rfl) rfl rfl ?_
        refine mx_aload_n (mx_d tX5_readLine_0 22 rfl) rfl rfl ?_
        obtain ⟨r14, h_r14, h⟩ := Option.bind_eq_some_iff.mp h
        refine mx_cVi (mx_d tX5_readLine_0 23 rfl) iX5_62 rfl vX5_readLink ⟨_, rfl, rfl⟩ (ly5_o h0) (CX5_readLink h0 h1 h_r14) (by decide) rfl rfl (Nat.le_of_ble_eq_true rfl) ?_
        refine mx_goto (tgt := 91) (mx_d tX5_readLine_0 24 rfl) (by decide) ?_
        obtain ⟨hb15, h⟩ := mx_chkE h
        obtain rfl := Option.some.inj h
        exact mx_zreturn (mx_d tX5_readLine_0 28 rfl) rfl (mx_nb (mx_b01E hb15)) ⟨rfl, rfl⟩
    · rw [if_neg hc9] at h
      by_cases hc16 : r1 = 102
      · rw [if_pos hc16] at h
        refine mx_tableIn (tgt := 92) (mx_d tX5_readLine_0 2 rfl) (by rw [hc16]; decide) (by rw [hc16]; decide) (by rw [hc16]; rfl) (by decide) ?_
        refine mx_aload_n (mx_d tX5_readLine_0 29 rfl) rfl rfl ?_
        refine mx_aload_n (mx_d tX5_readLine_0 30 rfl) rfl rfl ?_
        obtain ⟨r17, h_r17, h⟩ := Option.bind_eq_some_iff.mp h
        refine mx_cVi (mx_d tX5_readLine_0 31 rfl) iX5_65 rfl vX5_readPair ⟨_, rfl, rfl⟩ (ly5_o h0) (CX5_readPair h0 h1 h_r17) (by decide) rfl rfl (Nat.le_of_ble_eq_true rfl) ?_
        obtain ⟨hb18, h⟩ := mx_chkE h
        obtain rfl := Option.some.inj h
        exact mx_zreturn (mx_d tX5_readLine_0 32 rfl) rfl (mx_nb (mx_b01E hb18)) ⟨rfl, rfl⟩
      · rw [if_neg hc16] at h
        by_cases hc19 : r1 = 103
        · rw [if_pos hc19] at h
          refine mx_tableIn (tgt := 98) (mx_d tX5_readLine_0 2 rfl) (by rw [hc19]; decide) (by rw [hc19]; decide) (by rw [hc19]; rfl) (by decide) ?_
          refine mx_aload_n (mx_d tX5_readLine_0 33 rfl) rfl rfl ?_
          refine mx_aload_n (mx_d tX5_readLine_0 34 rfl) rfl rfl ?_
          obtain ⟨r20, h_r20, h⟩ := Option.bind_eq_some_iff.mp h
          refine mx_cVi (mx_d tX5_readLine_0 35 rfl) iX5_68 rfl vX5_readPrice ⟨_, rfl, rfl⟩ (ly5_o h0) (CX5_readPrice h0 h1 h_r20) (by decide) rfl rfl (Nat.le_of_ble_eq_true rfl) ?_
          obtain ⟨hb21, h⟩ := mx_chkE h
          obtain rfl := Option.some.inj h
          exact mx_zreturn (mx_d tX5_readLine_0 36 rfl) rfl (mx_nb (mx_b01E hb21)) ⟨rfl, rfl⟩
        · rw [if_neg hc19] at h
          by_cases hc22 : r1 = 104
          · rw [if_pos hc22] at h
            refine mx_tableIn (tgt := 104) (mx_d tX5_readLine_0 2 rfl) (by rw [hc22]; decide) (by rw [hc22]; decide) (by rw [hc22]; rfl) (by decide) ?_
            refine mx_aload_n (mx_d tX5_readLine_0 37 rfl) rfl rfl ?_
            refine mx_getR (mx_d tX5_readLine_0 38 rfl) fX5_12 rfl rfl (ly5_o h0) (ly5_r0 h0) ?_
            obtain ⟨r23, h_r23, h⟩ := Option.bind_eq_some_iff.mp h
            refine mx_cVi (mx_d tX5_readLine_0 39 rfl) iX5_71 rfl vX4_sets ⟨_, rfl, rfl⟩ (ly4_o (ly5_s0 h0)) (CX4_sets (ly5_s0 h0) h_r23) (by decide) rfl rfl (Nat.le_of_ble_eq_true rfl) ?_
            refine mx_bipush (6) (mx_d tX5_readLine_0 40 rfl) (by decide) ?_
            refine mx_icmp_ge (tgt := 124) (mx_d tX5_readLine_0 41 rfl) (by decide) (fun hc24 => ?_) (fun hc24 => ?_)
            · rw [if_pos hc24] at h
              refine mx_aload_n (mx_d tX5_readLine_0 46 rfl) rfl rfl ?_
              refine mx_iconst (4) (mx_d tX5_readLine_0 47 rfl) (by decide) ?_
              obtain ⟨r25, h_r25, h⟩ := Option.bind_eq_some_iff.mp h
              refine mx_cVi (mx_d tX5_readLine_0 48 rfl) iX5_56 rfl vX10_fail ⟨_, rfl, rfl⟩ (ly10_o h1) (CX10_fail h1 h_r25) (by decide) rfl rfl (Nat.le_of_ble_eq_true rfl) ?_
              obtain ⟨hb26, h⟩ := mx_chkE h
              obtain rfl := Option.some.inj h
              exact mx_zreturn (mx_d tX5_readLine_0 49 rfl) rfl (mx_nb (mx_b01E hb26)) ⟨rfl, rfl⟩
            · rw [if_neg hc24] at h
              refine mx_aload_n (mx_d tX5_readLine_0 42 rfl) rfl rfl ?_
              refine mx_aload_n (mx_d tX5_readLine_0 43 rfl) rfl rfl ?_
              obtain ⟨r27, h_r27, h⟩ := Option.bind_eq_some_iff.mp h
              refine mx_cVi (mx_d tX5_readLine_0 44 rfl) iX5_74 rfl vX5_readSet ⟨_, rfl, rfl⟩ (ly5_o h0) (CX5_readSet h0 h1 h_r27) (by decide) rfl rfl (Nat.le_of_ble_eq_true rfl) ?_
              refine mx_goto (tgt := 129) (mx_d tX5_readLine_0 45 rfl) (by decide) ?_
              obtain ⟨hb28, h⟩ := mx_chkE h
              obtain rfl := Option.some.inj h
              exact mx_zreturn (mx_d tX5_readLine_0 49 rfl) rfl (mx_nb (mx_b01E hb28)) ⟨rfl, rfl⟩
          · rw [if_neg hc22] at h
            have z_hc2 := lv_neT hc2 (a := 100) (by decide)
            have z_hc9 := lv_neT hc9 (a := 101) (by decide)
            have z_hc16 := lv_neT hc16 (a := 102) (by decide)
            have z_hc19 := lv_neT hc19 (a := 103) (by decide)
            have z_hc22 := lv_neT hc22 (a := 104) (by decide)
            refine mx_tableOut (tgt := 130) (mx_d tX5_readLine_0 2 rfl) (by omega) (by decide) ?_
            refine mx_aload_n (mx_d tX5_readLine_0 50 rfl) rfl rfl ?_
            refine mx_iconst (1) (mx_d tX5_readLine_0 51 rfl) (by decide) ?_
            obtain ⟨r29, h_r29, h⟩ := Option.bind_eq_some_iff.mp h
            refine mx_cVi (mx_d tX5_readLine_0 52 rfl) iX5_56 rfl vX10_fail ⟨_, rfl, rfl⟩ (ly10_o h1) (CX10_fail h1 h_r29) (by decide) rfl rfl (Nat.le_of_ble_eq_true rfl) ?_
            obtain ⟨hb30, h⟩ := mx_chkE h
            obtain rfl := Option.some.inj h
            exact mx_zreturn (mx_d tX5_readLine_0 53 rfl) rfl (mx_nb (mx_b01E hb30)) ⟨rfl, rfl⟩
def FX5_read_L24 (q0 : Nat) (q1 : Nat) : Nat → mB → Option ((Int32 × mB) ⊕ (mB))
  | 0, _ => none
  | f + 1, m => (if 940 ≤ (m.1 q0 1) then (some (.inr m)) else Option.bind (FX10_kind q1 m) (fun r6 => (if r6 = 0 then (some (.inr m)) else Option.bind (FX5_readLine q0 q1 m) (fun r8 => (if r8.1 = 0 then (some (.inl (0, r8.2))) else Option.bind (FX10_take q1 59 r8.2) (fun r10 => (if r10.1 = 0 then (some (.inl (0, r10.2))) else mx_let (mx_up r10.2.1 q0 1 ((r10.2.1 q0 1) + 1), r10.2.2) (fun m12 => (FX5_read_L24 q0 q1 f  m12)))))))))
set_option maxRecDepth 20000 in
theorem CX5_read_L24 {G : mG} {l : Launch} {e : mE} {Post : Option Value → mS → Prop} {q0 : Nat} {q1 : Nat} (g0 : ly5 e q0) (g1 : ly10 e q1) : ∀ (f : Nat)  {m : mB} {q : ((Int32 × mB) ⊕ (mB))}, FX5_read_L24 q0 q1 f m = some q → (∀ rr, q = .inl rr → Post (some (.int rr.1)) (e, rr.2)) → (∀ u, q = .inr u → mx_Fr G l MX5_read 6 0 0 Post 73 [.float 0, .ref q1] [] (e, u)) → mx_Fr G l MX5_read 6 0 0 Post 24 [.ref q0, .ref q1] [] (e, m) := by
  intro f
  induction f with
  | zero => intro _ _ h; cases h
  | succ f ih =>
    intro m q h hret hex
    rw [FX5_read_L24] at h
    refine mx_aload_n (mx_d tX5_read_0 12 rfl) rfl rfl ?_
    refine mx_getI (mx_d tX5_read_0 13 rfl) fX5_18 rfl (Or.inl rfl) (ly5_o g0) ?_
    refine mx_sipush (940) (mx_d tX5_read_0 14 rfl) (by decide) ?_
    refine mx_icmp_ge (tgt := 73) (mx_d tX5_read_0 15 rfl) (by decide) (fun hc5 => ?_) (fun hc5 => ?_)
    · rw [if_pos hc5] at h
      obtain rfl := Option.some.inj h
      refine mx_forget (L' := [.float 0, .ref q1]) ⟨rfl, trivial⟩ ?_
      exact (hex _ rfl)
    · rw [if_neg hc5] at h
      refine mx_aload_n (mx_d tX5_read_0 16 rfl) rfl rfl ?_
      obtain ⟨r6, h_r6, h⟩ := Option.bind_eq_some_iff.mp h
      refine mx_cVi (mx_d tX5_read_0 17 rfl) iX5_34 rfl vX10_kind ⟨_, rfl, rfl⟩ (ly10_o g1) (CX10_kind g1 h_r6) (by decide) rfl rfl (Nat.le_of_ble_eq_true rfl) ?_
      refine mx_if_eq (tgt := 73) (mx_d tX5_read_0 18 rfl) (by decide) (fun hc7 => ?_) (fun hc7 => ?_)
      · rw [if_pos hc7] at h
        obtain rfl := Option.some.inj h
        refine mx_forget (L' := [.float 0, .ref q1]) ⟨rfl, trivial⟩ ?_
        exact (hex _ rfl)
      · rw [if_neg hc7] at h
        refine mx_aload_n (mx_d tX5_read_0 19 rfl) rfl rfl ?_
        refine mx_aload_n (mx_d tX5_read_0 20 rfl) rfl rfl ?_
        obtain ⟨r8, h_r8, h⟩ := Option.bind_eq_some_iff.mp h
        refine mx_cVi (mx_d tX5_read_0 21 rfl) iX5_38 rfl vX5_readLine ⟨_, rfl, rfl⟩ (ly5_o g0) (CX5_readLine g0 g1 h_r8) (by decide) rfl rfl (Nat.le_of_ble_eq_true rfl) ?_
        refine mx_if_eq (tgt := 58) (mx_d tX5_read_0 22 rfl) (by decide) (fun hc9 => ?_) (fun hc9 => ?_)
        · rw [if_pos hc9] at h
          refine mx_iconst (0) (mx_d tX5_read_0 27 rfl) (by decide) ?_
          obtain rfl := Option.some.inj h
          exact mx_zreturn (mx_d tX5_read_0 28 rfl) rfl rfl (hret _ rfl)
        · rw [if_neg hc9] at h
          refine mx_aload_n (mx_d tX5_read_0 23 rfl) rfl rfl ?_
          refine mx_bipush (59) (mx_d tX5_read_0 24 rfl) (by decide) ?_
          obtain ⟨r10, h_r10, h⟩ := Option.bind_eq_some_iff.mp h
          refine mx_cVi (mx_d tX5_read_0 25 rfl) iX5_42 rfl vX10_take ⟨_, rfl, rfl⟩ (ly10_o g1) (CX10_take g1 h_r10) (by decide) rfl rfl (Nat.le_of_ble_eq_true rfl) ?_
          refine mx_if_ne (tgt := 60) (mx_d tX5_read_0 26 rfl) (by decide) (fun hc11 => ?_) (fun hc11 => ?_)
          · rw [if_neg hc11] at h
            refine mx_aload_n (mx_d tX5_read_0 29 rfl) rfl rfl ?_
            refine mx_dup (mx_d tX5_read_0 30 rfl) rfl ?_
            refine mx_getI (mx_d tX5_read_0 31 rfl) fX5_18 rfl (Or.inl rfl) (ly5_o g0) ?_
            refine mx_iconst (1) (mx_d tX5_read_0 32 rfl) (by decide) ?_
            refine mx_iadd (mx_d tX5_read_0 33 rfl) ?_
            obtain ⟨m12, e_m12, h⟩ := mx_letE h
            refine mx_putI (mx_d tX5_read_0 34 rfl) fX5_18 rfl ⟨_, rfl, rfl⟩ rfl (ly5_o g0) (mx_eqz (z' := (e, m12)) (by rw [e_m12]) ?_)
            refine mx_goto (tgt := 24) (mx_d tX5_read_0 35 rfl) (by decide) ?_
            exact ih h hret hex
          · rw [if_pos hc11] at h
            refine mx_iconst (0) (mx_d tX5_read_0 27 rfl) (by decide) ?_
            obtain rfl := Option.some.inj h
            exact mx_zreturn (mx_d tX5_read_0 28 rfl) rfl rfl (hret _ rfl)
def FX5_read (a : Nat) (p0 : Nat) (m : mB) : Option (Int32 × mB) := Option.bind (FX4_clear (a + 1) m) (fun r1 => mx_let (mx_up r1.1 a 2 0, r1.2) (fun m2 => Option.bind (FX10_begin p0 900 m2) (fun r3 => mx_let (mx_up r3.1 a 1 0, r3.2) (fun m4 => Option.bind (FX5_read_L24 a p0 mx_FU  m4) (fun q13 => Sum.elim (fun rr => some rr) (fun u14 => Option.bind (FX10_endsHere p0 u14) (fun r16 => mx_chk (mx_b01 r16.1) ((some (r16.1, r16.2))))) q13)))))
set_option maxRecDepth 20000 in
theorem CX5_read {G : mG} {l : Launch} {e : mE} {a : Nat} {p0 : Nat} {m : mB} {r : (Int32 × mB)} (h0 : ly5 e a) (h1 : ly10 e p0) (h : FX5_read a p0 m = some r) : mx_Call G l MX5_read 6 0 0 [.ref a, .ref p0] (e, m) (fun v z => v = some (.int r.1) ∧ z = (e, r.2)) := by
  refine mx_entry (L := [.ref a, .ref p0]) (by decide +kernel) (Nat.le_of_ble_eq_true rfl) rfl ?_
  unfold FX5_read at h
  refine mx_aload_n (mx_d tX5_read_0 0 rfl) rfl rfl ?_
  refine mx_getR (mx_d tX5_read_0 1 rfl) fX5_12 rfl rfl (ly5_o h0) (ly5_r0 h0) ?_
  obtain ⟨r1, h_r1, h⟩ := Option.bind_eq_some_iff.mp h
  refine mx_cVv (mx_d tX5_read_0 2 rfl) iX5_22 rfl vX4_clear ⟨_, rfl, rfl⟩ (ly4_o (ly5_s0 h0)) (CX4_clear (ly5_s0 h0) h_r1) (by decide) rfl rfl (Nat.le_of_ble_eq_true rfl) ?_
  refine mx_aload_n (mx_d tX5_read_0 3 rfl) rfl rfl ?_
  refine mx_iconst (0) (mx_d tX5_read_0 4 rfl) (by decide) ?_
  obtain ⟨m2, e_m2, h⟩ := mx_letE h
  refine mx_putI (mx_d tX5_read_0 5 rfl) fX5_25 rfl ⟨_, rfl, rfl⟩ rfl (ly5_o h0) (mx_eqz (z' := (e, m2)) (by rw [e_m2]) ?_)
  refine mx_aload_n (mx_d tX5_read_0 6 rfl) rfl rfl ?_
  refine mx_sipush (900) (mx_d tX5_read_0 7 rfl) (by decide) ?_
  obtain ⟨r3, h_r3, h⟩ := Option.bind_eq_some_iff.mp h
  refine mx_cVv (mx_d tX5_read_0 8 rfl) iX5_28 rfl vX10_begin ⟨_, rfl, rfl⟩ (ly10_o h1) (CX10_begin h1 h_r3) (by decide) rfl rfl (Nat.le_of_ble_eq_true rfl) ?_
  refine mx_aload_n (mx_d tX5_read_0 9 rfl) rfl rfl ?_
  refine mx_iconst (0) (mx_d tX5_read_0 10 rfl) (by decide) ?_
  obtain ⟨m4, e_m4, h⟩ := mx_letE h
  refine mx_putI (mx_d tX5_read_0 11 rfl) fX5_18 rfl ⟨_, rfl, rfl⟩ rfl (ly5_o h0) (mx_eqz (z' := (e, m4)) (by rw [e_m4]) ?_)
  obtain ⟨q13, h_q13, h⟩ := Option.bind_eq_some_iff.mp h
  refine CX5_read_L24 h0 h1 mx_FU h_q13 (fun rr15 e_rr15 => ?_) (fun u14 e_u14 => ?_)
  · subst e_rr15
    rw [Sum.elim_inl] at h
    obtain rfl := Option.some.inj h
    exact ⟨rfl, rfl⟩
  · subst e_u14
    rw [Sum.elim_inr] at h
    refine mx_aload_n (mx_d tX5_read_0 36 rfl) rfl rfl ?_
    obtain ⟨r16, h_r16, h⟩ := Option.bind_eq_some_iff.mp h
    refine mx_cVi (mx_d tX5_read_0 37 rfl) iX5_46 rfl vX10_endsHere ⟨_, rfl, rfl⟩ (ly10_o h1) (CX10_endsHere h1 h_r16) (by decide) rfl rfl (Nat.le_of_ble_eq_true rfl) ?_
    obtain ⟨hb17, h⟩ := mx_chkE h
    obtain rfl := Option.some.inj h
    exact mx_zreturn (mx_d tX5_read_0 38 rfl) rfl (mx_nb (mx_b01E hb17)) ⟨rfl, rfl⟩
def FX8_copyFrom (a : Nat) (p0 : Nat) (m : mB) : Option mB := mx_let (mx_up m.1 a 4 (m.1 p0 4), m.2) (fun m1 => mx_let (mx_up m1.1 a 5 (m1.1 p0 5), m1.2) (fun m2 => mx_chk (mx_b01 (m2.1 p0 6)) (mx_let (mx_up m2.1 a 6 (m2.1 p0 6), m2.2) (fun m3 => mx_let (mx_cp m3.1 (p0 + 1) (a + 1) 40, m3.2) (fun m5 => mx_let (mx_cp m5.1 (p0 + 2) (a + 2) 40, m5.2) (fun m6 => mx_let (mx_cp m6.1 (p0 + 3) (a + 3) 40, m6.2) (fun m7 => (some m7))))))))
set_option maxRecDepth 20000 in
theorem CX8_copyFrom {G : mG} {l : Launch} {e : mE} {a : Nat} {p0 : Nat} {m : mB} {r : mB} (h0 : ly8 e a) (h1 : ly8 e p0) (h : FX8_copyFrom a p0 m = some r) : mx_Call G l MX8_copyFrom 1 0 0 [.ref a, .ref p0] (e, m) (fun v z => v = none ∧ z = (e, r)) := by
  refine mx_entry (L := [.ref a, .ref p0]) (by decide +kernel) (Nat.le_of_ble_eq_true rfl) rfl ?_
  unfold FX8_copyFrom at h
  refine mx_aload_n (mx_d tX8_copyFrom_0 0 rfl) rfl rfl ?_
  refine mx_aload_n (mx_d tX8_copyFrom_0 1 rfl) rfl rfl ?_
  refine mx_getI (mx_d tX8_copyFrom_0 2 rfl) fX8_32 rfl (Or.inl rfl) (ly8_o h1) ?_
  obtain ⟨m1, e_m1, h⟩ := mx_letE h
  refine mx_putI (mx_d tX8_copyFrom_0 3 rfl) fX8_32 rfl ⟨_, rfl, rfl⟩ rfl (ly8_o h0) (mx_eqz (z' := (e, m1)) (by rw [e_m1]) ?_)
  refine mx_aload_n (mx_d tX8_copyFrom_0 4 rfl) rfl rfl ?_
  refine mx_aload_n (mx_d tX8_copyFrom_0 5 rfl) rfl rfl ?_
  refine mx_getI (mx_d tX8_copyFrom_0 6 rfl) fX8_28 rfl (Or.inl rfl) (ly8_o h1) ?_
  obtain ⟨m2, e_m2, h⟩ := mx_letE h
  refine mx_putI (mx_d tX8_copyFrom_0 7 rfl) fX8_28 rfl ⟨_, rfl, rfl⟩ rfl (ly8_o h0) (mx_eqz (z' := (e, m2)) (by rw [e_m2]) ?_)
  refine mx_aload_n (mx_d tX8_copyFrom_0 8 rfl) rfl rfl ?_
  refine mx_aload_n (mx_d tX8_copyFrom_0 9 rfl) rfl rfl ?_
  refine mx_getI (mx_d tX8_copyFrom_0 10 rfl) fX8_24 rfl (Or.inr rfl) (ly8_o h1) ?_
  obtain ⟨hb4, h⟩ := mx_chkE h
  obtain ⟨m3, e_m3, h⟩ := mx_letE h
  refine mx_putZ (mx_d tX8_copyFrom_0 11 rfl) fX8_24 rfl ⟨_, rfl, rfl⟩ rfl (mx_b01E hb4) (ly8_o h0) (mx_eqz (z' := (e, m3)) (by rw [e_m3]) ?_)
  refine mx_aload_n (mx_d tX8_copyFrom_0 12 rfl) rfl rfl ?_
  refine mx_getR (mx_d tX8_copyFrom_0 13 rfl) fX8_9 rfl rfl (ly8_o h1) (ly8_r0 h1) ?_
  refine mx_iconst (0) (mx_d tX8_copyFrom_0 14 rfl) (by decide) ?_
  refine mx_aload_n (mx_d tX8_copyFrom_0 15 rfl) rfl rfl ?_
  refine mx_getR (mx_d tX8_copyFrom_0 16 rfl) fX8_9 rfl rfl (ly8_o h0) (ly8_r0 h0) ?_
  refine mx_iconst (0) (mx_d tX8_copyFrom_0 17 rfl) (by decide) ?_
  refine mx_bipush (40) (mx_d tX8_copyFrom_0 18 rfl) (by decide) ?_
  obtain ⟨m5, e_m5, h⟩ := mx_letE h
  refine mx_copyI (mx_d tX8_copyFrom_0 19 rfl) aX8_35 rfl (ly8_s0 h1) (ly8_s0 h0) (by decide) (by decide) (by decide) (Nat.le_of_ble_eq_true rfl) (mx_eqz (z' := (e, m5)) (by rw [e_m5]) ?_)
  refine mx_aload_n (mx_d tX8_copyFrom_0 20 rfl) rfl rfl ?_
  refine mx_getR (mx_d tX8_copyFrom_0 21 rfl) fX8_15 rfl rfl (ly8_o h1) (ly8_r1 h1) ?_
  refine mx_iconst (0) (mx_d tX8_copyFrom_0 22 rfl) (by decide) ?_
  refine mx_aload_n (mx_d tX8_copyFrom_0 23 rfl) rfl rfl ?_
  refine mx_getR (mx_d tX8_copyFrom_0 24 rfl) fX8_15 rfl rfl (ly8_o h0) (ly8_r1 h0) ?_
  refine mx_iconst (0) (mx_d tX8_copyFrom_0 25 rfl) (by decide) ?_
  refine mx_bipush (40) (mx_d tX8_copyFrom_0 26 rfl) (by decide) ?_
  obtain ⟨m6, e_m6, h⟩ := mx_letE h
  refine mx_copyI (mx_d tX8_copyFrom_0 27 rfl) aX8_35 rfl (ly8_s1 h1) (ly8_s1 h0) (by decide) (by decide) (by decide) (Nat.le_of_ble_eq_true rfl) (mx_eqz (z' := (e, m6)) (by rw [e_m6]) ?_)
  refine mx_aload_n (mx_d tX8_copyFrom_0 28 rfl) rfl rfl ?_
  refine mx_getR (mx_d tX8_copyFrom_0 29 rfl) fX8_18 rfl rfl (ly8_o h1) (ly8_r2 h1) ?_
  refine mx_iconst (0) (mx_d tX8_copyFrom_0 30 rfl) (by decide) ?_
  refine mx_aload_n (mx_d tX8_copyFrom_0 31 rfl) rfl rfl ?_
  refine mx_getR (mx_d tX8_copyFrom_0 32 rfl) fX8_18 rfl rfl (ly8_o h0) (ly8_r2 h0) ?_
  refine mx_iconst (0) (mx_d tX8_copyFrom_0 33 rfl) (by decide) ?_
  refine mx_bipush (40) (mx_d tX8_copyFrom_0 34 rfl) (by decide) ?_
  obtain ⟨m7, e_m7, h⟩ := mx_letE h
  refine mx_copyI (mx_d tX8_copyFrom_0 35 rfl) aX8_35 rfl (ly8_s2 h1) (ly8_s2 h0) (by decide) (by decide) (by decide) (Nat.le_of_ble_eq_true rfl) (mx_eqz (z' := (e, m7)) (by rw [e_m7]) ?_)
  obtain rfl := Option.some.inj h
  exact mx_return (mx_d tX8_copyFrom_0 36 rfl) rfl ⟨rfl, rfl⟩
def FX6_take (a : Nat) (p0 : Nat) (p1 : Nat) (m : mB) : Option mB := Option.bind (FX4_copyFrom (a + 1) p0 m) (fun r1 => Option.bind (FX8_copyFrom (a + 12) p1 r1) (fun r2 => mx_let (mx_up r2.1 a 2 1, r2.2) (fun m3 => (some m3))))
set_option maxRecDepth 20000 in
theorem CX6_take {G : mG} {l : Launch} {e : mE} {a : Nat} {p0 : Nat} {p1 : Nat} {m : mB} {r : mB} (h0 : ly6 e a) (h1 : ly4 e p0) (h2 : ly8 e p1) (h : FX6_take a p0 p1 m = some r) : mx_Call G l MX6_take 3 0 0 [.ref a, .ref p0, .ref p1] (e, m) (fun v z => v = none ∧ z = (e, r)) := by
  refine mx_entry (L := [.ref a, .ref p0, .ref p1]) (by decide +kernel) (Nat.le_of_ble_eq_true rfl) rfl ?_
  unfold FX6_take at h
  refine mx_aload_n (mx_d tX6_take_0 0 rfl) rfl rfl ?_
  refine mx_getR (mx_d tX6_take_0 1 rfl) fX6_10 rfl rfl (ly6_o h0) (ly6_r0 h0) ?_
  refine mx_aload_n (mx_d tX6_take_0 2 rfl) rfl rfl ?_
  obtain ⟨r1, h_r1, h⟩ := Option.bind_eq_some_iff.mp h
  refine mx_cVv (mx_d tX6_take_0 3 rfl) iX6_23 rfl vX4_copyFrom ⟨_, rfl, rfl⟩ (ly4_o (ly6_s0 h0)) (CX4_copyFrom (ly6_s0 h0) h1 h_r1) (by decide) rfl rfl (Nat.le_of_ble_eq_true rfl) ?_
  refine mx_aload_n (mx_d tX6_take_0 4 rfl) rfl rfl ?_
  refine mx_getR (mx_d tX6_take_0 5 rfl) fX6_19 rfl rfl (ly6_o h0) (ly6_r1 h0) ?_
  refine mx_aload_n (mx_d tX6_take_0 6 rfl) rfl rfl ?_
  obtain ⟨r2, h_r2, h⟩ := Option.bind_eq_some_iff.mp h
  refine mx_cVv (mx_d tX6_take_0 7 rfl) iX6_27 rfl vX8_copyFrom ⟨_, rfl, rfl⟩ (ly8_o (ly6_s1 h0)) (CX8_copyFrom (ly6_s1 h0) h2 h_r2) (by decide) rfl rfl (Nat.le_of_ble_eq_true rfl) ?_
  refine mx_aload_n (mx_d tX6_take_0 8 rfl) rfl rfl ?_
  refine mx_iconst (1) (mx_d tX6_take_0 9 rfl) (by decide) ?_
  obtain ⟨m3, e_m3, h⟩ := mx_letE h
  refine mx_putZ (mx_d tX6_take_0 10 rfl) fX6_30 rfl ⟨_, rfl, rfl⟩ rfl (by decide) (ly6_o h0) (mx_eqz (z' := (e, m3)) (by rw [e_m3]) ?_)
  obtain rfl := Option.some.inj h
  exact mx_return (mx_d tX6_take_0 11 rfl) rfl ⟨rfl, rfl⟩
def FX6_giveBack (a : Nat) (p0 : Nat) (p1 : Nat) (m : mB) : Option (Int32 × mB) := (if (m.1 a 2) = 0 then mx_chk (mx_b01 (m.1 a 2)) ((some ((m.1 a 2), m))) else Option.bind (FX4_copyFrom p0 (a + 1) m) (fun r3 => Option.bind (FX8_copyFrom p1 (a + 12) r3) (fun r4 => mx_chk (mx_b01 (r4.1 a 2)) ((some ((r4.1 a 2), r4))))))
set_option maxRecDepth 20000 in
theorem CX6_giveBack {G : mG} {l : Launch} {e : mE} {a : Nat} {p0 : Nat} {p1 : Nat} {m : mB} {r : (Int32 × mB)} (h0 : ly6 e a) (h1 : ly4 e p0) (h2 : ly8 e p1) (h : FX6_giveBack a p0 p1 m = some r) : mx_Call G l MX6_giveBack 3 0 0 [.ref a, .ref p0, .ref p1] (e, m) (fun v z => v = some (.int r.1) ∧ z = (e, r.2)) := by
  refine mx_entry (L := [.ref a, .ref p0, .ref p1]) (by decide +kernel) (Nat.le_of_ble_eq_true rfl) rfl ?_
  unfold FX6_giveBack at h
  refine mx_aload_n (mx_d tX6_giveBack_0 0 rfl) rfl rfl ?_
  refine mx_getI (mx_d tX6_giveBack_0 1 rfl) fX6_30 rfl (Or.inr rfl) (ly6_o h0) ?_
  refine mx_if_eq (tgt := 23) (mx_d tX6_giveBack_0 2 rfl) (by decide) (fun hc1 => ?_) (fun hc1 => ?_)
  · rw [if_pos hc1] at h
    refine mx_aload_n (mx_d tX6_giveBack_0 11 rfl) rfl rfl ?_
    refine mx_getI (mx_d tX6_giveBack_0 12 rfl) fX6_30 rfl (Or.inr rfl) (ly6_o h0) ?_
    obtain ⟨hb2, h⟩ := mx_chkE h
    obtain rfl := Option.some.inj h
    exact mx_zreturn (mx_d tX6_giveBack_0 13 rfl) rfl (mx_nb (mx_b01E hb2)) ⟨rfl, rfl⟩
  · rw [if_neg hc1] at h
    refine mx_aload_n (mx_d tX6_giveBack_0 3 rfl) rfl rfl ?_
    refine mx_aload_n (mx_d tX6_giveBack_0 4 rfl) rfl rfl ?_
    refine mx_getR (mx_d tX6_giveBack_0 5 rfl) fX6_10 rfl rfl (ly6_o h0) (ly6_r0 h0) ?_
    obtain ⟨r3, h_r3, h⟩ := Option.bind_eq_some_iff.mp h
    refine mx_cVv (mx_d tX6_giveBack_0 6 rfl) iX6_23 rfl vX4_copyFrom ⟨_, rfl, rfl⟩ (ly4_o h1) (CX4_copyFrom h1 (ly6_s0 h0) h_r3) (by decide) rfl rfl (Nat.le_of_ble_eq_true rfl) ?_
    refine mx_aload_n (mx_d tX6_giveBack_0 7 rfl) rfl rfl ?_
    refine mx_aload_n (mx_d tX6_giveBack_0 8 rfl) rfl rfl ?_
    refine mx_getR (mx_d tX6_giveBack_0 9 rfl) fX6_19 rfl rfl (ly6_o h0) (ly6_r1 h0) ?_
    obtain ⟨r4, h_r4, h⟩ := Option.bind_eq_some_iff.mp h
    refine mx_cVv (mx_d tX6_giveBack_0 10 rfl) iX6_27 rfl vX8_copyFrom ⟨_, rfl, rfl⟩ (ly8_o h2) (CX8_copyFrom h2 (ly6_s1 h0) h_r4) (by decide) rfl rfl (Nat.le_of_ble_eq_true rfl) ?_
    refine mx_aload_n (mx_d tX6_giveBack_0 11 rfl) rfl rfl ?_
    refine mx_getI (mx_d tX6_giveBack_0 12 rfl) fX6_30 rfl (Or.inr rfl) (ly6_o h0) ?_
    obtain ⟨hb5, h⟩ := mx_chkE h
    obtain rfl := Option.some.inj h
    exact mx_zreturn (mx_d tX6_giveBack_0 13 rfl) rfl (mx_nb (mx_b01E hb5)) ⟨rfl, rfl⟩
def FX8_stands (a : Nat) (m : mB) : Option Int32 := mx_chk (mx_b01 (m.1 a 6)) ((some (m.1 a 6)))
set_option maxRecDepth 20000 in
theorem CX8_stands {G : mG} {l : Launch} {e : mE} {a : Nat} {m : mB} {r : Int32} (h0 : ly8 e a) (h : FX8_stands a m = some r) : mx_Call G l MX8_stands 1 0 0 [.ref a] (e, m) (fun v z => v = some (.int r) ∧ z = (e, m)) := by
  refine mx_entry (L := [.ref a]) (by decide +kernel) (Nat.le_of_ble_eq_true rfl) rfl ?_
  unfold FX8_stands at h
  refine mx_aload_n (mx_d tX8_stands_0 0 rfl) rfl rfl ?_
  refine mx_getI (mx_d tX8_stands_0 1 rfl) fX8_24 rfl (Or.inr rfl) (ly8_o h0) ?_
  obtain ⟨hb1, h⟩ := mx_chkE h
  obtain rfl := Option.some.inj h
  exact mx_zreturn (mx_d tX8_stands_0 2 rfl) rfl (mx_nb (mx_b01E hb1)) ⟨rfl, rfl⟩
def FX8_ones (a : Nat) (m : mB) : Option Int32 := (some (m.1 a 5))
set_option maxRecDepth 20000 in
theorem CX8_ones {G : mG} {l : Launch} {e : mE} {a : Nat} {m : mB} {r : Int32} (h0 : ly8 e a) (h : FX8_ones a m = some r) : mx_Call G l MX8_ones 1 0 0 [.ref a] (e, m) (fun v z => v = some (.int r) ∧ z = (e, m)) := by
  refine mx_entry (L := [.ref a]) (by decide +kernel) (Nat.le_of_ble_eq_true rfl) rfl ?_
  unfold FX8_ones at h
  refine mx_aload_n (mx_d tX8_ones_0 0 rfl) rfl rfl ?_
  refine mx_getI (mx_d tX8_ones_0 1 rfl) fX8_28 rfl (Or.inl rfl) (ly8_o h0) ?_
  obtain rfl := Option.some.inj h
  exact mx_ireturn (mx_d tX8_ones_0 2 rfl) rfl ⟨rfl, rfl⟩
def FX8_clear (a : Nat) (m : mB) : Option mB := mx_let (mx_up m.1 a 6 0, m.2) (fun m1 => mx_let (mx_up m1.1 a 4 0, m1.2) (fun m2 => mx_let (mx_up m2.1 a 5 0, m2.2) (fun m3 => (some m3))))
set_option maxRecDepth 20000 in
theorem CX8_clear {G : mG} {l : Launch} {e : mE} {a : Nat} {m : mB} {r : mB} (h0 : ly8 e a) (h : FX8_clear a m = some r) : mx_Call G l MX8_clear 1 0 0 [.ref a] (e, m) (fun v z => v = none ∧ z = (e, r)) := by
  refine mx_entry (L := [.ref a]) (by decide +kernel) (Nat.le_of_ble_eq_true rfl) rfl ?_
  unfold FX8_clear at h
  refine mx_aload_n (mx_d tX8_clear_0 0 rfl) rfl rfl ?_
  refine mx_iconst (0) (mx_d tX8_clear_0 1 rfl) (by decide) ?_
  obtain ⟨m1, e_m1, h⟩ := mx_letE h
  refine mx_putZ (mx_d tX8_clear_0 2 rfl) fX8_24 rfl ⟨_, rfl, rfl⟩ rfl (by decide) (ly8_o h0) (mx_eqz (z' := (e, m1)) (by rw [e_m1]) ?_)
  refine mx_aload_n (mx_d tX8_clear_0 3 rfl) rfl rfl ?_
  refine mx_iconst (0) (mx_d tX8_clear_0 4 rfl) (by decide) ?_
  obtain ⟨m2, e_m2, h⟩ := mx_letE h
  refine mx_putI (mx_d tX8_clear_0 5 rfl) fX8_32 rfl ⟨_, rfl, rfl⟩ rfl (ly8_o h0) (mx_eqz (z' := (e, m2)) (by rw [e_m2]) ?_)
  refine mx_aload_n (mx_d tX8_clear_0 6 rfl) rfl rfl ?_
  refine mx_iconst (0) (mx_d tX8_clear_0 7 rfl) (by decide) ?_
  obtain ⟨m3, e_m3, h⟩ := mx_letE h
  refine mx_putI (mx_d tX8_clear_0 8 rfl) fX8_28 rfl ⟨_, rfl, rfl⟩ rfl (ly8_o h0) (mx_eqz (z' := (e, m3)) (by rw [e_m3]) ?_)
  obtain rfl := Option.some.inj h
  exact mx_return (mx_d tX8_clear_0 9 rfl) rfl ⟨rfl, rfl⟩
def FX8_put (a : Nat) (x0 : Int32) (x1 : Int32) (x2 : Int32) (m : mB) : Option (Int32 × mB) := (if (m.1 a 4) < 0 then (some (0, m)) else (if (m.1 a 4) < 40 then mx_chk (mx_inb (m.1 a 4) 40) (mx_let (mx_up m.1 (a + 1) (Int32.toNatClampNeg (m.1 a 4)) x0, m.2) (fun m3 => mx_chk (mx_inb (m3.1 a 4) 40) (mx_let (mx_up m3.1 (a + 2) (Int32.toNatClampNeg (m3.1 a 4)) x1, m3.2) (fun m5 => mx_chk (mx_inb (m5.1 a 4) 40) (mx_let (mx_up m5.1 (a + 3) (Int32.toNatClampNeg (m5.1 a 4)) x2, m5.2) (fun m7 => mx_let (mx_up m7.1 a 4 ((m7.1 a 4) + 1), m7.2) (fun m9 => (some (1, m9))))))))) else (some (0, m))))
set_option maxRecDepth 20000 in
theorem CX8_put {G : mG} {l : Launch} {e : mE} {a : Nat} {x0 : Int32} {x1 : Int32} {x2 : Int32} {m : mB} {r : (Int32 × mB)} (h0 : ly8 e a) (h : FX8_put a x0 x1 x2 m = some r) : mx_Call G l MX8_put 1 0 0 [.ref a, .int x0, .int x1, .int x2] (e, m) (fun v z => v = some (.int r.1) ∧ z = (e, r.2)) := by
  refine mx_entry (L := [.ref a, .int x0, .int x1, .int x2]) (by decide +kernel) (Nat.le_of_ble_eq_true rfl) rfl ?_
  unfold FX8_put at h
  refine mx_aload_n (mx_d tX8_put_0 0 rfl) rfl rfl ?_
  refine mx_getI (mx_d tX8_put_0 1 rfl) fX8_32 rfl (Or.inl rfl) (ly8_o h0) ?_
  refine mx_if_lt (tgt := 16) (mx_d tX8_put_0 2 rfl) (by decide) (fun hc1 => ?_) (fun hc1 => ?_)
  · rw [if_pos hc1] at h
    refine mx_iconst (0) (mx_d tX8_put_0 7 rfl) (by decide) ?_
    obtain rfl := Option.some.inj h
    exact mx_zreturn (mx_d tX8_put_0 8 rfl) rfl rfl ⟨rfl, rfl⟩
  · rw [if_neg hc1] at h
    refine mx_aload_n (mx_d tX8_put_0 3 rfl) rfl rfl ?_
    refine mx_getI (mx_d tX8_put_0 4 rfl) fX8_32 rfl (Or.inl rfl) (ly8_o h0) ?_
    refine mx_bipush (40) (mx_d tX8_put_0 5 rfl) (by decide) ?_
    refine mx_icmp_lt (tgt := 18) (mx_d tX8_put_0 6 rfl) (by decide) (fun hc2 => ?_) (fun hc2 => ?_)
    · rw [if_pos hc2] at h
      refine mx_aload_n (mx_d tX8_put_0 9 rfl) rfl rfl ?_
      refine mx_getR (mx_d tX8_put_0 10 rfl) fX8_9 rfl rfl (ly8_o h0) (ly8_r0 h0) ?_
      refine mx_aload_n (mx_d tX8_put_0 11 rfl) rfl rfl ?_
      refine mx_getI (mx_d tX8_put_0 12 rfl) fX8_32 rfl (Or.inl rfl) (ly8_o h0) ?_
      refine mx_iload_n (mx_d tX8_put_0 13 rfl) rfl rfl ?_
      obtain ⟨hi4, h⟩ := mx_chkE h
      obtain ⟨m3, e_m3, h⟩ := mx_letE h
      refine mx_iastore (mx_d tX8_put_0 14 rfl) (ly8_s0 h0) (mx_inbE hi4) (mx_eqz (z' := (e, m3)) (by rw [e_m3]) ?_)
      refine mx_aload_n (mx_d tX8_put_0 15 rfl) rfl rfl ?_
      refine mx_getR (mx_d tX8_put_0 16 rfl) fX8_15 rfl rfl (ly8_o h0) (ly8_r1 h0) ?_
      refine mx_aload_n (mx_d tX8_put_0 17 rfl) rfl rfl ?_
      refine mx_getI (mx_d tX8_put_0 18 rfl) fX8_32 rfl (Or.inl rfl) (ly8_o h0) ?_
      refine mx_iload_n (mx_d tX8_put_0 19 rfl) rfl rfl ?_
      obtain ⟨hi6, h⟩ := mx_chkE h
      obtain ⟨m5, e_m5, h⟩ := mx_letE h
      refine mx_iastore (mx_d tX8_put_0 20 rfl) (ly8_s1 h0) (mx_inbE hi6) (mx_eqz (z' := (e, m5)) (by rw [e_m5]) ?_)
      refine mx_aload_n (mx_d tX8_put_0 21 rfl) rfl rfl ?_
      refine mx_getR (mx_d tX8_put_0 22 rfl) fX8_18 rfl rfl (ly8_o h0) (ly8_r2 h0) ?_
      refine mx_aload_n (mx_d tX8_put_0 23 rfl) rfl rfl ?_
      refine mx_getI (mx_d tX8_put_0 24 rfl) fX8_32 rfl (Or.inl rfl) (ly8_o h0) ?_
      refine mx_iload_n (mx_d tX8_put_0 25 rfl) rfl rfl ?_
      obtain ⟨hi8, h⟩ := mx_chkE h
      obtain ⟨m7, e_m7, h⟩ := mx_letE h
      refine mx_iastore (mx_d tX8_put_0 26 rfl) (ly8_s2 h0) (mx_inbE hi8) (mx_eqz (z' := (e, m7)) (by rw [e_m7]) ?_)
      refine mx_aload_n (mx_d tX8_put_0 27 rfl) rfl rfl ?_
      refine mx_dup (mx_d tX8_put_0 28 rfl) rfl ?_
      refine mx_getI (mx_d tX8_put_0 29 rfl) fX8_32 rfl (Or.inl rfl) (ly8_o h0) ?_
      refine mx_iconst (1) (mx_d tX8_put_0 30 rfl) (by decide) ?_
      refine mx_iadd (mx_d tX8_put_0 31 rfl) ?_
      obtain ⟨m9, e_m9, h⟩ := mx_letE h
      refine mx_putI (mx_d tX8_put_0 32 rfl) fX8_32 rfl ⟨_, rfl, rfl⟩ rfl (ly8_o h0) (mx_eqz (z' := (e, m9)) (by rw [e_m9]) ?_)
      refine mx_iconst (1) (mx_d tX8_put_0 33 rfl) (by decide) ?_
      obtain rfl := Option.some.inj h
      exact mx_zreturn (mx_d tX8_put_0 34 rfl) rfl rfl ⟨rfl, rfl⟩
    · rw [if_neg hc2] at h
      refine mx_iconst (0) (mx_d tX8_put_0 7 rfl) (by decide) ?_
      obtain rfl := Option.some.inj h
      exact mx_zreturn (mx_d tX8_put_0 8 rfl) rfl rfl ⟨rfl, rfl⟩
def FX8_readAll_L15 (rec : Nat → Nat → Nat → Int32 → mB → Option (Int32 × mB)) (q0 : Nat) (q1 : Nat) (q2 : Nat) (y3 : Int32) : Nat → Int32 → mB → Option ((Int32 × mB) ⊕ (mB))
  | 0, _, _ => none
  | f + 1, y4, m => (if 40 ≤ y4 then (some (.inr m)) else Option.bind (FX10_kind q1 m) (fun r4 => (if r4 = 111 then Option.bind (FX10_advance q1 m) (fun r6 => Option.bind (rec q0 q1 q2 y3 r6) (fun r7 => (if r7.1 = 0 then (some (.inl (0, r7.2))) else Option.bind (FX8_put q0 111 0 0 r7.2) (fun r9 => mx_let (y4 + 1) (fun v10 => (FX8_readAll_L15 rec q0 q1 q2 y3 f v10 r9.2)))))) else (some (.inr m)))))
set_option maxRecDepth 20000 in
theorem CX8_readAll_L15 {G : mG} {l : Launch} {e : mE} {Post : Option Value → mS → Prop} {rec : Nat → Nat → Nat → Int32 → mB → Option (Int32 × mB)} {D : Nat} {q0 : Nat} {q1 : Nat} {q2 : Nat} {y3 : Int32} (hrec : ∀ {a : Nat} {p0 : Nat} {p1 : Nat} {x2 : Int32} {m : mB} {r : (Int32 × mB)}, ly8 e a → ly10 e p0 → ly4 e p1 → rec a p0 p1 x2 m = some r → mx_Call G l MX8_readOne D 0 0 [.ref a, .ref p0, .ref p1, .int x2] (e, m) (fun v z => v = some (.int r.1) ∧ z = (e, r.2))) (g0 : ly8 e q0) (g1 : ly10 e q1) (g2 : ly4 e q2) : ∀ (f : Nat) {y4 : Int32} {m : mB} {q : ((Int32 × mB) ⊕ (mB))}, FX8_readAll_L15 rec q0 q1 q2 y3 f y4 m = some q → (∀ rr, q = .inl rr → Post (some (.int rr.1)) (e, rr.2)) → (∀ u, q = .inr u → mx_Fr G l MX8_readAll (D + 3) 0 0 Post 62 [.float 0, .float 0, .float 0, .float 0, .float 0] [] (e, u)) → mx_Fr G l MX8_readAll (D + 3) 0 0 Post 15 [.ref q0, .ref q1, .ref q2, .int y3, .int y4] [] (e, m) := by
  intro f
  induction f with
  | zero => intro _ _ _ h; cases h
  | succ f ih =>
    intro y4 m q h hret hex
    rw [FX8_readAll_L15] at h
    refine mx_iload (mx_d tX8_readAll_0 10 rfl) rfl ?_
    refine mx_bipush (40) (mx_d tX8_readAll_0 11 rfl) (by decide) ?_
    refine mx_icmp_ge (tgt := 62) (mx_d tX8_readAll_0 12 rfl) (by decide) (fun hc3 => ?_) (fun hc3 => ?_)
    · rw [if_pos hc3] at h
      obtain rfl := Option.some.inj h
      refine mx_forget (L' := [.float 0, .float 0, .float 0, .float 0, .float 0]) trivial ?_
      exact (hex _ rfl)
    · rw [if_neg hc3] at h
      refine mx_aload_n (mx_d tX8_readAll_0 13 rfl) rfl rfl ?_
      obtain ⟨r4, h_r4, h⟩ := Option.bind_eq_some_iff.mp h
      refine mx_cVi (mx_d tX8_readAll_0 14 rfl) iX8_61 rfl vX10_kind ⟨_, rfl, rfl⟩ (ly10_o g1) (CX10_kind g1 h_r4) (by omega) rfl rfl (Nat.le_of_ble_eq_true rfl) ?_
      refine mx_bipush (111) (mx_d tX8_readAll_0 15 rfl) (by decide) ?_
      refine mx_icmp_ne (tgt := 62) (mx_d tX8_readAll_0 16 rfl) (by decide) (fun hc5 => ?_) (fun hc5 => ?_)
      · rw [if_neg hc5] at h
        obtain rfl := Option.some.inj h
        refine mx_forget (L' := [.float 0, .float 0, .float 0, .float 0, .float 0]) trivial ?_
        exact (hex _ rfl)
      · rw [if_pos hc5] at h
        refine mx_aload_n (mx_d tX8_readAll_0 17 rfl) rfl rfl ?_
        obtain ⟨r6, h_r6, h⟩ := Option.bind_eq_some_iff.mp h
        refine mx_cVv (mx_d tX8_readAll_0 18 rfl) iX8_65 rfl vX10_advance ⟨_, rfl, rfl⟩ (ly10_o g1) (CX10_advance g1 h_r6) (by omega) rfl rfl (Nat.le_of_ble_eq_true rfl) ?_
        refine mx_aload_n (mx_d tX8_readAll_0 19 rfl) rfl rfl ?_
        refine mx_aload_n (mx_d tX8_readAll_0 20 rfl) rfl rfl ?_
        refine mx_aload_n (mx_d tX8_readAll_0 21 rfl) rfl rfl ?_
        refine mx_iload_n (mx_d tX8_readAll_0 22 rfl) rfl rfl ?_
        obtain ⟨r7, h_r7, h⟩ := Option.bind_eq_some_iff.mp h
        refine mx_cVi (mx_d tX8_readAll_0 23 rfl) iX8_72 rfl vX8_readOne ⟨_, rfl, rfl⟩ (ly8_o g0) (hrec g0 g1 g2 h_r7) (by omega) rfl rfl (Nat.le_of_ble_eq_true rfl) ?_
        refine mx_if_ne (tgt := 47) (mx_d tX8_readAll_0 24 rfl) (by decide) (fun hc8 => ?_) (fun hc8 => ?_)
        · rw [if_neg hc8] at h
          refine mx_aload_n (mx_d tX8_readAll_0 27 rfl) rfl rfl ?_
          refine mx_bipush (111) (mx_d tX8_readAll_0 28 rfl) (by decide) ?_
          refine mx_iconst (0) (mx_d tX8_readAll_0 29 rfl) (by decide) ?_
          refine mx_iconst (0) (mx_d tX8_readAll_0 30 rfl) (by decide) ?_
          obtain ⟨r9, h_r9, h⟩ := Option.bind_eq_some_iff.mp h
          refine mx_cVi (mx_d tX8_readAll_0 31 rfl) iX8_68 rfl vX8_put ⟨_, rfl, rfl⟩ (ly8_o g0) (CX8_put g0 h_r9) (by omega) rfl rfl (Nat.le_of_ble_eq_true rfl) ?_
          refine mx_pop (mx_d tX8_readAll_0 32 rfl) rfl ?_
          obtain ⟨v10, e_v10, h⟩ := mx_letE h
          refine mx_iinc v10 (L2 := [.ref q0, .ref q1, .ref q2, .int y3, .int v10]) (mx_d tX8_readAll_0 33 rfl) rfl (by rw [e_v10]; rfl) (by decide) rfl ?_
          refine mx_goto (tgt := 15) (mx_d tX8_readAll_0 34 rfl) (by decide) ?_
          exact ih h hret hex
        · rw [if_pos hc8] at h
          refine mx_iconst (0) (mx_d tX8_readAll_0 25 rfl) (by decide) ?_
          obtain rfl := Option.some.inj h
          exact mx_zreturn (mx_d tX8_readAll_0 26 rfl) rfl rfl (hret _ rfl)
def FX8_readAll (rec : Nat → Nat → Nat → Int32 → mB → Option (Int32 × mB)) (a : Nat) (p0 : Nat) (p1 : Nat) (x2 : Int32) (m : mB) : Option (Int32 × mB) := Option.bind (rec a p0 p1 x2 m) (fun r1 => (if r1.1 = 0 then (some (0, r1.2)) else Option.bind (FX8_readAll_L15 rec a p0 p1 x2 mx_FU 0 r1.2) (fun q11 => Sum.elim (fun rr => some rr) (fun u12 => (some (1, u12))) q11)))
set_option maxRecDepth 20000 in
theorem CX8_readAll {G : mG} {l : Launch} {e : mE} {rec : Nat → Nat → Nat → Int32 → mB → Option (Int32 × mB)} {D : Nat} {a : Nat} {p0 : Nat} {p1 : Nat} {x2 : Int32} {m : mB} {r : (Int32 × mB)} (hrec : ∀ {a : Nat} {p0 : Nat} {p1 : Nat} {x2 : Int32} {m : mB} {r : (Int32 × mB)}, ly8 e a → ly10 e p0 → ly4 e p1 → rec a p0 p1 x2 m = some r → mx_Call G l MX8_readOne D 0 0 [.ref a, .ref p0, .ref p1, .int x2] (e, m) (fun v z => v = some (.int r.1) ∧ z = (e, r.2))) (h0 : ly8 e a) (h1 : ly10 e p0) (h2 : ly4 e p1) (h : FX8_readAll rec a p0 p1 x2 m = some r) : mx_Call G l MX8_readAll (D + 3) 0 0 [.ref a, .ref p0, .ref p1, .int x2] (e, m) (fun v z => v = some (.int r.1) ∧ z = (e, r.2)) := by
  refine mx_entry (L := [.ref a, .ref p0, .ref p1, .int x2, .float 0]) (by decide +kernel) (Nat.le_of_ble_eq_true rfl) rfl ?_
  unfold FX8_readAll at h
  refine mx_aload_n (mx_d tX8_readAll_0 0 rfl) rfl rfl ?_
  refine mx_aload_n (mx_d tX8_readAll_0 1 rfl) rfl rfl ?_
  refine mx_aload_n (mx_d tX8_readAll_0 2 rfl) rfl rfl ?_
  refine mx_iload_n (mx_d tX8_readAll_0 3 rfl) rfl rfl ?_
  obtain ⟨r1, h_r1, h⟩ := Option.bind_eq_some_iff.mp h
  refine mx_cVi (mx_d tX8_readAll_0 4 rfl) iX8_72 rfl vX8_readOne ⟨_, rfl, rfl⟩ (ly8_o h0) (hrec h0 h1 h2 h_r1) (by omega) rfl rfl (Nat.le_of_ble_eq_true rfl) ?_
  refine mx_if_ne (tgt := 12) (mx_d tX8_readAll_0 5 rfl) (by decide) (fun hc2 => ?_) (fun hc2 => ?_)
  · rw [if_neg hc2] at h
    refine mx_iconst (0) (mx_d tX8_readAll_0 8 rfl) (by decide) ?_
    refine mx_istore (L2 := [.ref a, .ref p0, .ref p1, .int x2, .int 0]) (mx_d tX8_readAll_0 9 rfl) (by decide) (by rfl) ?_
    obtain ⟨q11, h_q11, h⟩ := Option.bind_eq_some_iff.mp h
    refine CX8_readAll_L15 hrec h0 h1 h2 mx_FU h_q11 (fun rr13 e_rr13 => ?_) (fun u12 e_u12 => ?_)
    · subst e_rr13
      rw [Sum.elim_inl] at h
      obtain rfl := Option.some.inj h
      exact ⟨rfl, rfl⟩
    · subst e_u12
      rw [Sum.elim_inr] at h
      refine mx_iconst (1) (mx_d tX8_readAll_0 35 rfl) (by decide) ?_
      obtain rfl := Option.some.inj h
      exact mx_zreturn (mx_d tX8_readAll_0 36 rfl) rfl rfl ⟨rfl, rfl⟩
  · rw [if_pos hc2] at h
    refine mx_iconst (0) (mx_d tX8_readAll_0 6 rfl) (by decide) ?_
    obtain rfl := Option.some.inj h
    exact mx_zreturn (mx_d tX8_readAll_0 7 rfl) rfl rfl ⟨rfl, rfl⟩
def FX8_readCond_L15 (rec : Nat → Nat → Nat → Int32 → mB → Option (Int32 × mB)) (q0 : Nat) (q1 : Nat) (q2 : Nat) (y3 : Int32) : Nat → Int32 → mB → Option ((Int32 × mB) ⊕ (mB))
  | 0, _, _ => none
  | f + 1, y4, m => (if 40 ≤ y4 then (some (.inr m)) else Option.bind (FX10_kind q1 m) (fun r4 => (if r4 = 110 then Option.bind (FX10_advance q1 m) (fun r6 => Option.bind (FX8_readAll rec q0 q1 q2 y3 r6) (fun r7 => (if r7.1 = 0 then (some (.inl (0, r7.2))) else Option.bind (FX8_put q0 110 0 0 r7.2) (fun r9 => mx_let (y4 + 1) (fun v10 => (FX8_readCond_L15 rec q0 q1 q2 y3 f v10 r9.2)))))) else (some (.inr m)))))
set_option maxRecDepth 20000 in
theorem CX8_readCond_L15 {G : mG} {l : Launch} {e : mE} {Post : Option Value → mS → Prop} {rec : Nat → Nat → Nat → Int32 → mB → Option (Int32 × mB)} {D : Nat} {q0 : Nat} {q1 : Nat} {q2 : Nat} {y3 : Int32} (hrec : ∀ {a : Nat} {p0 : Nat} {p1 : Nat} {x2 : Int32} {m : mB} {r : (Int32 × mB)}, ly8 e a → ly10 e p0 → ly4 e p1 → rec a p0 p1 x2 m = some r → mx_Call G l MX8_readOne D 0 0 [.ref a, .ref p0, .ref p1, .int x2] (e, m) (fun v z => v = some (.int r.1) ∧ z = (e, r.2))) (g0 : ly8 e q0) (g1 : ly10 e q1) (g2 : ly4 e q2) : ∀ (f : Nat) {y4 : Int32} {m : mB} {q : ((Int32 × mB) ⊕ (mB))}, FX8_readCond_L15 rec q0 q1 q2 y3 f y4 m = some q → (∀ rr, q = .inl rr → Post (some (.int rr.1)) (e, rr.2)) → (∀ u, q = .inr u → mx_Fr G l MX8_readCond (D + 4) 0 0 Post 62 [.float 0, .float 0, .float 0, .float 0, .float 0] [] (e, u)) → mx_Fr G l MX8_readCond (D + 4) 0 0 Post 15 [.ref q0, .ref q1, .ref q2, .int y3, .int y4] [] (e, m) := by
  intro f
  induction f with
  | zero => intro _ _ _ h; cases h
  | succ f ih =>
    intro y4 m q h hret hex
    rw [FX8_readCond_L15] at h
    refine mx_iload (mx_d tX8_readCond_0 10 rfl) rfl ?_
    refine mx_bipush (40) (mx_d tX8_readCond_0 11 rfl) (by decide) ?_
    refine mx_icmp_ge (tgt := 62) (mx_d tX8_readCond_0 12 rfl) (by decide) (fun hc3 => ?_) (fun hc3 => ?_)
    · rw [if_pos hc3] at h
      obtain rfl := Option.some.inj h
      refine mx_forget (L' := [.float 0, .float 0, .float 0, .float 0, .float 0]) trivial ?_
      exact (hex _ rfl)
    · rw [if_neg hc3] at h
      refine mx_aload_n (mx_d tX8_readCond_0 13 rfl) rfl rfl ?_
      obtain ⟨r4, h_r4, h⟩ := Option.bind_eq_some_iff.mp h
      refine mx_cVi (mx_d tX8_readCond_0 14 rfl) iX8_61 rfl vX10_kind ⟨_, rfl, rfl⟩ (ly10_o g1) (CX10_kind g1 h_r4) (by omega) rfl rfl (Nat.le_of_ble_eq_true rfl) ?_
      refine mx_bipush (110) (mx_d tX8_readCond_0 15 rfl) (by decide) ?_
      refine mx_icmp_ne (tgt := 62) (mx_d tX8_readCond_0 16 rfl) (by decide) (fun hc5 => ?_) (fun hc5 => ?_)
      · rw [if_neg hc5] at h
        obtain rfl := Option.some.inj h
        refine mx_forget (L' := [.float 0, .float 0, .float 0, .float 0, .float 0]) trivial ?_
        exact (hex _ rfl)
      · rw [if_pos hc5] at h
        refine mx_aload_n (mx_d tX8_readCond_0 17 rfl) rfl rfl ?_
        obtain ⟨r6, h_r6, h⟩ := Option.bind_eq_some_iff.mp h
        refine mx_cVv (mx_d tX8_readCond_0 18 rfl) iX8_65 rfl vX10_advance ⟨_, rfl, rfl⟩ (ly10_o g1) (CX10_advance g1 h_r6) (by omega) rfl rfl (Nat.le_of_ble_eq_true rfl) ?_
        refine mx_aload_n (mx_d tX8_readCond_0 19 rfl) rfl rfl ?_
        refine mx_aload_n (mx_d tX8_readCond_0 20 rfl) rfl rfl ?_
        refine mx_aload_n (mx_d tX8_readCond_0 21 rfl) rfl rfl ?_
        refine mx_iload_n (mx_d tX8_readCond_0 22 rfl) rfl rfl ?_
        obtain ⟨r7, h_r7, h⟩ := Option.bind_eq_some_iff.mp h
        refine mx_cVi (mx_d tX8_readCond_0 23 rfl) iX8_58 rfl vX8_readAll ⟨_, rfl, rfl⟩ (ly8_o g0) (CX8_readAll hrec g0 g1 g2 h_r7) (by omega) rfl rfl (Nat.le_of_ble_eq_true rfl) ?_
        refine mx_if_ne (tgt := 47) (mx_d tX8_readCond_0 24 rfl) (by decide) (fun hc8 => ?_) (fun hc8 => ?_)
        · rw [if_neg hc8] at h
          refine mx_aload_n (mx_d tX8_readCond_0 27 rfl) rfl rfl ?_
          refine mx_bipush (110) (mx_d tX8_readCond_0 28 rfl) (by decide) ?_
          refine mx_iconst (0) (mx_d tX8_readCond_0 29 rfl) (by decide) ?_
          refine mx_iconst (0) (mx_d tX8_readCond_0 30 rfl) (by decide) ?_
          obtain ⟨r9, h_r9, h⟩ := Option.bind_eq_some_iff.mp h
          refine mx_cVi (mx_d tX8_readCond_0 31 rfl) iX8_68 rfl vX8_put ⟨_, rfl, rfl⟩ (ly8_o g0) (CX8_put g0 h_r9) (by omega) rfl rfl (Nat.le_of_ble_eq_true rfl) ?_
          refine mx_pop (mx_d tX8_readCond_0 32 rfl) rfl ?_
          obtain ⟨v10, e_v10, h⟩ := mx_letE h
          refine mx_iinc v10 (L2 := [.ref q0, .ref q1, .ref q2, .int y3, .int v10]) (mx_d tX8_readCond_0 33 rfl) rfl (by rw [e_v10]; rfl) (by decide) rfl ?_
          refine mx_goto (tgt := 15) (mx_d tX8_readCond_0 34 rfl) (by decide) ?_
          exact ih h hret hex
        · rw [if_pos hc8] at h
          refine mx_iconst (0) (mx_d tX8_readCond_0 25 rfl) (by decide) ?_
          obtain rfl := Option.some.inj h
          exact mx_zreturn (mx_d tX8_readCond_0 26 rfl) rfl rfl (hret _ rfl)
def FX8_readCond (rec : Nat → Nat → Nat → Int32 → mB → Option (Int32 × mB)) (a : Nat) (p0 : Nat) (p1 : Nat) (x2 : Int32) (m : mB) : Option (Int32 × mB) := Option.bind (FX8_readAll rec a p0 p1 x2 m) (fun r1 => (if r1.1 = 0 then (some (0, r1.2)) else Option.bind (FX8_readCond_L15 rec a p0 p1 x2 mx_FU 0 r1.2) (fun q11 => Sum.elim (fun rr => some rr) (fun u12 => (some (1, u12))) q11)))
set_option maxRecDepth 20000 in
theorem CX8_readCond {G : mG} {l : Launch} {e : mE} {rec : Nat → Nat → Nat → Int32 → mB → Option (Int32 × mB)} {D : Nat} {a : Nat} {p0 : Nat} {p1 : Nat} {x2 : Int32} {m : mB} {r : (Int32 × mB)} (hrec : ∀ {a : Nat} {p0 : Nat} {p1 : Nat} {x2 : Int32} {m : mB} {r : (Int32 × mB)}, ly8 e a → ly10 e p0 → ly4 e p1 → rec a p0 p1 x2 m = some r → mx_Call G l MX8_readOne D 0 0 [.ref a, .ref p0, .ref p1, .int x2] (e, m) (fun v z => v = some (.int r.1) ∧ z = (e, r.2))) (h0 : ly8 e a) (h1 : ly10 e p0) (h2 : ly4 e p1) (h : FX8_readCond rec a p0 p1 x2 m = some r) : mx_Call G l MX8_readCond (D + 4) 0 0 [.ref a, .ref p0, .ref p1, .int x2] (e, m) (fun v z => v = some (.int r.1) ∧ z = (e, r.2)) := by
  refine mx_entry (L := [.ref a, .ref p0, .ref p1, .int x2, .float 0]) (by decide +kernel) (Nat.le_of_ble_eq_true rfl) rfl ?_
  unfold FX8_readCond at h
  refine mx_aload_n (mx_d tX8_readCond_0 0 rfl) rfl rfl ?_
  refine mx_aload_n (mx_d tX8_readCond_0 1 rfl) rfl rfl ?_
  refine mx_aload_n (mx_d tX8_readCond_0 2 rfl) rfl rfl ?_
  refine mx_iload_n (mx_d tX8_readCond_0 3 rfl) rfl rfl ?_
  obtain ⟨r1, h_r1, h⟩ := Option.bind_eq_some_iff.mp h
  refine mx_cVi (mx_d tX8_readCond_0 4 rfl) iX8_58 rfl vX8_readAll ⟨_, rfl, rfl⟩ (ly8_o h0) (CX8_readAll hrec h0 h1 h2 h_r1) (by omega) rfl rfl (Nat.le_of_ble_eq_true rfl) ?_
  refine mx_if_ne (tgt := 12) (mx_d tX8_readCond_0 5 rfl) (by decide) (fun hc2 => ?_) (fun hc2 => ?_)
  · rw [if_neg hc2] at h
    refine mx_iconst (0) (mx_d tX8_readCond_0 8 rfl) (by decide) ?_
    refine mx_istore (L2 := [.ref a, .ref p0, .ref p1, .int x2, .int 0]) (mx_d tX8_readCond_0 9 rfl) (by decide) (by rfl) ?_
    obtain ⟨q11, h_q11, h⟩ := Option.bind_eq_some_iff.mp h
    refine CX8_readCond_L15 hrec h0 h1 h2 mx_FU h_q11 (fun rr13 e_rr13 => ?_) (fun u12 e_u12 => ?_)
    · subst e_rr13
      rw [Sum.elim_inl] at h
      obtain rfl := Option.some.inj h
      exact ⟨rfl, rfl⟩
    · subst e_u12
      rw [Sum.elim_inr] at h
      refine mx_iconst (1) (mx_d tX8_readCond_0 35 rfl) (by decide) ?_
      obtain rfl := Option.some.inj h
      exact mx_zreturn (mx_d tX8_readCond_0 36 rfl) rfl rfl ⟨rfl, rfl⟩
  · rw [if_pos hc2] at h
    refine mx_iconst (0) (mx_d tX8_readCond_0 6 rfl) (by decide) ?_
    obtain rfl := Option.some.inj h
    exact mx_zreturn (mx_d tX8_readCond_0 7 rfl) rfl rfl ⟨rfl, rfl⟩
def FX8_putIfRead (a : Nat) (x0 : Int32) (x1 : Int32) (x2 : Int32) (m : mB) : Option (Int32 × mB) := (if x2 = (-1) then (some (0, m)) else Option.bind (FX8_put a x0 x1 x2 m) (fun r2 => (if r2.1 = 0 then (some (0, r2.2)) else (some (1, r2.2)))))
set_option maxRecDepth 20000 in
theorem CX8_putIfRead {G : mG} {l : Launch} {e : mE} {a : Nat} {x0 : Int32} {x1 : Int32} {x2 : Int32} {m : mB} {r : (Int32 × mB)} (h0 : ly8 e a) (h : FX8_putIfRead a x0 x1 x2 m = some r) : mx_Call G l MX8_putIfRead 2 0 0 [.ref a, .int x0, .int x1, .int x2] (e, m) (fun v z => v = some (.int r.1) ∧ z = (e, r.2)) := by
  refine mx_entry (L := [.ref a, .int x0, .int x1, .int x2]) (by decide +kernel) (Nat.le_of_ble_eq_true rfl) rfl ?_
  unfold FX8_putIfRead at h
  refine mx_iload_n (mx_d tX8_putIfRead_0 0 rfl) rfl rfl ?_
  refine mx_iconst ((-1)) (mx_d tX8_putIfRead_0 1 rfl) (by decide) ?_
  refine mx_icmp_eq (tgt := 19) (mx_d tX8_putIfRead_0 2 rfl) (by decide) (fun hc1 => ?_) (fun hc1 => ?_)
  · rw [if_pos hc1] at h
    refine mx_iconst (0) (mx_d tX8_putIfRead_0 11 rfl) (by decide) ?_
    obtain rfl := Option.some.inj h
    exact mx_zreturn (mx_d tX8_putIfRead_0 12 rfl) rfl rfl ⟨rfl, rfl⟩
  · rw [if_neg hc1] at h
    refine mx_aload_n (mx_d tX8_putIfRead_0 3 rfl) rfl rfl ?_
    refine mx_iload_n (mx_d tX8_putIfRead_0 4 rfl) rfl rfl ?_
    refine mx_iload_n (mx_d tX8_putIfRead_0 5 rfl) rfl rfl ?_
    refine mx_iload_n (mx_d tX8_putIfRead_0 6 rfl) rfl rfl ?_
    obtain ⟨r2, h_r2, h⟩ := Option.bind_eq_some_iff.mp h
    refine mx_cVi (mx_d tX8_putIfRead_0 7 rfl) iX8_68 rfl vX8_put ⟨_, rfl, rfl⟩ (ly8_o h0) (CX8_put h0 h_r2) (by decide) rfl rfl (Nat.le_of_ble_eq_true rfl) ?_
    refine mx_if_eq (tgt := 19) (mx_d tX8_putIfRead_0 8 rfl) (by decide) (fun hc3 => ?_) (fun hc3 => ?_)
    · rw [if_pos hc3] at h
      refine mx_iconst (0) (mx_d tX8_putIfRead_0 11 rfl) (by decide) ?_
      obtain rfl := Option.some.inj h
      exact mx_zreturn (mx_d tX8_putIfRead_0 12 rfl) rfl rfl ⟨rfl, rfl⟩
    · rw [if_neg hc3] at h
      refine mx_iconst (1) (mx_d tX8_putIfRead_0 9 rfl) (by decide) ?_
      refine mx_goto (tgt := 20) (mx_d tX8_putIfRead_0 10 rfl) (by decide) ?_
      obtain rfl := Option.some.inj h
      exact mx_zreturn (mx_d tX8_putIfRead_0 12 rfl) rfl rfl ⟨rfl, rfl⟩
def FX8_readOne_B (rec : Nat → Nat → Nat → Int32 → mB → Option (Int32 × mB)) (a : Nat) (p0 : Nat) (p1 : Nat) (x2 : Int32) (m : mB) : Option (Int32 × mB) := Option.bind (FX10_kind p0 m) (fun r1 => mx_let (fun (m3 : mB) => (if 20 ≤ (m3.1 a 5) then Option.bind (FX10_fail p0 4 m3) (fun r6 => mx_chk (mx_b01 r6.1) ((some (r6.1, r6.2)))) else (if x2 ≤ 8 then mx_let (mx_up m3.1 a 5 ((m3.1 a 5) + 1), m3.2) (fun m9 => Option.bind (FX10_advance p0 m9) (fun r10 => (if r1 = 40 then Option.bind (FX8_readCond rec a p0 p1 (x2 + 1) r10) (fun r12 => (if r12.1 = 0 then (some (0, r12.2)) else Option.bind (FX10_take p0 41 r12.2) (fun r14 => (if r14.1 = 0 then (some (0, r14.2)) else (some (1, r14.2)))))) else if r1 = 112 then Option.bind (rec a p0 p1 (x2 + 1) r10) (fun r17 => (if r17.1 = 0 then (some (0, r17.2)) else Option.bind (FX8_put a 112 0 0 r17.2) (fun r19 => (if r19.1 = 0 then (some (0, r19.2)) else (some (1, r19.2)))))) else if r1 = 113 then Option.bind (FX8_put a r1 0 0 r10) (fun r22 => mx_chk (mx_b01 r22.1) ((some (r22.1, r22.2)))) else if r1 = 114 then Option.bind (FX8_put a r1 0 0 r10) (fun r25 => mx_chk (mx_b01 r25.1) ((some (r25.1, r25.2)))) else if r1 = 115 then Option.bind (FX10_takePoint p0 p1 r10) (fun r28 => Option.bind (FX8_putIfRead a r1 0 r28.1 r28.2) (fun r29 => mx_chk (mx_b01 r29.1) ((some (r29.1, r29.2))))) else if r1 = 116 then Option.bind (FX10_takePoint p0 p1 r10) (fun r32 => Option.bind (FX8_putIfRead a r1 0 r32.1 r32.2) (fun r33 => mx_chk (mx_b01 r33.1) ((some (r33.1, r33.2))))) else if r1 = 117 then Option.bind (FX10_takeNumber p0 0 5 r10) (fun r36 => Option.bind (FX8_putIfRead a r1 0 r36.1 r36.2) (fun r37 => mx_chk (mx_b01 r37.1) ((some (r37.1, r37.2))))) else Option.bind (FX10_kind p0 r10) (fun r39 => mx_let (fun (m41 : mB) => Option.bind (FX10_advance p0 m41) (fun r43 => Option.bind (FX10_takeNumber p0 0 999 r43) (fun r44 => Option.bind (FX8_putIfRead a r1 r39 r44.1 r44.2) (fun r45 => mx_chk (mx_b01 r45.1) ((some (r45.1, r45.2))))))) (fun k42 => (if r39 = 60 then (k42 r10) else (if r39 = 61 then (k42 r10) else (if r39 = 62 then (k42 r10) else Option.bind (FX10_fail p0 1 r10) (fun r49 => mx_chk (mx_b01 r49.1) ((some (r49.1, r49.2)))))))))))) else Option.bind (FX10_fail p0 4 m3) (fun r51 => mx_chk (mx_b01 r51.1) ((some (r51.1, r51.2))))))) (fun k4 => (if r1 = 40 then (k4 m) else (if r1 < 112 then Option.bind (FX10_fail p0 1 m) (fun r54 => mx_chk (mx_b01 r54.1) ((some (r54.1, r54.2)))) else (if r1 ≤ 121 then (k4 m) else Option.bind (FX10_fail p0 1 m) (fun r57 => mx_chk (mx_b01 r57.1) ((some (r57.1, r57.2)))))))))
def FX8_readOne : Nat → Nat → Nat → Nat → Int32 → mB → Option (Int32 × mB)
  | 0, _, _, _, _, _ => none
  | D + 1, a, p0, p1, x2, m => FX8_readOne_B (FX8_readOne D) a p0 p1 x2 m
set_option maxRecDepth 20000 in
theorem CX8_readOne_B {G : mG} {l : Launch} {e : mE} {rec : Nat → Nat → Nat → Int32 → mB → Option (Int32 × mB)} {D : Nat} {a : Nat} {p0 : Nat} {p1 : Nat} {x2 : Int32} {m : mB} {r : (Int32 × mB)} (hrec : ∀ {a : Nat} {p0 : Nat} {p1 : Nat} {x2 : Int32} {m : mB} {r : (Int32 × mB)}, ly8 e a → ly10 e p0 → ly4 e p1 → rec a p0 p1 x2 m = some r → mx_Call G l MX8_readOne D 0 0 [.ref a, .ref p0, .ref p1, .int x2] (e, m) (fun v z => v = some (.int r.1) ∧ z = (e, r.2))) (h0 : ly8 e a) (h1 : ly10 e p0) (h2 : ly4 e p1) (h : FX8_readOne_B rec a p0 p1 x2 m = some r) : mx_Call G l MX8_readOne (D + 5) 0 0 [.ref a, .ref p0, .ref p1, .int x2] (e, m) (fun v z => v = some (.int r.1) ∧ z = (e, r.2)) := by
  refine mx_entry (L := [.ref a, .ref p0, .ref p1, .int x2, .float 0, .float 0]) (by decide +kernel) (Nat.le_of_ble_eq_true rfl) rfl ?_
  unfold FX8_readOne_B at h
  refine mx_aload_n (mx_d tX8_readOne_0 0 rfl) rfl rfl ?_
  obtain ⟨r1, h_r1, h⟩ := Option.bind_eq_some_iff.mp h
  refine mx_cVi (mx_d tX8_readOne_0 1 rfl) iX8_61 rfl vX10_kind ⟨_, rfl, rfl⟩ (ly10_o h1) (CX10_kind h1 h_r1) (by omega) rfl rfl (Nat.le_of_ble_eq_true rfl) ?_
  refine mx_istore (L2 := [.ref a, .ref p0, .ref p1, .int x2, .int r1, .float 0]) (mx_d tX8_readOne_0 2 rfl) (by decide) (by rfl) ?_
  refine mx_iload (mx_d tX8_readOne_0 3 rfl) rfl ?_
  refine mx_bipush (40) (mx_d tX8_readOne_0 4 rfl) (by decide) ?_
  refine mx_letK (J := fun k4 => ∀ {m3 : mB}, k4 m3 = some r → mx_Fr G l MX8_readOne (D + 5) 0 0 (fun v z => v = some (.int r.1) ∧ z = (e, r.2)) 33 [.ref a, .ref p0, .ref p1, .int x2, .int r1, .float 0] [] (e, m3)) h ?_ (fun k4 j_k4 h => ?_)
  · intro m3 h
    dsimp only at h
    refine mx_aload_n (mx_d tX8_readOne_0 16 rfl) rfl rfl ?_
    refine mx_getI (mx_d tX8_readOne_0 17 rfl) fX8_28 rfl (Or.inl rfl) (ly8_o h0) ?_
    refine mx_bipush (20) (mx_d tX8_readOne_0 18 rfl) (by decide) ?_
    refine mx_icmp_ge (tgt := 48) (mx_d tX8_readOne_0 19 rfl) (by decide) (fun hc5 => ?_) (fun hc5 => ?_)
    · rw [if_pos hc5] at h
      refine mx_aload_n (mx_d tX8_readOne_0 23 rfl) rfl rfl ?_
      refine mx_iconst (4) (mx_d tX8_readOne_0 24 rfl) (by decide) ?_
      obtain ⟨r6, h_r6, h⟩ := Option.bind_eq_some_iff.mp h
      refine mx_cVi (mx_d tX8_readOne_0 25 rfl) iX8_75 rfl vX10_fail ⟨_, rfl, rfl⟩ (ly10_o h1) (CX10_fail h1 h_r6) (by omega) rfl rfl (Nat.le_of_ble_eq_true rfl) ?_
      obtain ⟨hb7, h⟩ := mx_chkE h
      obtain rfl := Option.some.inj h
      exact mx_zreturn (mx_d tX8_readOne_0 26 rfl) rfl (mx_nb (mx_b01E hb7)) ⟨rfl, rfl⟩
    · rw [if_neg hc5] at h
      refine mx_iload_n (mx_d tX8_readOne_0 20 rfl) rfl rfl ?_
      refine mx_bipush (8) (mx_d tX8_readOne_0 21 rfl) (by decide) ?_
      refine mx_icmp_le (tgt := 54) (mx_d tX8_readOne_0 22 rfl) (by decide) (fun hc8 => ?_) (fun hc8 => ?_)
      · rw [if_pos hc8] at h
        refine mx_aload_n (mx_d tX8_readOne_0 27 rfl) rfl rfl ?_
        refine mx_dup (mx_d tX8_readOne_0 28 rfl) rfl ?_
        refine mx_getI (mx_d tX8_readOne_0 29 rfl) fX8_28 rfl (Or.inl rfl) (ly8_o h0) ?_
        refine mx_iconst (1) (mx_d tX8_readOne_0 30 rfl) (by decide) ?_
        refine mx_iadd (mx_d tX8_readOne_0 31 rfl) ?_
        obtain ⟨m9, e_m9, h⟩ := mx_letE h
        refine mx_putI (mx_d tX8_readOne_0 32 rfl) fX8_28 rfl ⟨_, rfl, rfl⟩ rfl (ly8_o h0) (mx_eqz (z' := (e, m9)) (by rw [e_m9]) ?_)
        refine mx_aload_n (mx_d tX8_readOne_0 33 rfl) rfl rfl ?_
        obtain ⟨r10, h_r10, h⟩ := Option.bind_eq_some_iff.mp h
        refine mx_cVv (mx_d tX8_readOne_0 34 rfl) iX8_65 rfl vX10_advance ⟨_, rfl, rfl⟩ (ly10_o h1) (CX10_advance h1 h_r10) (by omega) rfl rfl (Nat.le_of_ble_eq_true rfl) ?_
        refine mx_iload (mx_d tX8_readOne_0 35 rfl) rfl ?_
        by_cases hc11 : r1 = 40
        · rw [if_pos hc11] at h
          refine mx_lookup (tgt := 165) (off := 95) (mx_d tX8_readOne_0 36 rfl) (by decide) (by rw [hc11]; decide) (by decide) ?_
          refine mx_aload_n (mx_d tX8_readOne_0 55 rfl) rfl rfl ?_
          refine mx_aload_n (mx_d tX8_readOne_0 56 rfl) rfl rfl ?_
          refine mx_aload_n (mx_d tX8_readOne_0 57 rfl) rfl rfl ?_
          refine mx_iload_n (mx_d tX8_readOne_0 58 rfl) rfl rfl ?_
          refine mx_iconst (1) (mx_d tX8_readOne_0 59 rfl) (by decide) ?_
          refine mx_iadd (mx_d tX8_readOne_1 0 rfl) ?_
          obtain ⟨r12, h_r12, h⟩ := Option.bind_eq_some_iff.mp h
          refine mx_cVi (mx_d tX8_readOne_1 1 rfl) iX8_50 rfl vX8_readCond ⟨_, rfl, rfl⟩ (ly8_o h0) (CX8_readCond hrec h0 h1 h2 h_r12) (by omega) rfl rfl (Nat.le_of_ble_eq_true rfl) ?_
          refine mx_if_eq (tgt := 190) (mx_d tX8_readOne_1 2 rfl) (by decide) (fun hc13 => ?_) (fun hc13 => ?_)
          · rw [if_pos hc13] at h
            refine mx_iconst (0) (mx_d tX8_readOne_1 9 rfl) (by decide) ?_
            obtain rfl := Option.some.inj h
            exact mx_zreturn (mx_d tX8_readOne_1 10 rfl) rfl rfl ⟨rfl, rfl⟩
          · rw [if_neg hc13] at h
            refine mx_aload_n (mx_d tX8_readOne_1 3 rfl) rfl rfl ?_
            refine mx_bipush (41) (mx_d tX8_readOne_1 4 rfl) (by decide) ?_
            obtain ⟨r14, h_r14, h⟩ := Option.bind_eq_some_iff.mp h
            refine mx_cVi (mx_d tX8_readOne_1 5 rfl) iX8_79 rfl vX10_take ⟨_, rfl, rfl⟩ (ly10_o h1) (CX10_take h1 h_r14) (by omega) rfl rfl (Nat.le_of_ble_eq_true rfl) ?_
            refine mx_if_eq (tgt := 190) (mx_d tX8_readOne_1 6 rfl) (by decide) (fun hc15 => ?_) (fun hc15 => ?_)
            · rw [if_pos hc15] at h
              refine mx_iconst (0) (mx_d tX8_readOne_1 9 rfl) (by decide) ?_
              obtain rfl := Option.some.inj h
              exact mx_zreturn (mx_d tX8_readOne_1 10 rfl) rfl rfl ⟨rfl, rfl⟩
            · rw [if_neg hc15] at h
              refine mx_iconst (1) (mx_d tX8_readOne_1 7 rfl) (by decide) ?_
              refine mx_goto (tgt := 191) (mx_d tX8_readOne_1 8 rfl) (by decide) ?_
              obtain rfl := Option.some.inj h
              exact mx_zreturn (mx_d tX8_readOne_1 10 rfl) rfl rfl ⟨rfl, rfl⟩
        · rw [if_neg hc11] at h
          by_cases hc16 : r1 = 112
          · rw [if_pos hc16] at h
            refine mx_lookup (tgt := 136) (off := 66) (mx_d tX8_readOne_0 36 rfl) (by decide) (by rw [hc16]; decide) (by decide) ?_
            refine mx_aload_n (mx_d tX8_readOne_0 37 rfl) rfl rfl ?_
            refine mx_aload_n (mx_d tX8_readOne_0 38 rfl) rfl rfl ?_
            refine mx_aload_n (mx_d tX8_readOne_0 39 rfl) rfl rfl ?_
            refine mx_iload_n (mx_d tX8_readOne_0 40 rfl) rfl rfl ?_
            refine mx_iconst (1) (mx_d tX8_readOne_0 41 rfl) (by decide) ?_
            refine mx_iadd (mx_d tX8_readOne_0 42 rfl) ?_
            obtain ⟨r17, h_r17, h⟩ := Option.bind_eq_some_iff.mp h
            refine mx_cVi (mx_d tX8_readOne_0 43 rfl) iX8_72 rfl vX8_readOne ⟨_, rfl, rfl⟩ (ly8_o h0) (hrec h0 h1 h2 h_r17) (by omega) rfl rfl (Nat.le_of_ble_eq_true rfl) ?_
            refine mx_if_eq (tgt := 163) (mx_d tX8_readOne_0 44 rfl) (by decide) (fun hc18 => ?_) (fun hc18 => ?_)
            · rw [if_pos hc18] at h
              refine mx_iconst (0) (mx_d tX8_readOne_0 53 rfl) (by decide) ?_
              obtain rfl := Option.some.inj h
              exact mx_zreturn (mx_d tX8_readOne_0 54 rfl) rfl rfl ⟨rfl, rfl⟩
            · rw [if_neg hc18] at h
              refine mx_aload_n (mx_d tX8_readOne_0 45 rfl) rfl rfl ?_
              refine mx_bipush (112) (mx_d tX8_readOne_0 46 rfl) (by decide) ?_
              refine mx_iconst (0) (mx_d tX8_readOne_0 47 rfl) (by decide) ?_
              refine mx_iconst (0) (mx_d tX8_readOne_0 48 rfl) (by decide) ?_
              obtain ⟨r19, h_r19, h⟩ := Option.bind_eq_some_iff.mp h
              refine mx_cVi (mx_d tX8_readOne_0 49 rfl) iX8_68 rfl vX8_put ⟨_, rfl, rfl⟩ (ly8_o h0) (CX8_put h0 h_r19) (by omega) rfl rfl (Nat.le_of_ble_eq_true rfl) ?_
              refine mx_if_eq (tgt := 163) (mx_d tX8_readOne_0 50 rfl) (by decide) (fun hc20 => ?_) (fun hc20 => ?_)
              · rw [if_pos hc20] at h
                refine mx_iconst (0) (mx_d tX8_readOne_0 53 rfl) (by decide) ?_
                obtain rfl := Option.some.inj h
                exact mx_zreturn (mx_d tX8_readOne_0 54 rfl) rfl rfl ⟨rfl, rfl⟩
              · rw [if_neg hc20] at h
                refine mx_iconst (1) (mx_d tX8_readOne_0 51 rfl) (by decide) ?_
                refine mx_goto (tgt := 164) (mx_d tX8_readOne_0 52 rfl) (by decide) ?_
                obtain rfl := Option.some.inj h
                exact mx_zreturn (mx_d tX8_readOne_0 54 rfl) rfl rfl ⟨rfl, rfl⟩
          · rw [if_neg hc16] at h
            by_cases hc21 : r1 = 113
            · rw [if_pos hc21] at h
              refine mx_lookup (tgt := 192) (off := 122) (mx_d tX8_readOne_0 36 rfl) (by decide) (by rw [hc21]; decide) (by decide) ?_
              refine mx_aload_n (mx_d tX8_readOne_1 11 rfl) rfl rfl ?_
              refine mx_iload (mx_d tX8_readOne_1 12 rfl) rfl ?_
              refine mx_iconst (0) (mx_d tX8_readOne_1 13 rfl) (by decide) ?_
              refine mx_iconst (0) (mx_d tX8_readOne_1 14 rfl) (by decide) ?_
              obtain ⟨r22, h_r22, h⟩ := Option.bind_eq_some_iff.mp h
              refine mx_cVi (mx_d tX8_readOne_1 15 rfl) iX8_68 rfl vX8_put ⟨_, rfl, rfl⟩ (ly8_o h0) (CX8_put h0 h_r22) (by omega) rfl rfl (Nat.le_of_ble_eq_true rfl) ?_
              obtain ⟨hb23, h⟩ := mx_chkE h
              obtain rfl := Option.some.inj h
              exact mx_zreturn (mx_d tX8_readOne_1 16 rfl) rfl (mx_nb (mx_b01E hb23)) ⟨rfl, rfl⟩
            · rw [if_neg hc21] at h
              by_cases hc24 : r1 = 114
              · rw [if_pos hc24] at h
                refine mx_lookup (tgt := 192) (off := 122) (mx_d tX8_readOne_0 36 rfl) (by decide) (by rw [hc24]; decide) (by decide) ?_
                refine mx_aload_n (mx_d tX8_readOne_1 11 rfl) rfl rfl ?_
                refine mx_iload (mx_d tX8_readOne_1 12 rfl) rfl ?_
                refine mx_iconst (0) (mx_d tX8_readOne_1 13 rfl) (by decide) ?_
                refine mx_iconst (0) (mx_d tX8_readOne_1 14 rfl) (by decide) ?_
                obtain ⟨r25, h_r25, h⟩ := Option.bind_eq_some_iff.mp h
                refine mx_cVi (mx_d tX8_readOne_1 15 rfl) iX8_68 rfl vX8_put ⟨_, rfl, rfl⟩ (ly8_o h0) (CX8_put h0 h_r25) (by omega) rfl rfl (Nat.le_of_ble_eq_true rfl) ?_
                obtain ⟨hb26, h⟩ := mx_chkE h
                obtain rfl := Option.some.inj h
                exact mx_zreturn (mx_d tX8_readOne_1 16 rfl) rfl (mx_nb (mx_b01E hb26)) ⟨rfl, rfl⟩
              · rw [if_neg hc24] at h
                by_cases hc27 : r1 = 115
                · rw [if_pos hc27] at h
                  refine mx_lookup (tgt := 201) (off := 131) (mx_d tX8_readOne_0 36 rfl) (by decide) (by rw [hc27]; decide) (by decide) ?_
                  refine mx_aload_n (mx_d tX8_readOne_1 17 rfl) rfl rfl ?_
                  refine mx_iload (mx_d tX8_readOne_1 18 rfl) rfl ?_
                  refine mx_iconst (0) (mx_d tX8_readOne_1 19 rfl) (by decide) ?_
                  refine mx_aload_n (mx_d tX8_readOne_1 20 rfl) rfl rfl ?_
                  refine mx_aload_n (mx_d tX8_readOne_1 21 rfl) rfl rfl ?_
                  obtain ⟨r28, h_r28, h⟩ := Option.bind_eq_some_iff.mp h
                  refine mx_cVi (mx_d tX8_readOne_1 22 rfl) iX8_82 rfl vX10_takePoint ⟨_, rfl, rfl⟩ (ly10_o h1) (CX10_takePoint h1 h2 h_r28) (by omega) rfl rfl (Nat.le_of_ble_eq_true rfl) ?_
                  obtain ⟨r29, h_r29, h⟩ := Option.bind_eq_some_iff.mp h
                  refine mx_cVi (mx_d tX8_readOne_1 23 rfl) iX8_86 rfl vX8_putIfRead ⟨_, rfl, rfl⟩ (ly8_o h0) (CX8_putIfRead h0 h_r29) (by omega) rfl rfl (Nat.le_of_ble_eq_true rfl) ?_
                  obtain ⟨hb30, h⟩ := mx_chkE h
                  obtain rfl := Option.some.inj h
                  exact mx_zreturn (mx_d tX8_readOne_1 24 rfl) rfl (mx_nb (mx_b01E hb30)) ⟨rfl, rfl⟩
                · rw [if_neg hc27] at h
                  by_cases hc31 : r1 = 116
                  · rw [if_pos hc31] at h
                    refine mx_lookup (tgt := 201) (off := 131) (mx_d tX8_readOne_0 36 rfl) (by decide) (by rw [hc31]; decide) (by decide) ?_
                    refine mx_aload_n (mx_d tX8_readOne_1 17 rfl) rfl rfl ?_
                    refine mx_iload (mx_d tX8_readOne_1 18 rfl) rfl ?_
                    refine mx_iconst (0) (mx_d tX8_readOne_1 19 rfl) (by decide) ?_
                    refine mx_aload_n (mx_d tX8_readOne_1 20 rfl) rfl rfl ?_
                    refine mx_aload_n (mx_d tX8_readOne_1 21 rfl) rfl rfl ?_
                    obtain ⟨r32, h_r32, h⟩ := Option.bind_eq_some_iff.mp h
                    refine mx_cVi (mx_d tX8_readOne_1 22 rfl) iX8_82 rfl vX10_takePoint ⟨_, rfl, rfl⟩ (ly10_o h1) (CX10_takePoint h1 h2 h_r32) (by omega) rfl rfl (Nat.le_of_ble_eq_true rfl) ?_
                    obtain ⟨r33, h_r33, h⟩ := Option.bind_eq_some_iff.mp h
                    refine mx_cVi (mx_d tX8_readOne_1 23 rfl) iX8_86 rfl vX8_putIfRead ⟨_, rfl, rfl⟩ (ly8_o h0) (CX8_putIfRead h0 h_r33) (by omega) rfl rfl (Nat.le_of_ble_eq_true rfl) ?_
                    obtain ⟨hb34, h⟩ := mx_chkE h
                    obtain rfl := Option.some.inj h
                    exact mx_zreturn (mx_d tX8_readOne_1 24 rfl) rfl (mx_nb (mx_b01E hb34)) ⟨rfl, rfl⟩
                  · rw [if_neg hc31] at h
                    by_cases hc35 : r1 = 117
                    · rw [if_pos hc35] at h
                      refine mx_lookup (tgt := 214) (off := 144) (mx_d tX8_readOne_0 36 rfl) (by decide) (by rw [hc35]; decide) (by decide) ?_
                      refine mx_aload_n (mx_d tX8_readOne_1 25 rfl) rfl rfl ?_
                      refine mx_iload (mx_d tX8_readOne_1 26 rfl) rfl ?_
                      refine mx_iconst (0) (mx_d tX8_readOne_1 27 rfl) (by decide) ?_
                      refine mx_aload_n (mx_d tX8_readOne_1 28 rfl) rfl rfl ?_
                      refine mx_iconst (0) (mx_d tX8_readOne_1 29 rfl) (by decide) ?_
                      refine mx_iconst (5) (mx_d tX8_readOne_1 30 rfl) (by decide) ?_
                      obtain ⟨r36, h_r36, h⟩ := Option.bind_eq_some_iff.mp h
                      refine mx_cVi (mx_d tX8_readOne_1 31 rfl) iX8_89 rfl vX10_takeNumber ⟨_, rfl, rfl⟩ (ly10_o h1) (CX10_takeNumber h1 h_r36) (by omega) rfl rfl (Nat.le_of_ble_eq_true rfl) ?_
                      obtain ⟨r37, h_r37, h⟩ := Option.bind_eq_some_iff.mp h
                      refine mx_cVi (mx_d tX8_readOne_1 32 rfl) iX8_86 rfl vX8_putIfRead ⟨_, rfl, rfl⟩ (ly8_o h0) (CX8_putIfRead h0 h_r37) (by omega) rfl rfl (Nat.le_of_ble_eq_true rfl) ?_
                      obtain ⟨hb38, h⟩ := mx_chkE h
                      obtain rfl := Option.some.inj h
                      exact mx_zreturn (mx_d tX8_readOne_1 33 rfl) rfl (mx_nb (mx_b01E hb38)) ⟨rfl, rfl⟩
                    · rw [if_neg hc35] at h
                      refine mx_lookup (tgt := 228) (off := 158) (mx_d tX8_readOne_0 36 rfl) (by decide) (by rw [lv_osw hc11 (by decide)]; rw [lv_osw hc16 (by decide)]; rw [lv_osw hc21 (by decide)]; rw [lv_osw hc24 (by decide)]; rw [lv_osw hc27 (by decide)]; rw [lv_osw hc31 (by decide)]; rw [lv_osw hc35 (by decide)]; rfl) (by decide) ?_
                      refine mx_aload_n (mx_d tX8_readOne_1 34 rfl) rfl rfl ?_
                      obtain ⟨r39, h_r39, h⟩ := Option.bind_eq_some_iff.mp h
                      refine mx_cVi (mx_d tX8_readOne_1 35 rfl) iX8_61 rfl vX10_kind ⟨_, rfl, rfl⟩ (ly10_o h1) (CX10_kind h1 h_r39) (by omega) rfl rfl (Nat.le_of_ble_eq_true rfl) ?_
                      refine mx_istore (L2 := [.ref a, .ref p0, .ref p1, .int x2, .int r1, .int r39]) (mx_d tX8_readOne_1 36 rfl) (by decide) (by rfl) ?_
                      refine mx_iload (mx_d tX8_readOne_1 37 rfl) rfl ?_
                      refine mx_bipush (60) (mx_d tX8_readOne_1 38 rfl) (by decide) ?_
                      refine mx_letK (J := fun k42 => ∀ {m41 : mB}, k42 m41 = some r → mx_Fr G l MX8_readOne (D + 5) 0 0 (fun v z => v = some (.int r.1) ∧ z = (e, r.2)) 261 [.ref a, .ref p0, .float 0, .float 0, .int r1, .int r39] [] (e, m41)) h ?_ (fun k42 j_k42 h => ?_)
                      · intro m41 h
                        dsimp only at h
                        refine mx_aload_n (mx_d tX8_readOne_1 50 rfl) rfl rfl ?_
                        obtain ⟨r43, h_r43, h⟩ := Option.bind_eq_some_iff.mp h
                        refine mx_cVv (mx_d tX8_readOne_1 51 rfl) iX8_65 rfl vX10_advance ⟨_, rfl, rfl⟩ (ly10_o h1) (CX10_advance h1 h_r43) (by omega) rfl rfl (Nat.le_of_ble_eq_true rfl) ?_
                        refine mx_aload_n (mx_d tX8_readOne_1 52 rfl) rfl rfl ?_
                        refine mx_iload (mx_d tX8_readOne_1 53 rfl) rfl ?_
                        refine mx_iload (mx_d tX8_readOne_1 54 rfl) rfl ?_
                        refine mx_aload_n (mx_d tX8_readOne_1 55 rfl) rfl rfl ?_
                        refine mx_iconst (0) (mx_d tX8_readOne_1 56 rfl) (by decide) ?_
                        refine mx_sipush (999) (mx_d tX8_readOne_1 57 rfl) (by decide) ?_
                        obtain ⟨r44, h_r44, h⟩ := Option.bind_eq_some_iff.mp h
                        refine mx_cVi (mx_d tX8_readOne_1 58 rfl) iX8_89 rfl vX10_takeNumber ⟨_, rfl, rfl⟩ (ly10_o h1) (CX10_takeNumber h1 h_r44) (by omega) rfl rfl (Nat.le_of_ble_eq_true rfl) ?_
                        obtain ⟨r45, h_r45, h⟩ := Option.bind_eq_some_iff.mp h
                        refine mx_cVi (mx_d tX8_readOne_1 59 rfl) iX8_86 rfl vX8_putIfRead ⟨_, rfl, rfl⟩ (ly8_o h0) (CX8_putIfRead h0 h_r45) (by omega) rfl rfl (Nat.le_of_ble_eq_true rfl) ?_
                        obtain ⟨hb46, h⟩ := mx_chkE h
                        obtain rfl := Option.some.inj h
                        exact mx_zreturn (mx_d tX8_readOne_2 0 rfl) rfl (mx_nb (mx_b01E hb46)) ⟨rfl, rfl⟩
                      refine mx_icmp_eq (tgt := 261) (mx_d tX8_readOne_1 39 rfl) (by decide) (fun hc40 => ?_) (fun hc40 => ?_)
                      · rw [if_pos hc40] at h
                        refine mx_forget (L' := [.ref a, .ref p0, .float 0, .float 0, .int r1, .int r39]) ⟨rfl, rfl, rfl, rfl, trivial⟩ ?_
                        exact j_k42 h
                      · rw [if_neg hc40] at h
                        refine mx_iload (mx_d tX8_readOne_1 40 rfl) rfl ?_
                        refine mx_bipush (61) (mx_d tX8_readOne_1 41 rfl) (by decide) ?_
                        refine mx_icmp_eq (tgt := 261) (mx_d tX8_readOne_1 42 rfl) (by decide) (fun hc47 => ?_) (fun hc47 => ?_)
                        · rw [if_pos hc47] at h
                          refine mx_forget (L' := [.ref a, .ref p0, .float 0, .float 0, .int r1, .int r39]) ⟨rfl, rfl, rfl, rfl, trivial⟩ ?_
                          exact j_k42 h
                        · rw [if_neg hc47] at h
                          refine mx_iload (mx_d tX8_readOne_1 43 rfl) rfl ?_
                          refine mx_bipush (62) (mx_d tX8_readOne_1 44 rfl) (by decide) ?_
                          refine mx_icmp_eq (tgt := 261) (mx_d tX8_readOne_1 45 rfl) (by decide) (fun hc48 => ?_) (fun hc48 => ?_)
                          · rw [if_pos hc48] at h
                            refine mx_forget (L' := [.ref a, .ref p0, .float 0, .float 0, .int r1, .int r39]) ⟨rfl, rfl, rfl, rfl, trivial⟩ ?_
                            exact j_k42 h
                          · rw [if_neg hc48] at h
                            refine mx_aload_n (mx_d tX8_readOne_1 46 rfl) rfl rfl ?_
                            refine mx_iconst (1) (mx_d tX8_readOne_1 47 rfl) (by decide) ?_
                            obtain ⟨r49, h_r49, h⟩ := Option.bind_eq_some_iff.mp h
                            refine mx_cVi (mx_d tX8_readOne_1 48 rfl) iX8_75 rfl vX10_fail ⟨_, rfl, rfl⟩ (ly10_o h1) (CX10_fail h1 h_r49) (by omega) rfl rfl (Nat.le_of_ble_eq_true rfl) ?_
                            obtain ⟨hb50, h⟩ := mx_chkE h
                            obtain rfl := Option.some.inj h
                            exact mx_zreturn (mx_d tX8_readOne_1 49 rfl) rfl (mx_nb (mx_b01E hb50)) ⟨rfl, rfl⟩
      · rw [if_neg hc8] at h
        refine mx_aload_n (mx_d tX8_readOne_0 23 rfl) rfl rfl ?_
        refine mx_iconst (4) (mx_d tX8_readOne_0 24 rfl) (by decide) ?_
        obtain ⟨r51, h_r51, h⟩ := Option.bind_eq_some_iff.mp h
        refine mx_cVi (mx_d tX8_readOne_0 25 rfl) iX8_75 rfl vX10_fail ⟨_, rfl, rfl⟩ (ly10_o h1) (CX10_fail h1 h_r51) (by omega) rfl rfl (Nat.le_of_ble_eq_true rfl) ?_
        obtain ⟨hb52, h⟩ := mx_chkE h
        obtain rfl := Option.some.inj h
        exact mx_zreturn (mx_d tX8_readOne_0 26 rfl) rfl (mx_nb (mx_b01E hb52)) ⟨rfl, rfl⟩
  refine mx_icmp_eq (tgt := 33) (mx_d tX8_readOne_0 5 rfl) (by decide) (fun hc2 => ?_) (fun hc2 => ?_)
  · rw [if_pos hc2] at h
    exact j_k4 h
  · rw [if_neg hc2] at h
    refine mx_iload (mx_d tX8_readOne_0 6 rfl) rfl ?_
    refine mx_bipush (112) (mx_d tX8_readOne_0 7 rfl) (by decide) ?_
    refine mx_icmp_lt (tgt := 27) (mx_d tX8_readOne_0 8 rfl) (by decide) (fun hc53 => ?_) (fun hc53 => ?_)
    · rw [if_pos hc53] at h
      refine mx_aload_n (mx_d tX8_readOne_0 12 rfl) rfl rfl ?_
      refine mx_iconst (1) (mx_d tX8_readOne_0 13 rfl) (by decide) ?_
      obtain ⟨r54, h_r54, h⟩ := Option.bind_eq_some_iff.mp h
      refine mx_cVi (mx_d tX8_readOne_0 14 rfl) iX8_75 rfl vX10_fail ⟨_, rfl, rfl⟩ (ly10_o h1) (CX10_fail h1 h_r54) (by omega) rfl rfl (Nat.le_of_ble_eq_true rfl) ?_
      obtain ⟨hb55, h⟩ := mx_chkE h
      obtain rfl := Option.some.inj h
      exact mx_zreturn (mx_d tX8_readOne_0 15 rfl) rfl (mx_nb (mx_b01E hb55)) ⟨rfl, rfl⟩
    · rw [if_neg hc53] at h
      refine mx_iload (mx_d tX8_readOne_0 9 rfl) rfl ?_
      refine mx_bipush (121) (mx_d tX8_readOne_0 10 rfl) (by decide) ?_
      refine mx_icmp_le (tgt := 33) (mx_d tX8_readOne_0 11 rfl) (by decide) (fun hc56 => ?_) (fun hc56 => ?_)
      · rw [if_pos hc56] at h
        exact j_k4 h
      · rw [if_neg hc56] at h
        refine mx_aload_n (mx_d tX8_readOne_0 12 rfl) rfl rfl ?_
        refine mx_iconst (1) (mx_d tX8_readOne_0 13 rfl) (by decide) ?_
        obtain ⟨r57, h_r57, h⟩ := Option.bind_eq_some_iff.mp h
        refine mx_cVi (mx_d tX8_readOne_0 14 rfl) iX8_75 rfl vX10_fail ⟨_, rfl, rfl⟩ (ly10_o h1) (CX10_fail h1 h_r57) (by omega) rfl rfl (Nat.le_of_ble_eq_true rfl) ?_
        obtain ⟨hb58, h⟩ := mx_chkE h
        obtain rfl := Option.some.inj h
        exact mx_zreturn (mx_d tX8_readOne_0 15 rfl) rfl (mx_nb (mx_b01E hb58)) ⟨rfl, rfl⟩
theorem CX8_readOne {G : mG} {l : Launch} {e : mE} : ∀ (D : Nat) {a : Nat} {p0 : Nat} {p1 : Nat} {x2 : Int32} {m : mB} {r : (Int32 × mB)}, ly8 e a → ly10 e p0 → ly4 e p1 → FX8_readOne D a p0 p1 x2 m = some r → mx_Call G l MX8_readOne (5 * D) 0 0 [.ref a, .ref p0, .ref p1, .int x2] (e, m) (fun v z => v = some (.int r.1) ∧ z = (e, r.2)) := by
  intro D
  induction D with
  | zero => intro _ _ _ _ _ _ _ _ _ h; cases h
  | succ D ih =>
    intro a p0 p1 x2 m r h0 h1 h2 h
    rw [FX8_readOne] at h
    have hh := CX8_readOne_B (rec := FX8_readOne D) (D := 5 * D) (fun {_ _ _ _} {_} {_} zh0 zh1 zh2 hz => ih zh0 zh1 zh2 hz) h0 h1 h2 h
    rw [show 5 * (D + 1) = 5 * D + 5 by omega]
    exact hh
def FX8_read (a : Nat) (p0 : Nat) (p1 : Nat) (m : mB) : Option (Int32 × mB) := Option.bind (FX8_clear a m) (fun r1 => Option.bind (FX10_begin p0 200 r1) (fun r2 => Option.bind (FX8_readCond (FX8_readOne 64) a p0 p1 1 r2) (fun r3 => (if r3.1 = 0 then mx_let (mx_up r3.2.1 a 6 0, r3.2.2) (fun m5 => mx_chk (mx_b01 (m5.1 a 6)) ((some ((m5.1 a 6), m5)))) else Option.bind (FX10_endsHere p0 r3.2) (fun r7 => (if r7.1 = 0 then mx_let (mx_up r7.2.1 a 6 0, r7.2.2) (fun m9 => mx_chk (mx_b01 (m9.1 a 6)) ((some ((m9.1 a 6), m9)))) else mx_let (mx_up r7.2.1 a 6 1, r7.2.2) (fun m11 => mx_chk (mx_b01 (m11.1 a 6)) ((some ((m11.1 a 6), m11))))))))))
set_option maxRecDepth 20000 in
theorem CX8_read {G : mG} {l : Launch} {e : mE} {a : Nat} {p0 : Nat} {p1 : Nat} {m : mB} {r : (Int32 × mB)} (h0 : ly8 e a) (h1 : ly10 e p0) (h2 : ly4 e p1) (h : FX8_read a p0 p1 m = some r) : mx_Call G l MX8_read 325 0 0 [.ref a, .ref p0, .ref p1] (e, m) (fun v z => v = some (.int r.1) ∧ z = (e, r.2)) := by
  refine mx_entry (L := [.ref a, .ref p0, .ref p1]) (by decide +kernel) (Nat.le_of_ble_eq_true rfl) rfl ?_
  unfold FX8_read at h
  refine mx_aload_n (mx_d tX8_read_0 0 rfl) rfl rfl ?_
  obtain ⟨r1, h_r1, h⟩ := Option.bind_eq_some_iff.mp h
  refine mx_cVv (mx_d tX8_read_0 1 rfl) iX8_41 rfl vX8_clear ⟨_, rfl, rfl⟩ (ly8_o h0) (CX8_clear h0 h_r1) (by decide) rfl rfl (Nat.le_of_ble_eq_true rfl) ?_
  refine mx_aload_n (mx_d tX8_read_0 2 rfl) rfl rfl ?_
  refine mx_sipush (200) (mx_d tX8_read_0 3 rfl) (by decide) ?_
  obtain ⟨r2, h_r2, h⟩ := Option.bind_eq_some_iff.mp h
  refine mx_cVv (mx_d tX8_read_0 4 rfl) iX8_44 rfl vX10_begin ⟨_, rfl, rfl⟩ (ly10_o h1) (CX10_begin h1 h_r2) (by decide) rfl rfl (Nat.le_of_ble_eq_true rfl) ?_
  refine mx_aload_n (mx_d tX8_read_0 5 rfl) rfl rfl ?_
  refine mx_aload_n (mx_d tX8_read_0 6 rfl) rfl rfl ?_
  refine mx_aload_n (mx_d tX8_read_0 7 rfl) rfl rfl ?_
  refine mx_aload_n (mx_d tX8_read_0 8 rfl) rfl rfl ?_
  refine mx_iconst (1) (mx_d tX8_read_0 9 rfl) (by decide) ?_
  obtain ⟨r3, h_r3, h⟩ := Option.bind_eq_some_iff.mp h
  refine mx_cVi (mx_d tX8_read_0 10 rfl) iX8_50 rfl vX8_readCond ⟨_, rfl, rfl⟩ (ly8_o h0) (CX8_readCond (CX8_readOne 64) h0 h1 h2 h_r3) (by decide) rfl rfl (Nat.le_of_ble_eq_true rfl) ?_
  refine mx_if_eq (tgt := 33) (mx_d tX8_read_0 11 rfl) (by decide) (fun hc4 => ?_) (fun hc4 => ?_)
  · rw [if_pos hc4] at h
    refine mx_iconst (0) (mx_d tX8_read_0 17 rfl) (by decide) ?_
    obtain ⟨m5, e_m5, h⟩ := mx_letE h
    refine mx_putZ (mx_d tX8_read_0 18 rfl) fX8_24 rfl ⟨_, rfl, rfl⟩ rfl (by decide) (ly8_o h0) (mx_eqz (z' := (e, m5)) (by rw [e_m5]) ?_)
    refine mx_aload_n (mx_d tX8_read_0 19 rfl) rfl rfl ?_
    refine mx_getI (mx_d tX8_read_0 20 rfl) fX8_24 rfl (Or.inr rfl) (ly8_o h0) ?_
    obtain ⟨hb6, h⟩ := mx_chkE h
    obtain rfl := Option.some.inj h
    exact mx_zreturn (mx_d tX8_read_0 21 rfl) rfl (mx_nb (mx_b01E hb6)) ⟨rfl, rfl⟩
  · rw [if_neg hc4] at h
    refine mx_aload_n (mx_d tX8_read_0 12 rfl) rfl rfl ?_
    obtain ⟨r7, h_r7, h⟩ := Option.bind_eq_some_iff.mp h
    refine mx_cVi (mx_d tX8_read_0 13 rfl) iX8_54 rfl vX10_endsHere ⟨_, rfl, rfl⟩ (ly10_o h1) (CX10_endsHere h1 h_r7) (by decide) rfl rfl (Nat.le_of_ble_eq_true rfl) ?_
    refine mx_if_eq (tgt := 33) (mx_d tX8_read_0 14 rfl) (by decide) (fun hc8 => ?_) (fun hc8 => ?_)
    · rw [if_pos hc8] at h
      refine mx_iconst (0) (mx_d tX8_read_0 17 rfl) (by decide) ?_
      obtain ⟨m9, e_m9, h⟩ := mx_letE h
      refine mx_putZ (mx_d tX8_read_0 18 rfl) fX8_24 rfl ⟨_, rfl, rfl⟩ rfl (by decide) (ly8_o h0) (mx_eqz (z' := (e, m9)) (by rw [e_m9]) ?_)
      refine mx_aload_n (mx_d tX8_read_0 19 rfl) rfl rfl ?_
      refine mx_getI (mx_d tX8_read_0 20 rfl) fX8_24 rfl (Or.inr rfl) (ly8_o h0) ?_
      obtain ⟨hb10, h⟩ := mx_chkE h
      obtain rfl := Option.some.inj h
      exact mx_zreturn (mx_d tX8_read_0 21 rfl) rfl (mx_nb (mx_b01E hb10)) ⟨rfl, rfl⟩
    · rw [if_neg hc8] at h
      refine mx_iconst (1) (mx_d tX8_read_0 15 rfl) (by decide) ?_
      refine mx_goto (tgt := 34) (mx_d tX8_read_0 16 rfl) (by decide) ?_
      obtain ⟨m11, e_m11, h⟩ := mx_letE h
      refine mx_putZ (mx_d tX8_read_0 18 rfl) fX8_24 rfl ⟨_, rfl, rfl⟩ rfl (by decide) (ly8_o h0) (mx_eqz (z' := (e, m11)) (by rw [e_m11]) ?_)
      refine mx_aload_n (mx_d tX8_read_0 19 rfl) rfl rfl ?_
      refine mx_getI (mx_d tX8_read_0 20 rfl) fX8_24 rfl (Or.inr rfl) (ly8_o h0) ?_
      obtain ⟨hb12, h⟩ := mx_chkE h
      obtain rfl := Option.some.inj h
      exact mx_zreturn (mx_d tX8_read_0 21 rfl) rfl (mx_nb (mx_b01E hb12)) ⟨rfl, rfl⟩
def FX8_measureOf (p0 : Nat) (x1 : Int32) (x2 : Int32) (m : mB) : Option Int32 := (if x1 = 118 then Option.bind (FX4_priceOf p0 x2 m) (fun r2 => (some r2)) else if x1 = 119 then Option.bind (FX4_nearTo p0 x2 m) (fun r4 => Option.bind (FJ6_bitCount_0f7a4 r4 m) (fun r5 => (some r5))) else if x1 = 120 then Option.bind (FX4_partnerOf p0 x2 m) (fun r7 => Option.bind (FX4_weightOf p0 x2 r7 m) (fun r8 => (some r8))) else (some x2))
set_option maxRecDepth 20000 in
theorem CX8_measureOf {G : mG} {l : Launch} {e : mE} {p0 : Nat} {x1 : Int32} {x2 : Int32} {m : mB} {r : Int32} (h1 : ly4 e p0) (h : FX8_measureOf p0 x1 x2 m = some r) : mx_Call G l MX8_measureOf 4 0 0 [.ref p0, .int x1, .int x2] (e, m) (fun v z => v = some (.int r) ∧ z = (e, m)) := by
  refine mx_entry (L := [.ref p0, .int x1, .int x2]) (by decide +kernel) (Nat.le_of_ble_eq_true rfl) rfl ?_
  unfold FX8_measureOf at h
  refine mx_iload_n (mx_d tX8_measureOf_0 0 rfl) rfl rfl ?_
  by_cases hc1 : x1 = 118
  · rw [if_pos hc1] at h
    refine mx_tableIn (tgt := 28) (mx_d tX8_measureOf_0 1 rfl) (by rw [hc1]; decide) (by rw [hc1]; decide) (by rw [hc1]; rfl) (by decide) ?_
    refine mx_aload_n (mx_d tX8_measureOf_0 2 rfl) rfl rfl ?_
    refine mx_iload_n (mx_d tX8_measureOf_0 3 rfl) rfl rfl ?_
    obtain ⟨r2, h_r2, h⟩ := Option.bind_eq_some_iff.mp h
    refine mx_cVi (mx_d tX8_measureOf_0 4 rfl) iX8_125 rfl vX4_priceOf ⟨_, rfl, rfl⟩ (ly4_o h1) (CX4_priceOf h1 h_r2) (by decide) rfl rfl (Nat.le_of_ble_eq_true rfl) ?_
    obtain rfl := Option.some.inj h
    exact mx_ireturn (mx_d tX8_measureOf_0 5 rfl) rfl ⟨rfl, rfl⟩
  · rw [if_neg hc1] at h
    by_cases hc3 : x1 = 119
    · rw [if_pos hc3] at h
      refine mx_tableIn (tgt := 34) (mx_d tX8_measureOf_0 1 rfl) (by rw [hc3]; decide) (by rw [hc3]; decide) (by rw [hc3]; rfl) (by decide) ?_
      refine mx_aload_n (mx_d tX8_measureOf_0 6 rfl) rfl rfl ?_
      refine mx_iload_n (mx_d tX8_measureOf_0 7 rfl) rfl rfl ?_
      obtain ⟨r4, h_r4, h⟩ := Option.bind_eq_some_iff.mp h
      refine mx_cVi (mx_d tX8_measureOf_0 8 rfl) iX8_112 rfl vX4_nearTo ⟨_, rfl, rfl⟩ (ly4_o h1) (CX4_nearTo h1 h_r4) (by decide) rfl rfl (Nat.le_of_ble_eq_true rfl) ?_
      obtain ⟨r5, h_r5, h⟩ := Option.bind_eq_some_iff.mp h
      refine mx_cSi (mx_d tX8_measureOf_0 9 rfl) iX8_128 rfl sJ6_bitCount_0f7a4 (CJ6_bitCount_0f7a4  h_r5) (by decide) rfl rfl (Nat.le_of_ble_eq_true rfl) ?_
      obtain rfl := Option.some.inj h
      exact mx_ireturn (mx_d tX8_measureOf_0 10 rfl) rfl ⟨rfl, rfl⟩
    · rw [if_neg hc3] at h
      by_cases hc6 : x1 = 120
      · rw [if_pos hc6] at h
        refine mx_tableIn (tgt := 43) (mx_d tX8_measureOf_0 1 rfl) (by rw [hc6]; decide) (by rw [hc6]; decide) (by rw [hc6]; rfl) (by decide) ?_
        refine mx_aload_n (mx_d tX8_measureOf_0 11 rfl) rfl rfl ?_
        refine mx_iload_n (mx_d tX8_measureOf_0 12 rfl) rfl rfl ?_
        refine mx_aload_n (mx_d tX8_measureOf_0 13 rfl) rfl rfl ?_
        refine mx_iload_n (mx_d tX8_measureOf_0 14 rfl) rfl rfl ?_
        obtain ⟨r7, h_r7, h⟩ := Option.bind_eq_some_iff.mp h
        refine mx_cVi (mx_d tX8_measureOf_0 15 rfl) iX8_108 rfl vX4_partnerOf ⟨_, rfl, rfl⟩ (ly4_o h1) (CX4_partnerOf h1 h_r7) (by decide) rfl rfl (Nat.le_of_ble_eq_true rfl) ?_
        obtain ⟨r8, h_r8, h⟩ := Option.bind_eq_some_iff.mp h
        refine mx_cVi (mx_d tX8_measureOf_0 16 rfl) iX8_133 rfl vX4_weightOf ⟨_, rfl, rfl⟩ (ly4_o h1) (CX4_weightOf h1 h_r8) (by decide) rfl rfl (Nat.le_of_ble_eq_true rfl) ?_
        obtain rfl := Option.some.inj h
        exact mx_ireturn (mx_d tX8_measureOf_0 17 rfl) rfl ⟨rfl, rfl⟩
      · rw [if_neg hc6] at h
        have z_hc1 := lv_neT hc1 (a := 118) (by decide)
        have z_hc3 := lv_neT hc3 (a := 119) (by decide)
        have z_hc6 := lv_neT hc6 (a := 120) (by decide)
        refine mx_tableOut (tgt := 54) (mx_d tX8_measureOf_0 1 rfl) (by omega) (by decide) ?_
        refine mx_iload_n (mx_d tX8_measureOf_0 18 rfl) rfl rfl ?_
        obtain rfl := Option.some.inj h
        exact mx_ireturn (mx_d tX8_measureOf_0 19 rfl) rfl ⟨rfl, rfl⟩
def FX8_pointsCompared_L6 (q0 : Nat) (y1 : Int32) (y2 : Int32) (y3 : Int32) (m : mB) : Nat → Int32 → Int32 → Option (Int32)
  | 0, _, _ => none
  | f + 1, y4, y5 => Option.bind (FX4_points q0 m) (fun r1 => (if r1 ≤ y5 then (some (y4)) else Option.bind (FX8_measureOf q0 y1 y5 m) (fun r3 => mx_let (mx_let (y4 ||| ((1 : Int32) <<< (y5 &&& 31))) (fun v6 => mx_let (y5 + 1) (fun v7 => (FX8_pointsCompared_L6 q0 y1 y2 y3 m f v6 v7)))) (fun k5 => (if y2 = 60 then (if y3 ≤ r3 then mx_let (y5 + 1) (fun v14 => (FX8_pointsCompared_L6 q0 y1 y2 y3 m f y4 v14)) else k5) else (if y2 = 61 then (if r3 = y3 then k5 else mx_let (y5 + 1) (fun v12 => (FX8_pointsCompared_L6 q0 y1 y2 y3 m f y4 v12))) else (if r3 ≤ y3 then mx_let (y5 + 1) (fun v10 => (FX8_pointsCompared_L6 q0 y1 y2 y3 m f y4 v10)) else k5)))))))
set_option maxRecDepth 20000 in
theorem CX8_pointsCompared_L6 {G : mG} {l : Launch} {e : mE} {Post : Option Value → mS → Prop} {q0 : Nat} {y1 : Int32} {y2 : Int32} {y3 : Int32} {m : mB} (g0 : ly4 e q0) : ∀ (f : Nat) {y4 : Int32} {y5 : Int32} {q : (Int32)}, FX8_pointsCompared_L6 q0 y1 y2 y3 m f y4 y5 = some q → (mx_Fr G l MX8_pointsCompared 5 0 0 Post 75 [.float 0, .float 0, .float 0, .float 0, .int q, .float 0, .float 0] [] (e, m)) → mx_Fr G l MX8_pointsCompared 5 0 0 Post 6 [.ref q0, .int y1, .int y2, .int y3, .int y4, .int y5, .float 0] [] (e, m) := by
  intro f
  induction f with
  | zero => intro _ _ _ h; cases h
  | succ f ih =>
    intro y4 y5 q h hex
    rw [FX8_pointsCompared_L6] at h
    refine mx_iload (mx_d tX8_pointsCompared_0 4 rfl) rfl ?_
    refine mx_aload_n (mx_d tX8_pointsCompared_0 5 rfl) rfl rfl ?_
    obtain ⟨r1, h_r1, h⟩ := Option.bind_eq_some_iff.mp h
    refine mx_cVi (mx_d tX8_pointsCompared_0 6 rfl) iX8_93 rfl vX4_points ⟨_, rfl, rfl⟩ (ly4_o g0) (CX4_points g0 h_r1) (by decide) rfl rfl (Nat.le_of_ble_eq_true rfl) ?_
    refine mx_icmp_ge (tgt := 75) (mx_d tX8_pointsCompared_0 7 rfl) (by decide) (fun hc2 => ?_) (fun hc2 => ?_)
    · rw [if_pos hc2] at h
      obtain rfl := Option.some.inj h
      refine mx_forget (L' := [.float 0, .float 0, .float 0, .float 0, .int y4, .float 0, .float 0]) ⟨rfl, trivial⟩ ?_
      exact hex
    · rw [if_neg hc2] at h
      refine mx_aload_n (mx_d tX8_pointsCompared_0 8 rfl) rfl rfl ?_
      refine mx_iload_n (mx_d tX8_pointsCompared_0 9 rfl) rfl rfl ?_
      refine mx_iload (mx_d tX8_pointsCompared_0 10 rfl) rfl ?_
      obtain ⟨r3, h_r3, h⟩ := Option.bind_eq_some_iff.mp h
      refine mx_cSi (mx_d tX8_pointsCompared_0 11 rfl) iX8_121 rfl sX8_measureOf (CX8_measureOf g0 h_r3) (by decide) rfl rfl (Nat.le_of_ble_eq_true rfl) ?_
      refine mx_istore (L2 := [.ref q0, .int y1, .int y2, .int y3, .int y4, .int y5, .int r3]) (mx_d tX8_pointsCompared_0 12 rfl) (by decide) (by rfl) ?_
      refine mx_iload_n (mx_d tX8_pointsCompared_0 13 rfl) rfl rfl ?_
      refine mx_bipush (60) (mx_d tX8_pointsCompared_0 14 rfl) (by decide) ?_
      refine mx_letK (J := fun k5 => k5 = some q → mx_Fr G l MX8_pointsCompared 5 0 0 Post 60 [.ref q0, .int y1, .int y2, .int y3, .int y4, .int y5, .float 0] [] (e, m)) h ?_ (fun k5 j_k5 h => ?_)
      · intro h
        refine mx_iload (mx_d tX8_pointsCompared_0 30 rfl) rfl ?_
        refine mx_iconst (1) (mx_d tX8_pointsCompared_0 31 rfl) (by decide) ?_
        refine mx_iload (mx_d tX8_pointsCompared_0 32 rfl) rfl ?_
        refine mx_ishl (mx_d tX8_pointsCompared_0 33 rfl) ?_
        refine mx_ior (mx_d tX8_pointsCompared_0 34 rfl) ?_
        obtain ⟨v6, e_v6, h⟩ := mx_letE h
        refine mx_istore (L2 := [.ref q0, .int y1, .int y2, .int y3, .int v6, .int y5, .float 0]) (mx_d tX8_pointsCompared_0 35 rfl) (by decide) (by rw [e_v6]; rfl) ?_
        obtain ⟨v7, e_v7, h⟩ := mx_letE h
        refine mx_iinc v7 (L2 := [.ref q0, .int y1, .int y2, .int y3, .int v6, .int v7, .float 0]) (mx_d tX8_pointsCompared_0 36 rfl) rfl (by rw [e_v7]; rfl) (by decide) rfl ?_
        refine mx_goto (tgt := 6) (mx_d tX8_pointsCompared_0 37 rfl) (by decide) ?_
        exact ih h hex
      refine mx_icmp_ne (tgt := 39) (mx_d tX8_pointsCompared_0 15 rfl) (by decide) (fun hc4 => ?_) (fun hc4 => ?_)
      · rw [if_neg hc4] at h
        refine mx_iload_n (mx_d tX8_pointsCompared_0 20 rfl) rfl rfl ?_
        refine mx_bipush (61) (mx_d tX8_pointsCompared_0 21 rfl) (by decide) ?_
        refine mx_icmp_ne (tgt := 54) (mx_d tX8_pointsCompared_0 22 rfl) (by decide) (fun hc8 => ?_) (fun hc8 => ?_)
        · rw [if_neg hc8] at h
          refine mx_iload (mx_d tX8_pointsCompared_0 27 rfl) rfl ?_
          refine mx_iload_n (mx_d tX8_pointsCompared_0 28 rfl) rfl rfl ?_
          refine mx_icmp_le (tgt := 69) (mx_d tX8_pointsCompared_0 29 rfl) (by decide) (fun hc9 => ?_) (fun hc9 => ?_)
          · rw [if_pos hc9] at h
            obtain ⟨v10, e_v10, h⟩ := mx_letE h
            refine mx_iinc v10 (L2 := [.ref q0, .int y1, .int y2, .int y3, .int y4, .int v10, .int r3]) (mx_d tX8_pointsCompared_0 36 rfl) rfl (by rw [e_v10]; rfl) (by decide) rfl ?_
            refine mx_goto (tgt := 6) (mx_d tX8_pointsCompared_0 37 rfl) (by decide) ?_
            refine mx_forget (L' := [.ref q0, .int y1, .int y2, .int y3, .int y4, .int v10, .float 0]) ⟨rfl, rfl, rfl, rfl, rfl, rfl, trivial⟩ ?_
            exact ih h hex
          · rw [if_neg hc9] at h
            refine mx_forget (L' := [.ref q0, .int y1, .int y2, .int y3, .int y4, .int y5, .float 0]) ⟨rfl, rfl, rfl, rfl, rfl, rfl, trivial⟩ ?_
            exact j_k5 h
        · rw [if_pos hc8] at h
          refine mx_iload (mx_d tX8_pointsCompared_0 23 rfl) rfl ?_
          refine mx_iload_n (mx_d tX8_pointsCompared_0 24 rfl) rfl rfl ?_
          refine mx_icmp_ne (tgt := 69) (mx_d tX8_pointsCompared_0 25 rfl) (by decide) (fun hc11 => ?_) (fun hc11 => ?_)
          · rw [if_neg hc11] at h
            obtain ⟨v12, e_v12, h⟩ := mx_letE h
            refine mx_iinc v12 (L2 := [.ref q0, .int y1, .int y2, .int y3, .int y4, .int v12, .int r3]) (mx_d tX8_pointsCompared_0 36 rfl) rfl (by rw [e_v12]; rfl) (by decide) rfl ?_
            refine mx_goto (tgt := 6) (mx_d tX8_pointsCompared_0 37 rfl) (by decide) ?_
            refine mx_forget (L' := [.ref q0, .int y1, .int y2, .int y3, .int y4, .int v12, .float 0]) ⟨rfl, rfl, rfl, rfl, rfl, rfl, trivial⟩ ?_
            exact ih h hex
          · rw [if_pos hc11] at h
            refine mx_goto (tgt := 60) (mx_d tX8_pointsCompared_0 26 rfl) (by decide) ?_
            refine mx_forget (L' := [.ref q0, .int y1, .int y2, .int y3, .int y4, .int y5, .float 0]) ⟨rfl, rfl, rfl, rfl, rfl, rfl, trivial⟩ ?_
            exact j_k5 h
      · rw [if_pos hc4] at h
        refine mx_iload (mx_d tX8_pointsCompared_0 16 rfl) rfl ?_
        refine mx_iload_n (mx_d tX8_pointsCompared_0 17 rfl) rfl rfl ?_
        refine mx_icmp_ge (tgt := 69) (mx_d tX8_pointsCompared_0 18 rfl) (by decide) (fun hc13 => ?_) (fun hc13 => ?_)
        · rw [if_pos hc13] at h
          obtain ⟨v14, e_v14, h⟩ := mx_letE h
          refine mx_iinc v14 (L2 := [.ref q0, .int y1, .int y2, .int y3, .int y4, .int v14, .int r3]) (mx_d tX8_pointsCompared_0 36 rfl) rfl (by rw [e_v14]; rfl) (by decide) rfl ?_
          refine mx_goto (tgt := 6) (mx_d tX8_pointsCompared_0 37 rfl) (by decide) ?_
          refine mx_forget (L' := [.ref q0, .int y1, .int y2, .int y3, .int y4, .int v14, .float 0]) ⟨rfl, rfl, rfl, rfl, rfl, rfl, trivial⟩ ?_
          exact ih h hex
        · rw [if_neg hc13] at h
          refine mx_goto (tgt := 60) (mx_d tX8_pointsCompared_0 19 rfl) (by decide) ?_
          refine mx_forget (L' := [.ref q0, .int y1, .int y2, .int y3, .int y4, .int y5, .float 0]) ⟨rfl, rfl, rfl, rfl, rfl, rfl, trivial⟩ ?_
          exact j_k5 h
def FX8_pointsCompared (p0 : Nat) (x1 : Int32) (x2 : Int32) (x3 : Int32) (m : mB) : Option Int32 := Option.bind (FX8_pointsCompared_L6 p0 x1 x2 x3 m mx_FU 0 0) (fun q15 => (some q15))
set_option maxRecDepth 20000 in
theorem CX8_pointsCompared {G : mG} {l : Launch} {e : mE} {p0 : Nat} {x1 : Int32} {x2 : Int32} {x3 : Int32} {m : mB} {r : Int32} (h1 : ly4 e p0) (h : FX8_pointsCompared p0 x1 x2 x3 m = some r) : mx_Call G l MX8_pointsCompared 5 0 0 [.ref p0, .int x1, .int x2, .int x3] (e, m) (fun v z => v = some (.int r) ∧ z = (e, m)) := by
  refine mx_entry (L := [.ref p0, .int x1, .int x2, .int x3, .float 0, .float 0, .float 0]) (by decide +kernel) (Nat.le_of_ble_eq_true rfl) rfl ?_
  unfold FX8_pointsCompared at h
  refine mx_iconst (0) (mx_d tX8_pointsCompared_0 0 rfl) (by decide) ?_
  refine mx_istore (L2 := [.ref p0, .int x1, .int x2, .int x3, .int 0, .float 0, .float 0]) (mx_d tX8_pointsCompared_0 1 rfl) (by decide) (by rfl) ?_
  refine mx_iconst (0) (mx_d tX8_pointsCompared_0 2 rfl) (by decide) ?_
  refine mx_istore (L2 := [.ref p0, .int x1, .int x2, .int x3, .int 0, .int 0, .float 0]) (mx_d tX8_pointsCompared_0 3 rfl) (by decide) (by rfl) ?_
  obtain ⟨q15, h_q15, h⟩ := Option.bind_eq_some_iff.mp h
  refine CX8_pointsCompared_L6 h1 mx_FU h_q15 ?_
  refine mx_iload (mx_d tX8_pointsCompared_0 38 rfl) rfl ?_
  obtain rfl := Option.some.inj h
  exact mx_ireturn (mx_d tX8_pointsCompared_0 39 rfl) rfl ⟨rfl, rfl⟩
def FX8_pointsOfOne (p0 : Nat) (x1 : Int32) (x2 : Int32) (x3 : Int32) (m : mB) : Option Int32 := (if x1 = 113 then Option.bind (FX4_lonePoints p0 m) (fun r2 => (some r2)) else if x1 = 114 then Option.bind (FX4_tightPoints p0 m) (fun r4 => (some r4)) else if x1 = 115 then Option.bind (FX4_partnerOf p0 x3 m) (fun r6 => (if r6 = (-1) then (some 0) else Option.bind (FX4_partnerOf p0 x3 m) (fun r8 => (some ((1 : Int32) <<< (r8 &&& 31)))))) else if x1 = 116 then Option.bind (FX4_nearTo p0 x3 m) (fun r10 => (some r10)) else if x1 = 117 then Option.bind (FX4_membersOf p0 x3 m) (fun r12 => (some r12)) else Option.bind (FX8_pointsCompared p0 x1 x2 x3 m) (fun r13 => (some r13)))
set_option maxRecDepth 20000 in
theorem CX8_pointsOfOne {G : mG} {l : Launch} {e : mE} {p0 : Nat} {x1 : Int32} {x2 : Int32} {x3 : Int32} {m : mB} {r : Int32} (h1 : ly4 e p0) (h : FX8_pointsOfOne p0 x1 x2 x3 m = some r) : mx_Call G l MX8_pointsOfOne 6 0 0 [.ref p0, .int x1, .int x2, .int x3] (e, m) (fun v z => v = some (.int r) ∧ z = (e, m)) := by
  refine mx_entry (L := [.ref p0, .int x1, .int x2, .int x3]) (by decide +kernel) (Nat.le_of_ble_eq_true rfl) rfl ?_
  unfold FX8_pointsOfOne at h
  refine mx_iload_n (mx_d tX8_pointsOfOne_0 0 rfl) rfl rfl ?_
  by_cases hc1 : x1 = 113
  · rw [if_pos hc1] at h
    refine mx_tableIn (tgt := 36) (mx_d tX8_pointsOfOne_0 1 rfl) (by rw [hc1]; decide) (by rw [hc1]; decide) (by rw [hc1]; rfl) (by decide) ?_
    refine mx_aload_n (mx_d tX8_pointsOfOne_0 2 rfl) rfl rfl ?_
    obtain ⟨r2, h_r2, h⟩ := Option.bind_eq_some_iff.mp h
    refine mx_cVi (mx_d tX8_pointsOfOne_0 3 rfl) iX8_102 rfl vX4_lonePoints ⟨_, rfl, rfl⟩ (ly4_o h1) (CX4_lonePoints h1 h_r2) (by decide) rfl rfl (Nat.le_of_ble_eq_true rfl) ?_
    obtain rfl := Option.some.inj h
    exact mx_ireturn (mx_d tX8_pointsOfOne_0 4 rfl) rfl ⟨rfl, rfl⟩
  · rw [if_neg hc1] at h
    by_cases hc3 : x1 = 114
    · rw [if_pos hc3] at h
      refine mx_tableIn (tgt := 41) (mx_d tX8_pointsOfOne_0 1 rfl) (by rw [hc3]; decide) (by rw [hc3]; decide) (by rw [hc3]; rfl) (by decide) ?_
      refine mx_aload_n (mx_d tX8_pointsOfOne_0 5 rfl) rfl rfl ?_
      obtain ⟨r4, h_r4, h⟩ := Option.bind_eq_some_iff.mp h
      refine mx_cVi (mx_d tX8_pointsOfOne_0 6 rfl) iX8_105 rfl vX4_tightPoints ⟨_, rfl, rfl⟩ (ly4_o h1) (CX4_tightPoints h1 h_r4) (by decide) rfl rfl (Nat.le_of_ble_eq_true rfl) ?_
      obtain rfl := Option.some.inj h
      exact mx_ireturn (mx_d tX8_pointsOfOne_0 7 rfl) rfl ⟨rfl, rfl⟩
    · rw [if_neg hc3] at h
      by_cases hc5 : x1 = 115
      · rw [if_pos hc5] at h
        refine mx_tableIn (tgt := 46) (mx_d tX8_pointsOfOne_0 1 rfl) (by rw [hc5]; decide) (by rw [hc5]; decide) (by rw [hc5]; rfl) (by decide) ?_
        refine mx_aload_n (mx_d tX8_pointsOfOne_0 8 rfl) rfl rfl ?_
        refine mx_iload_n (mx_d tX8_pointsOfOne_0 9 rfl) rfl rfl ?_
        obtain ⟨r6, h_r6, h⟩ := Option.bind_eq_some_iff.mp h
        refine mx_cVi (mx_d tX8_pointsOfOne_0 10 rfl) iX8_108 rfl vX4_partnerOf ⟨_, rfl, rfl⟩ (ly4_o h1) (CX4_partnerOf h1 h_r6) (by decide) rfl rfl (Nat.le_of_ble_eq_true rfl) ?_
        refine mx_iconst ((-1)) (mx_d tX8_pointsOfOne_0 11 rfl) (by decide) ?_
        refine mx_icmp_ne (tgt := 59) (mx_d tX8_pointsOfOne_0 12 rfl) (by decide) (fun hc7 => ?_) (fun hc7 => ?_)
        · rw [if_neg hc7] at h
          refine mx_iconst (1) (mx_d tX8_pointsOfOne_0 15 rfl) (by decide) ?_
          refine mx_aload_n (mx_d tX8_pointsOfOne_0 16 rfl) rfl rfl ?_
          refine mx_iload_n (mx_d tX8_pointsOfOne_0 17 rfl) rfl rfl ?_
          obtain ⟨r8, h_r8, h⟩ := Option.bind_eq_some_iff.mp h
          refine mx_cVi (mx_d tX8_pointsOfOne_0 18 rfl) iX8_108 rfl vX4_partnerOf ⟨_, rfl, rfl⟩ (ly4_o h1) (CX4_partnerOf h1 h_r8) (by decide) rfl rfl (Nat.le_of_ble_eq_true rfl) ?_
          refine mx_ishl (mx_d tX8_pointsOfOne_0 19 rfl) ?_
          obtain rfl := Option.some.inj h
          exact mx_ireturn (mx_d tX8_pointsOfOne_0 20 rfl) rfl ⟨rfl, rfl⟩
        · rw [if_pos hc7] at h
          refine mx_iconst (0) (mx_d tX8_pointsOfOne_0 13 rfl) (by decide) ?_
          refine mx_goto (tgt := 66) (mx_d tX8_pointsOfOne_0 14 rfl) (by decide) ?_
          obtain rfl := Option.some.inj h
          exact mx_ireturn (mx_d tX8_pointsOfOne_0 20 rfl) rfl ⟨rfl, rfl⟩
      · rw [if_neg hc5] at h
        by_cases hc9 : x1 = 116
        · rw [if_pos hc9] at h
          refine mx_tableIn (tgt := 67) (mx_d tX8_pointsOfOne_0 1 rfl) (by rw [hc9]; decide) (by rw [hc9]; decide) (by rw [hc9]; rfl) (by decide) ?_
          refine mx_aload_n (mx_d tX8_pointsOfOne_0 21 rfl) rfl rfl ?_
          refine mx_iload_n (mx_d tX8_pointsOfOne_0 22 rfl) rfl rfl ?_
          obtain ⟨r10, h_r10, h⟩ := Option.bind_eq_some_iff.mp h
          refine mx_cVi (mx_d tX8_pointsOfOne_0 23 rfl) iX8_112 rfl vX4_nearTo ⟨_, rfl, rfl⟩ (ly4_o h1) (CX4_nearTo h1 h_r10) (by decide) rfl rfl (Nat.le_of_ble_eq_true rfl) ?_
          obtain rfl := Option.some.inj h
          exact mx_ireturn (mx_d tX8_pointsOfOne_0 24 rfl) rfl ⟨rfl, rfl⟩
        · rw [if_neg hc9] at h
          by_cases hc11 : x1 = 117
          · rw [if_pos hc11] at h
            refine mx_tableIn (tgt := 73) (mx_d tX8_pointsOfOne_0 1 rfl) (by rw [hc11]; decide) (by rw [hc11]; decide) (by rw [hc11]; rfl) (by decide) ?_
            refine mx_aload_n (mx_d tX8_pointsOfOne_0 25 rfl) rfl rfl ?_
            refine mx_iload_n (mx_d tX8_pointsOfOne_0 26 rfl) rfl rfl ?_
            obtain ⟨r12, h_r12, h⟩ := Option.bind_eq_some_iff.mp h
            refine mx_cVi (mx_d tX8_pointsOfOne_0 27 rfl) iX8_115 rfl vX4_membersOf ⟨_, rfl, rfl⟩ (ly4_o h1) (CX4_membersOf h1 h_r12) (by decide) rfl rfl (Nat.le_of_ble_eq_true rfl) ?_
            obtain rfl := Option.some.inj h
            exact mx_ireturn (mx_d tX8_pointsOfOne_0 28 rfl) rfl ⟨rfl, rfl⟩
          · rw [if_neg hc11] at h
            have z_hc1 := lv_neT hc1 (a := 113) (by decide)
            have z_hc3 := lv_neT hc3 (a := 114) (by decide)
            have z_hc5 := lv_neT hc5 (a := 115) (by decide)
            have z_hc9 := lv_neT hc9 (a := 116) (by decide)
            have z_hc11 := lv_neT hc11 (a := 117) (by decide)
            refine mx_tableOut (tgt := 79) (mx_d tX8_pointsOfOne_0 1 rfl) (by omega) (by decide) ?_
            refine mx_aload_n (mx_d tX8_pointsOfOne_0 29 rfl) rfl rfl ?_
            refine mx_iload_n (mx_d tX8_pointsOfOne_0 30 rfl) rfl rfl ?_
            refine mx_iload_n (mx_d tX8_pointsOfOne_0 31 rfl) rfl rfl ?_
            refine mx_iload_n (mx_d tX8_pointsOfOne_0 32 rfl) rfl rfl ?_
            obtain ⟨r13, h_r13, h⟩ := Option.bind_eq_some_iff.mp h
            refine mx_cSi (mx_d tX8_pointsOfOne_0 33 rfl) iX8_118 rfl sX8_pointsCompared (CX8_pointsCompared h1 h_r13) (by decide) rfl rfl (Nat.le_of_ble_eq_true rfl) ?_
            obtain rfl := Option.some.inj h
            exact mx_ireturn (mx_d tX8_pointsOfOne_0 34 rfl) rfl ⟨rfl, rfl⟩
def FX8_pointsOf_L21 (q0 : Nat) (q1 : Nat) (y3 : Int32) : Nat → Int32 → Int32 → mB → Option (mB)
  | 0, _, _, _ => none
  | f + 1, y2, y4, m => (if (m.1 q0 4) ≤ y4 then (some (m)) else (if 40 ≤ y4 then (some (m)) else mx_chk (mx_inb y4 40) (mx_let (m.1 (q0 + 1) (Int32.toNatClampNeg y4)) (fun v7 => mx_let (fun (m9 : mB) => mx_let (fun (y12 : Int32) (m13 : mB) => mx_let (fun (y16 : Int32) (m17 : mB) => (if y16 < 0 then mx_let (y4 + 1) (fun v20 => (FX8_pointsOf_L21 q0 q1 y3 f y16 v20 m17)) else (if 40 ≤ y16 then mx_let (y4 + 1) (fun v22 => (FX8_pointsOf_L21 q0 q1 y3 f y16 v22 m17)) else Option.bind (FX8_pointsOfOne q1 v7 (m17.1 (q0 + 2) (Int32.toNatClampNeg y4)) (m17.1 (q0 + 3) (Int32.toNatClampNeg y4)) m17) (fun r23 => mx_chk (mx_inb y16 40) (mx_let (mx_up m17.1 (q0 + 4) (Int32.toNatClampNeg y16) r23, m17.2) (fun m24 => mx_let (y16 + 1) (fun v26 => mx_let (y4 + 1) (fun v27 => (FX8_pointsOf_L21 q0 q1 y3 f v26 v27 m24))))))))) (fun k18 => (if v7 = 110 then (if y12 < 2 then (k18 y12 m13) else (if 40 < y12 then (k18 y12 m13) else mx_chk (mx_inb (y12 - 2) 40) (mx_chk (mx_inb (y12 - 1) 40) (mx_let (mx_up m13.1 (q0 + 4) (Int32.toNatClampNeg (y12 - 2)) ((m13.1 (q0 + 4) (Int32.toNatClampNeg (y12 - 2))) ||| (m13.1 (q0 + 4) (Int32.toNatClampNeg (y12 - 1)))), m13.2) (fun m32 => mx_let (y12 + (-1)) (fun v33 => mx_let (y4 + 1) (fun v34 => (FX8_pointsOf_L21 q0 q1 y3 f v33 v34 m32)))))))) else (k18 y12 m13)))) (fun k14 => (if v7 = 111 then (if y2 < 2 then (k14 y2 m9) else (if 40 < y2 then (k14 y2 m9) else mx_chk (mx_inb (y2 - 2) 40) (mx_chk (mx_inb (y2 - 1) 40) (mx_let (mx_up m9.1 (q0 + 4) (Int32.toNatClampNeg (y2 - 2)) ((m9.1 (q0 + 4) (Int32.toNatClampNeg (y2 - 2))) &&& (m9.1 (q0 + 4) (Int32.toNatClampNeg (y2 - 1)))), m9.2) (fun m39 => mx_let (y2 + (-1)) (fun v40 => mx_let (y4 + 1) (fun v41 => (FX8_pointsOf_L21 q0 q1 y3 f v40 v41 m39)))))))) else (k14 y2 m9)))) (fun k10 => (if v7 = 112 then (if y2 < 1 then (k10 m) else (if 40 < y2 then (k10 m) else mx_chk (mx_inb (y2 - 1) 40) (mx_let (mx_up m.1 (q0 + 4) (Int32.toNatClampNeg (y2 - 1)) (y3 &&& ((m.1 (q0 + 4) (Int32.toNatClampNeg (y2 - 1))) ^^^ (-1))), m.2) (fun m45 => mx_let (y4 + 1) (fun v46 => (FX8_pointsOf_L21 q0 q1 y3 f y2 v46 m45)))))) else (k10 m)))))))
set_option maxRecDepth 20000 in
theorem CX8_pointsOf_L21 {G : mG} {l : Launch} {e : mE} {Post : Option Value → mS → Prop} {q0 : Nat} {q1 : Nat} {y3 : Int32} (g0 : ly8 e q0) (g1 : ly4 e q1) : ∀ (f : Nat) {y2 : Int32} {y4 : Int32} {m : mB} {q : (mB)}, FX8_pointsOf_L21 q0 q1 y3 f y2 y4 m = some q → (mx_Fr G l MX8_pointsOf 7 0 0 Post 218 [.ref q0, .float 0, .float 0, .float 0, .float 0, .float 0] [] (e, q)) → mx_Fr G l MX8_pointsOf 7 0 0 Post 21 [.ref q0, .ref q1, .int y2, .int y3, .int y4, .float 0] [] (e, m) := by
  intro f
  induction f with
  | zero => intro _ _ _ _ h; cases h
  | succ f ih =>
    intro y2 y4 m q h hex
    rw [FX8_pointsOf_L21] at h
    refine mx_iload (mx_d tX8_pointsOf_0 16 rfl) rfl ?_
    refine mx_aload_n (mx_d tX8_pointsOf_0 17 rfl) rfl rfl ?_
    refine mx_getI (mx_d tX8_pointsOf_0 18 rfl) fX8_32 rfl (Or.inl rfl) (ly8_o g0) ?_
    refine mx_icmp_ge (tgt := 218) (mx_d tX8_pointsOf_0 19 rfl) (by decide) (fun hc4 => ?_) (fun hc4 => ?_)
    · rw [if_pos hc4] at h
      obtain rfl := Option.some.inj h
      refine mx_forget (L' := [.ref q0, .float 0, .float 0, .float 0, .float 0, .float 0]) ⟨rfl, trivial⟩ ?_
      exact hex
    · rw [if_neg hc4] at h
      refine mx_iload (mx_d tX8_pointsOf_0 20 rfl) rfl ?_
      refine mx_bipush (40) (mx_d tX8_pointsOf_0 21 rfl) (by decide) ?_
      refine mx_icmp_ge (tgt := 218) (mx_d tX8_pointsOf_0 22 rfl) (by decide) (fun hc5 => ?_) (fun hc5 => ?_)
      · rw [if_pos hc5] at h
        obtain rfl := Option.some.inj h
        refine mx_forget (L' := [.ref q0, .float 0, .float 0, .float 0, .float 0, .float 0]) ⟨rfl, trivial⟩ ?_
        exact hex
      · rw [if_neg hc5] at h
        refine mx_aload_n (mx_d tX8_pointsOf_0 23 rfl) rfl rfl ?_
        refine mx_getR (mx_d tX8_pointsOf_0 24 rfl) fX8_9 rfl rfl (ly8_o g0) (ly8_r0 g0) ?_
        refine mx_iload (mx_d tX8_pointsOf_0 25 rfl) rfl ?_
        obtain ⟨hi6, h⟩ := mx_chkE h
        refine mx_iaload (mx_d tX8_pointsOf_0 26 rfl) (ly8_s0 g0) (mx_inbE hi6) ?_
        obtain ⟨v7, e_v7, h⟩ := mx_letE h
        refine mx_istore (L2 := [.ref q0, .ref q1, .int y2, .int y3, .int y4, .int v7]) (mx_d tX8_pointsOf_0 27 rfl) (by decide) (by rw [e_v7]; rfl) ?_
        refine mx_iload (mx_d tX8_pointsOf_0 28 rfl) rfl ?_
        refine mx_bipush (112) (mx_d tX8_pointsOf_0 29 rfl) (by decide) ?_
        refine mx_letK (J := fun k10 => ∀ {m9 : mB}, k10 m9 = some q → mx_Fr G l MX8_pointsOf 7 0 0 Post 87 [.ref q0, .ref q1, .int y2, .int y3, .int y4, .int v7] [] (e, m9)) h ?_ (fun k10 j_k10 h => ?_)
        · intro m9 h
          dsimp only at h
          refine mx_iload (mx_d tX8_pointsOf_0 54 rfl) rfl ?_
          refine mx_bipush (111) (mx_d tX8_pointsOf_0 55 rfl) (by decide) ?_
          refine mx_letK (J := fun k14 => ∀ {y12 : Int32} {m13 : mB}, k14 y12 m13 = some q → mx_Fr G l MX8_pointsOf 7 0 0 Post 130 [.ref q0, .ref q1, .int y12, .int y3, .int y4, .int v7] [] (e, m13)) h ?_ (fun k14 j_k14 h => ?_)
          · intro y12 m13 h
            dsimp only at h
            refine mx_iload (mx_d tX8_pointsOf_1 20 rfl) rfl ?_
            refine mx_bipush (110) (mx_d tX8_pointsOf_1 21 rfl) (by decide) ?_
            refine mx_letK (J := fun k18 => ∀ {y16 : Int32} {m17 : mB}, k18 y16 m17 = some q → mx_Fr G l MX8_pointsOf 7 0 0 Post 173 [.ref q0, .ref q1, .int y16, .int y3, .int y4, .int v7] [] (e, m17)) h ?_ (fun k18 j_k18 h => ?_)
            · intro y16 m17 h
              dsimp only at h
              refine mx_iload_n (mx_d tX8_pointsOf_1 46 rfl) rfl rfl ?_
              refine mx_if_lt (tgt := 212) (mx_d tX8_pointsOf_1 47 rfl) (by decide) (fun hc19 => ?_) (fun hc19 => ?_)
              · rw [if_pos hc19] at h
                obtain ⟨v20, e_v20, h⟩ := mx_letE h
                refine mx_iinc v20 (L2 := [.ref q0, .ref q1, .int y16, .int y3, .int v20, .int v7]) (mx_d tX8_pointsOf_2 7 rfl) rfl (by rw [e_v20]; rfl) (by decide) rfl ?_
                refine mx_goto (tgt := 21) (mx_d tX8_pointsOf_2 8 rfl) (by decide) ?_
                refine mx_forget (L' := [.ref q0, .ref q1, .int y16, .int y3, .int v20, .float 0]) ⟨rfl, rfl, rfl, rfl, rfl, trivial⟩ ?_
                exact ih h hex
              · rw [if_neg hc19] at h
                refine mx_iload_n (mx_d tX8_pointsOf_1 48 rfl) rfl rfl ?_
                refine mx_bipush (40) (mx_d tX8_pointsOf_1 49 rfl) (by decide) ?_
                refine mx_icmp_ge (tgt := 212) (mx_d tX8_pointsOf_1 50 rfl) (by decide) (fun hc21 => ?_) (fun hc21 => ?_)
                · rw [if_pos hc21] at h
                  obtain ⟨v22, e_v22, h⟩ := mx_letE h
                  refine mx_iinc v22 (L2 := [.ref q0, .ref q1, .int y16, .int y3, .int v22, .int v7]) (mx_d tX8_pointsOf_2 7 rfl) rfl (by rw [e_v22]; rfl) (by decide) rfl ?_
                  refine mx_goto (tgt := 21) (mx_d tX8_pointsOf_2 8 rfl) (by decide) ?_
                  refine mx_forget (L' := [.ref q0, .ref q1, .int y16, .int y3, .int v22, .float 0]) ⟨rfl, rfl, rfl, rfl, rfl, trivial⟩ ?_
                  exact ih h hex
                · rw [if_neg hc21] at h
                  refine mx_aload_n (mx_d tX8_pointsOf_1 51 rfl) rfl rfl ?_
                  refine mx_getR (mx_d tX8_pointsOf_1 52 rfl) fX8_21 rfl rfl (ly8_o g0) (ly8_r3 g0) ?_
                  refine mx_iload_n (mx_d tX8_pointsOf_1 53 rfl) rfl rfl ?_
                  refine mx_aload_n (mx_d tX8_pointsOf_1 54 rfl) rfl rfl ?_
                  refine mx_iload (mx_d tX8_pointsOf_1 55 rfl) rfl ?_
                  refine mx_aload_n (mx_d tX8_pointsOf_1 56 rfl) rfl rfl ?_
                  refine mx_getR (mx_d tX8_pointsOf_1 57 rfl) fX8_15 rfl rfl (ly8_o g0) (ly8_r1 g0) ?_
                  refine mx_iload (mx_d tX8_pointsOf_1 58 rfl) rfl ?_
                  refine mx_iaload (mx_d tX8_pointsOf_1 59 rfl) (ly8_s1 g0) (mx_inbE hi6) ?_
                  refine mx_aload_n (mx_d tX8_pointsOf_2 0 rfl) rfl rfl ?_
                  refine mx_getR (mx_d tX8_pointsOf_2 1 rfl) fX8_18 rfl rfl (ly8_o g0) (ly8_r2 g0) ?_
                  refine mx_iload (mx_d tX8_pointsOf_2 2 rfl) rfl ?_
                  refine mx_iaload (mx_d tX8_pointsOf_2 3 rfl) (ly8_s2 g0) (mx_inbE hi6) ?_
                  obtain ⟨r23, h_r23, h⟩ := Option.bind_eq_some_iff.mp h
                  refine mx_cSi (mx_d tX8_pointsOf_2 4 rfl) iX8_98 rfl sX8_pointsOfOne (CX8_pointsOfOne g1 h_r23) (by decide) rfl rfl (Nat.le_of_ble_eq_true rfl) ?_
                  obtain ⟨hi25, h⟩ := mx_chkE h
                  obtain ⟨m24, e_m24, h⟩ := mx_letE h
                  refine mx_iastore (mx_d tX8_pointsOf_2 5 rfl) (ly8_s3 g0) (mx_inbE hi25) (mx_eqz (z' := (e, m24)) (by rw [e_m24]) ?_)
                  obtain ⟨v26, e_v26, h⟩ := mx_letE h
                  refine mx_iinc v26 (L2 := [.ref q0, .ref q1, .int v26, .int y3, .int y4, .int v7]) (mx_d tX8_pointsOf_2 6 rfl) rfl (by rw [e_v26]; rfl) (by decide) rfl ?_
                  obtain ⟨v27, e_v27, h⟩ := mx_letE h
                  refine mx_iinc v27 (L2 := [.ref q0, .ref q1, .int v26, .int y3, .int v27, .int v7]) (mx_d tX8_pointsOf_2 7 rfl) rfl (by rw [e_v27]; rfl) (by decide) rfl ?_
                  refine mx_goto (tgt := 21) (mx_d tX8_pointsOf_2 8 rfl) (by decide) ?_
                  refine mx_forget (L' := [.ref q0, .ref q1, .int v26, .int y3, .int v27, .float 0]) ⟨rfl, rfl, rfl, rfl, rfl, trivial⟩ ?_
                  exact ih h hex
            refine mx_icmp_ne (tgt := 173) (mx_d tX8_pointsOf_1 22 rfl) (by decide) (fun hc15 => ?_) (fun hc15 => ?_)
            · rw [if_neg hc15] at h
              exact j_k18 h
            · rw [if_pos hc15] at h
              refine mx_iload_n (mx_d tX8_pointsOf_1 23 rfl) rfl rfl ?_
              refine mx_iconst (2) (mx_d tX8_pointsOf_1 24 rfl) (by decide) ?_
              refine mx_icmp_lt (tgt := 173) (mx_d tX8_pointsOf_1 25 rfl) (by decide) (fun hc28 => ?_) (fun hc28 => ?_)
              · rw [if_pos hc28] at h
                exact j_k18 h
              · rw [if_neg hc28] at h
                refine mx_iload_n (mx_d tX8_pointsOf_1 26 rfl) rfl rfl ?_
                refine mx_bipush (40) (mx_d tX8_pointsOf_1 27 rfl) (by decide) ?_
                refine mx_icmp_gt (tgt := 173) (mx_d tX8_pointsOf_1 28 rfl) (by decide) (fun hc29 => ?_) (fun hc29 => ?_)
                · rw [if_pos hc29] at h
                  exact j_k18 h
                · rw [if_neg hc29] at h
                  refine mx_aload_n (mx_d tX8_pointsOf_1 29 rfl) rfl rfl ?_
                  refine mx_getR (mx_d tX8_pointsOf_1 30 rfl) fX8_21 rfl rfl (ly8_o g0) (ly8_r3 g0) ?_
                  refine mx_iload_n (mx_d tX8_pointsOf_1 31 rfl) rfl rfl ?_
                  refine mx_iconst (2) (mx_d tX8_pointsOf_1 32 rfl) (by decide) ?_
                  refine mx_isub (mx_d tX8_pointsOf_1 33 rfl) ?_
                  refine mx_dup2 (mx_d tX8_pointsOf_1 34 rfl) rfl rfl ?_
                  obtain ⟨hi30, h⟩ := mx_chkE h
                  refine mx_iaload (mx_d tX8_pointsOf_1 35 rfl) (ly8_s3 g0) (mx_inbE hi30) ?_
                  refine mx_aload_n (mx_d tX8_pointsOf_1 36 rfl) rfl rfl ?_
                  refine mx_getR (mx_d tX8_pointsOf_1 37 rfl) fX8_21 rfl rfl (ly8_o g0) (ly8_r3 g0) ?_
                  refine mx_iload_n (mx_d tX8_pointsOf_1 38 rfl) rfl rfl ?_
                  refine mx_iconst (1) (mx_d tX8_pointsOf_1 39 rfl) (by decide) ?_
                  refine mx_isub (mx_d tX8_pointsOf_1 40 rfl) ?_
                  obtain ⟨hi31, h⟩ := mx_chkE h
                  refine mx_iaload (mx_d tX8_pointsOf_1 41 rfl) (ly8_s3 g0) (mx_inbE hi31) ?_
                  refine mx_ior (mx_d tX8_pointsOf_1 42 rfl) ?_
                  obtain ⟨m32, e_m32, h⟩ := mx_letE h
                  refine mx_iastore (mx_d tX8_pointsOf_1 43 rfl) (ly8_s3 g0) (mx_inbE hi30) (mx_eqz (z' := (e, m32)) (by rw [e_m32]) ?_)
                  obtain ⟨v33, e_v33, h⟩ := mx_letE h
                  refine mx_iinc v33 (L2 := [.ref q0, .ref q1, .int v33, .int y3, .int y4, .int v7]) (mx_d tX8_pointsOf_1 44 rfl) rfl (by rw [e_v33]; rfl) (by decide) rfl ?_
                  refine mx_goto (tgt := 212) (mx_d tX8_pointsOf_1 45 rfl) (by decide) ?_
                  obtain ⟨v34, e_v34, h⟩ := mx_letE h
                  refine mx_iinc v34 (L2 := [.ref q0, .ref q1, .int v33, .int y3, .int v34, .int v7]) (mx_d tX8_pointsOf_2 7 rfl) rfl (by rw [e_v34]; rfl) (by decide) rfl ?_
                  refine mx_goto (tgt := 21) (mx_d tX8_pointsOf_2 8 rfl) (by decide) ?_
                  refine mx_forget (L' := [.ref q0, .ref q1, .int v33, .int y3, .int v34, .float 0]) ⟨rfl, rfl, rfl, rfl, rfl, trivial⟩ ?_
                  exact ih h hex
          refine mx_icmp_ne (tgt := 130) (mx_d tX8_pointsOf_0 56 rfl) (by decide) (fun hc11 => ?_) (fun hc11 => ?_)
          · rw [if_neg hc11] at h
            exact j_k14 h
          · rw [if_pos hc11] at h
            refine mx_iload_n (mx_d tX8_pointsOf_0 57 rfl) rfl rfl ?_
            refine mx_iconst (2) (mx_d tX8_pointsOf_0 58 rfl) (by decide) ?_
            refine mx_icmp_lt (tgt := 130) (mx_d tX8_pointsOf_0 59 rfl) (by decide) (fun hc35 => ?_) (fun hc35 => ?_)
            · rw [if_pos hc35] at h
              exact j_k14 h
            · rw [if_neg hc35] at h
              refine mx_iload_n (mx_d tX8_pointsOf_1 0 rfl) rfl rfl ?_
              refine mx_bipush (40) (mx_d tX8_pointsOf_1 1 rfl) (by decide) ?_
              refine mx_icmp_gt (tgt := 130) (mx_d tX8_pointsOf_1 2 rfl) (by decide) (fun hc36 => ?_) (fun hc36 => ?_)
              · rw [if_pos hc36] at h
                exact j_k14 h
              · rw [if_neg hc36] at h
                refine mx_aload_n (mx_d tX8_pointsOf_1 3 rfl) rfl rfl ?_
                refine mx_getR (mx_d tX8_pointsOf_1 4 rfl) fX8_21 rfl rfl (ly8_o g0) (ly8_r3 g0) ?_
                refine mx_iload_n (mx_d tX8_pointsOf_1 5 rfl) rfl rfl ?_
                refine mx_iconst (2) (mx_d tX8_pointsOf_1 6 rfl) (by decide) ?_
                refine mx_isub (mx_d tX8_pointsOf_1 7 rfl) ?_
                refine mx_dup2 (mx_d tX8_pointsOf_1 8 rfl) rfl rfl ?_
                obtain ⟨hi37, h⟩ := mx_chkE h
                refine mx_iaload (mx_d tX8_pointsOf_1 9 rfl) (ly8_s3 g0) (mx_inbE hi37) ?_
                refine mx_aload_n (mx_d tX8_pointsOf_1 10 rfl) rfl rfl ?_
                refine mx_getR (mx_d tX8_pointsOf_1 11 rfl) fX8_21 rfl rfl (ly8_o g0) (ly8_r3 g0) ?_
                refine mx_iload_n (mx_d tX8_pointsOf_1 12 rfl) rfl rfl ?_
                refine mx_iconst (1) (mx_d tX8_pointsOf_1 13 rfl) (by decide) ?_
                refine mx_isub (mx_d tX8_pointsOf_1 14 rfl) ?_
                obtain ⟨hi38, h⟩ := mx_chkE h
                refine mx_iaload (mx_d tX8_pointsOf_1 15 rfl) (ly8_s3 g0) (mx_inbE hi38) ?_
                refine mx_iand (mx_d tX8_pointsOf_1 16 rfl) ?_
                obtain ⟨m39, e_m39, h⟩ := mx_letE h
                refine mx_iastore (mx_d tX8_pointsOf_1 17 rfl) (ly8_s3 g0) (mx_inbE hi37) (mx_eqz (z' := (e, m39)) (by rw [e_m39]) ?_)
                obtain ⟨v40, e_v40, h⟩ := mx_letE h
                refine mx_iinc v40 (L2 := [.ref q0, .ref q1, .int v40, .int y3, .int y4, .int v7]) (mx_d tX8_pointsOf_1 18 rfl) rfl (by rw [e_v40]; rfl) (by decide) rfl ?_
                refine mx_goto (tgt := 212) (mx_d tX8_pointsOf_1 19 rfl) (by decide) ?_
                obtain ⟨v41, e_v41, h⟩ := mx_letE h
                refine mx_iinc v41 (L2 := [.ref q0, .ref q1, .int v40, .int y3, .int v41, .int v7]) (mx_d tX8_pointsOf_2 7 rfl) rfl (by rw [e_v41]; rfl) (by decide) rfl ?_
                refine mx_goto (tgt := 21) (mx_d tX8_pointsOf_2 8 rfl) (by decide) ?_
                refine mx_forget (L' := [.ref q0, .ref q1, .int v40, .int y3, .int v41, .float 0]) ⟨rfl, rfl, rfl, rfl, rfl, trivial⟩ ?_
                exact ih h hex
        refine mx_icmp_ne (tgt := 87) (mx_d tX8_pointsOf_0 30 rfl) (by decide) (fun hc8 => ?_) (fun hc8 => ?_)
        · rw [if_neg hc8] at h
          exact j_k10 h
        · rw [if_pos hc8] at h
          refine mx_iload_n (mx_d tX8_pointsOf_0 31 rfl) rfl rfl ?_
          refine mx_iconst (1) (mx_d tX8_pointsOf_0 32 rfl) (by decide) ?_
          refine mx_icmp_lt (tgt := 87) (mx_d tX8_pointsOf_0 33 rfl) (by decide) (fun hc42 => ?_) (fun hc42 => ?_)
          · rw [if_pos hc42] at h
            exact j_k10 h
          · rw [if_neg hc42] at h
            refine mx_iload_n (mx_d tX8_pointsOf_0 34 rfl) rfl rfl ?_
            refine mx_bipush (40) (mx_d tX8_pointsOf_0 35 rfl) (by decide) ?_
            refine mx_icmp_gt (tgt := 87) (mx_d tX8_pointsOf_0 36 rfl) (by decide) (fun hc43 => ?_) (fun hc43 => ?_)
            · rw [if_pos hc43] at h
              exact j_k10 h
            · rw [if_neg hc43] at h
              refine mx_aload_n (mx_d tX8_pointsOf_0 37 rfl) rfl rfl ?_
              refine mx_getR (mx_d tX8_pointsOf_0 38 rfl) fX8_21 rfl rfl (ly8_o g0) (ly8_r3 g0) ?_
              refine mx_iload_n (mx_d tX8_pointsOf_0 39 rfl) rfl rfl ?_
              refine mx_iconst (1) (mx_d tX8_pointsOf_0 40 rfl) (by decide) ?_
              refine mx_isub (mx_d tX8_pointsOf_0 41 rfl) ?_
              refine mx_iload_n (mx_d tX8_pointsOf_0 42 rfl) rfl rfl ?_
              refine mx_aload_n (mx_d tX8_pointsOf_0 43 rfl) rfl rfl ?_
              refine mx_getR (mx_d tX8_pointsOf_0 44 rfl) fX8_21 rfl rfl (ly8_o g0) (ly8_r3 g0) ?_
              refine mx_iload_n (mx_d tX8_pointsOf_0 45 rfl) rfl rfl ?_
              refine mx_iconst (1) (mx_d tX8_pointsOf_0 46 rfl) (by decide) ?_
              refine mx_isub (mx_d tX8_pointsOf_0 47 rfl) ?_
              obtain ⟨hi44, h⟩ := mx_chkE h
              refine mx_iaload (mx_d tX8_pointsOf_0 48 rfl) (ly8_s3 g0) (mx_inbE hi44) ?_
              refine mx_iconst ((-1)) (mx_d tX8_pointsOf_0 49 rfl) (by decide) ?_
              refine mx_ixor (mx_d tX8_pointsOf_0 50 rfl) ?_
              refine mx_iand (mx_d tX8_pointsOf_0 51 rfl) ?_
              obtain ⟨m45, e_m45, h⟩ := mx_letE h
              refine mx_iastore (mx_d tX8_pointsOf_0 52 rfl) (ly8_s3 g0) (mx_inbE hi44) (mx_eqz (z' := (e, m45)) (by rw [e_m45]) ?_)
              refine mx_goto (tgt := 212) (mx_d tX8_pointsOf_0 53 rfl) (by decide) ?_
              obtain ⟨v46, e_v46, h⟩ := mx_letE h
              refine mx_iinc v46 (L2 := [.ref q0, .ref q1, .int y2, .int y3, .int v46, .int v7]) (mx_d tX8_pointsOf_2 7 rfl) rfl (by rw [e_v46]; rfl) (by decide) rfl ?_
              refine mx_goto (tgt := 21) (mx_d tX8_pointsOf_2 8 rfl) (by decide) ?_
              refine mx_forget (L' := [.ref q0, .ref q1, .int y2, .int y3, .int v46, .float 0]) ⟨rfl, rfl, rfl, rfl, rfl, trivial⟩ ?_
              exact ih h hex
def FX8_pointsOf (a : Nat) (p0 : Nat) (m : mB) : Option (Int32 × mB) := Option.bind (FX4_points p0 m) (fun r1 => mx_let (((1 : Int32) <<< (r1 &&& 31)) - 1) (fun v2 => mx_let (mx_up m.1 (a + 4) 0 0, m.2) (fun m3 => Option.bind (FX8_pointsOf_L21 a p0 v2 mx_FU 0 0 m3) (fun q47 => (some ((q47.1 (a + 4) 0), q47))))))
set_option maxRecDepth 20000 in
theorem CX8_pointsOf {G : mG} {l : Launch} {e : mE} {a : Nat} {p0 : Nat} {m : mB} {r : (Int32 × mB)} (h0 : ly8 e a) (h1 : ly4 e p0) (h : FX8_pointsOf a p0 m = some r) : mx_Call G l MX8_pointsOf 7 0 0 [.ref a, .ref p0] (e, m) (fun v z => v = some (.int r.1) ∧ z = (e, r.2)) := by
  refine mx_entry (L := [.ref a, .ref p0, .float 0, .float 0, .float 0, .float 0]) (by decide +kernel) (Nat.le_of_ble_eq_true rfl) rfl ?_
  unfold FX8_pointsOf at h
  refine mx_iconst (0) (mx_d tX8_pointsOf_0 0 rfl) (by decide) ?_
  refine mx_istore_n (L2 := [.ref a, .ref p0, .int 0, .float 0, .float 0, .float 0]) (mx_d tX8_pointsOf_0 1 rfl) rfl (by decide) (by rfl) ?_
  refine mx_iconst (1) (mx_d tX8_pointsOf_0 2 rfl) (by decide) ?_
  refine mx_aload_n (mx_d tX8_pointsOf_0 3 rfl) rfl rfl ?_
  obtain ⟨r1, h_r1, h⟩ := Option.bind_eq_some_iff.mp h
  refine mx_cVi (mx_d tX8_pointsOf_0 4 rfl) iX8_93 rfl vX4_points ⟨_, rfl, rfl⟩ (ly4_o h1) (CX4_points h1 h_r1) (by decide) rfl rfl (Nat.le_of_ble_eq_true rfl) ?_
  refine mx_ishl (mx_d tX8_pointsOf_0 5 rfl) ?_
  refine mx_iconst (1) (mx_d tX8_pointsOf_0 6 rfl) (by decide) ?_
  refine mx_isub (mx_d tX8_pointsOf_0 7 rfl) ?_
  obtain ⟨v2, e_v2, h⟩ := mx_letE h
  refine mx_istore_n (L2 := [.ref a, .ref p0, .int 0, .int v2, .float 0, .float 0]) (mx_d tX8_pointsOf_0 8 rfl) rfl (by decide) (by rw [e_v2]; rfl) ?_
  refine mx_aload_n (mx_d tX8_pointsOf_0 9 rfl) rfl rfl ?_
  refine mx_getR (mx_d tX8_pointsOf_0 10 rfl) fX8_21 rfl rfl (ly8_o h0) (ly8_r3 h0) ?_
  refine mx_iconst (0) (mx_d tX8_pointsOf_0 11 rfl) (by decide) ?_
  refine mx_iconst (0) (mx_d tX8_pointsOf_0 12 rfl) (by decide) ?_
  obtain ⟨m3, e_m3, h⟩ := mx_letE h
  refine mx_iastoreC 0 (mx_d tX8_pointsOf_0 13 rfl) (ly8_s3 h0) (by decide) (mx_inbE (by decide)) (mx_eqz (z' := (e, m3)) (by rw [e_m3]) ?_)
  refine mx_iconst (0) (mx_d tX8_pointsOf_0 14 rfl) (by decide) ?_
  refine mx_istore (L2 := [.ref a, .ref p0, .int 0, .int v2, .int 0, .float 0]) (mx_d tX8_pointsOf_0 15 rfl) (by decide) (by rfl) ?_
  obtain ⟨q47, h_q47, h⟩ := Option.bind_eq_some_iff.mp h
  refine CX8_pointsOf_L21 h0 h1 mx_FU h_q47 ?_
  refine mx_aload_n (mx_d tX8_pointsOf_2 9 rfl) rfl rfl ?_
  refine mx_getR (mx_d tX8_pointsOf_2 10 rfl) fX8_21 rfl rfl (ly8_o h0) (ly8_r3 h0) ?_
  refine mx_iconst (0) (mx_d tX8_pointsOf_2 11 rfl) (by decide) ?_
  refine mx_ialoadC 0 (mx_d tX8_pointsOf_2 12 rfl) (ly8_s3 h0) (by decide) (mx_inbE (by decide)) ?_
  obtain rfl := Option.some.inj h
  exact mx_ireturn (mx_d tX8_pointsOf_2 13 rfl) rfl ⟨rfl, rfl⟩
def FX9_row (a : Nat) (m : mB) : Option Nat := (some (a + 1))
set_option maxRecDepth 20000 in
theorem CX9_row {G : mG} {l : Launch} {e : mE} {a : Nat} {m : mB} {r : Nat} (h0 : ly9 e a) (h : FX9_row a m = some r) : mx_Call G l MX9_row 1 0 0 [.ref a] (e, m) (fun v z => v = some (.ref r) ∧ z = (e, m)) := by
  refine mx_entry (L := [.ref a]) (by decide +kernel) (Nat.le_of_ble_eq_true rfl) rfl ?_
  unfold FX9_row at h
  refine mx_aload_n (mx_d tX9_row_0 0 rfl) rfl rfl ?_
  refine mx_getR (mx_d tX9_row_0 1 rfl) fX9_14 rfl rfl (ly9_o h0) (ly9_r0 h0) ?_
  obtain rfl := Option.some.inj h
  exact mx_areturn (mx_d tX9_row_0 2 rfl) rfl ⟨rfl, rfl⟩
def FX9_findPath (a : Nat) (p0 : Nat) (x1 : Int32) (m : mB) : Option (Int32 × mB) := Option.bind (FX4_isLone p0 x1 m) (fun r1 => (if r1 = 0 then (some (0, m)) else Option.bind (FX9_findRow a p0 x1 0 0 m) (fun r3 => (if r3.1 = 0 then (some (0, r3.2)) else (some (1, r3.2))))))
set_option maxRecDepth 20000 in
theorem CX9_findPath {G : mG} {l : Launch} {e : mE} {a : Nat} {p0 : Nat} {x1 : Int32} {m : mB} {r : (Int32 × mB)} (h0 : ly9 e a) (h1 : ly4 e p0) (h : FX9_findPath a p0 x1 m = some r) : mx_Call G l MX9_findPath 194 0 0 [.ref a, .ref p0, .int x1] (e, m) (fun v z => v = some (.int r.1) ∧ z = (e, r.2)) := by
  refine mx_entry (L := [.ref a, .ref p0, .int x1]) (by decide +kernel) (Nat.le_of_ble_eq_true rfl) rfl ?_
  unfold FX9_findPath at h
  refine mx_aload_n (mx_d tX9_findPath_0 0 rfl) rfl rfl ?_
  refine mx_iload_n (mx_d tX9_findPath_0 1 rfl) rfl rfl ?_
  obtain ⟨r1, h_r1, h⟩ := Option.bind_eq_some_iff.mp h
  refine mx_cVi (mx_d tX9_findPath_0 2 rfl) iX9_20 rfl vX4_isLone ⟨_, rfl, rfl⟩ (ly4_o h1) (CX4_isLone h1 h_r1) (by decide) rfl rfl (Nat.le_of_ble_eq_true rfl) ?_
  refine mx_if_eq (tgt := 23) (mx_d tX9_findPath_0 3 rfl) (by decide) (fun hc2 => ?_) (fun hc2 => ?_)
  · rw [if_pos hc2] at h
    refine mx_iconst (0) (mx_d tX9_findPath_0 13 rfl) (by decide) ?_
    obtain rfl := Option.some.inj h
    exact mx_zreturn (mx_d tX9_findPath_0 14 rfl) rfl rfl ⟨rfl, rfl⟩
  · rw [if_neg hc2] at h
    refine mx_aload_n (mx_d tX9_findPath_0 4 rfl) rfl rfl ?_
    refine mx_aload_n (mx_d tX9_findPath_0 5 rfl) rfl rfl ?_
    refine mx_iload_n (mx_d tX9_findPath_0 6 rfl) rfl rfl ?_
    refine mx_iconst (0) (mx_d tX9_findPath_0 7 rfl) (by decide) ?_
    refine mx_iconst (0) (mx_d tX9_findPath_0 8 rfl) (by decide) ?_
    obtain ⟨r3, h_r3, h⟩ := Option.bind_eq_some_iff.mp h
    refine mx_cVi (mx_d tX9_findPath_0 9 rfl) iX9_26 rfl vX9_findRow ⟨_, rfl, rfl⟩ (ly9_o h0) (CX9_findRow h0 h1 h_r3) (by decide) rfl rfl (Nat.le_of_ble_eq_true rfl) ?_
    refine mx_if_eq (tgt := 23) (mx_d tX9_findPath_0 10 rfl) (by decide) (fun hc4 => ?_) (fun hc4 => ?_)
    · rw [if_pos hc4] at h
      refine mx_iconst (0) (mx_d tX9_findPath_0 13 rfl) (by decide) ?_
      obtain rfl := Option.some.inj h
      exact mx_zreturn (mx_d tX9_findPath_0 14 rfl) rfl rfl ⟨rfl, rfl⟩
    · rw [if_neg hc4] at h
      refine mx_iconst (1) (mx_d tX9_findPath_0 11 rfl) (by decide) ?_
      refine mx_goto (tgt := 24) (mx_d tX9_findPath_0 12 rfl) (by decide) ?_
      obtain rfl := Option.some.inj h
      exact mx_zreturn (mx_d tX9_findPath_0 14 rfl) rfl rfl ⟨rfl, rfl⟩
def FX9_findFlower (a : Nat) (p0 : Nat) (x1 : Int32) (m : mB) : Option (Int32 × mB) := Option.bind (FX4_hasPoint p0 x1 m) (fun r1 => (if r1 = 0 then (some (0, m)) else Option.bind (FX9_findRow a p0 x1 1 1 m) (fun r3 => (if r3.1 = 0 then (some (0, r3.2)) else (some (1, r3.2))))))
set_option maxRecDepth 20000 in
theorem CX9_findFlower {G : mG} {l : Launch} {e : mE} {a : Nat} {p0 : Nat} {x1 : Int32} {m : mB} {r : (Int32 × mB)} (h0 : ly9 e a) (h1 : ly4 e p0) (h : FX9_findFlower a p0 x1 m = some r) : mx_Call G l MX9_findFlower 194 0 0 [.ref a, .ref p0, .int x1] (e, m) (fun v z => v = some (.int r.1) ∧ z = (e, r.2)) := by
  refine mx_entry (L := [.ref a, .ref p0, .int x1]) (by decide +kernel) (Nat.le_of_ble_eq_true rfl) rfl ?_
  unfold FX9_findFlower at h
  refine mx_aload_n (mx_d tX9_findFlower_0 0 rfl) rfl rfl ?_
  refine mx_iload_n (mx_d tX9_findFlower_0 1 rfl) rfl rfl ?_
  obtain ⟨r1, h_r1, h⟩ := Option.bind_eq_some_iff.mp h
  refine mx_cVi (mx_d tX9_findFlower_0 2 rfl) iX9_30 rfl vX4_hasPoint ⟨_, rfl, rfl⟩ (ly4_o h1) (CX4_hasPoint h1 h_r1) (by decide) rfl rfl (Nat.le_of_ble_eq_true rfl) ?_
  refine mx_if_eq (tgt := 23) (mx_d tX9_findFlower_0 3 rfl) (by decide) (fun hc2 => ?_) (fun hc2 => ?_)
  · rw [if_pos hc2] at h
    refine mx_iconst (0) (mx_d tX9_findFlower_0 13 rfl) (by decide) ?_
    obtain rfl := Option.some.inj h
    exact mx_zreturn (mx_d tX9_findFlower_0 14 rfl) rfl rfl ⟨rfl, rfl⟩
  · rw [if_neg hc2] at h
    refine mx_aload_n (mx_d tX9_findFlower_0 4 rfl) rfl rfl ?_
    refine mx_aload_n (mx_d tX9_findFlower_0 5 rfl) rfl rfl ?_
    refine mx_iload_n (mx_d tX9_findFlower_0 6 rfl) rfl rfl ?_
    refine mx_iconst (1) (mx_d tX9_findFlower_0 7 rfl) (by decide) ?_
    refine mx_iconst (1) (mx_d tX9_findFlower_0 8 rfl) (by decide) ?_
    obtain ⟨r3, h_r3, h⟩ := Option.bind_eq_some_iff.mp h
    refine mx_cVi (mx_d tX9_findFlower_0 9 rfl) iX9_26 rfl vX9_findRow ⟨_, rfl, rfl⟩ (ly9_o h0) (CX9_findRow h0 h1 h_r3) (by decide) rfl rfl (Nat.le_of_ble_eq_true rfl) ?_
    refine mx_if_eq (tgt := 23) (mx_d tX9_findFlower_0 10 rfl) (by decide) (fun hc4 => ?_) (fun hc4 => ?_)
    · rw [if_pos hc4] at h
      refine mx_iconst (0) (mx_d tX9_findFlower_0 13 rfl) (by decide) ?_
      obtain rfl := Option.some.inj h
      exact mx_zreturn (mx_d tX9_findFlower_0 14 rfl) rfl rfl ⟨rfl, rfl⟩
    · rw [if_neg hc4] at h
      refine mx_iconst (1) (mx_d tX9_findFlower_0 11 rfl) (by decide) ?_
      refine mx_goto (tgt := 24) (mx_d tX9_findFlower_0 12 rfl) (by decide) ?_
      obtain rfl := Option.some.inj h
      exact mx_zreturn (mx_d tX9_findFlower_0 14 rfl) rfl rfl ⟨rfl, rfl⟩
def FX9_strokeOn_L74 (rec : Nat → Nat → Int32 → Int32 → Int32 → Int32 → Int32 → mB → Option mB) (q0 : Nat) (q1 : Nat) (y2 : Int32) (y3 : Int32) (y4 : Int32) (y5 : Int32) (y6 : Int32) (y7 : Int32) : Nat → Int32 → mB → Option (mB)
  | 0, _, _ => none
  | f + 1, y8, m => (if 10 ≤ y8 then (some (m)) else (if ((y7 >>> (y8 &&& 31)) &&& 1) = 0 then mx_let (y8 + 1) (fun v23 => (FX9_strokeOn_L74 rec q0 q1 y2 y3 y4 y5 y6 y7 f v23 m)) else Option.bind (FX4_weightOf q1 y3 y8 m) (fun r11 => mx_let (y5 + r11) (fun v12 => Option.bind (FX4_partnerOf q1 y8 m) (fun r13 => (if r13 = (-1) then Option.bind (FJ9_max_7cf53 (m.1 q0 1) v12 m) (fun r20 => mx_let (mx_up m.1 q0 1 r20, m.2) (fun m21 => mx_let (y8 + 1) (fun v22 => (FX9_strokeOn_L74 rec q0 q1 y2 y3 y4 y5 y6 y7 f v22 m21)))) else (if y6 ≤ 0 then mx_let (y8 + 1) (fun v16 => (FX9_strokeOn_L74 rec q0 q1 y2 y3 y4 y5 y6 y7 f v16 m)) else Option.bind (FX4_weightOf q1 y8 r13 m) (fun r17 => Option.bind (rec q0 q1 y2 r13 ((y4 ||| ((1 : Int32) <<< (y8 &&& 31))) ||| ((1 : Int32) <<< (r13 &&& 31))) (v12 - r17) (y6 - 1) m) (fun r18 => mx_let (y8 + 1) (fun v19 => (FX9_strokeOn_L74 rec q0 q1 y2 y3 y4 y5 y6 y7 f v19 r18)))))))))))
set_option maxRecDepth 20000 in
theorem CX9_strokeOn_L74 {G : mG} {l : Launch} {e : mE} {Post : Option Value → mS → Prop} {rec : Nat → Nat → Int32 → Int32 → Int32 → Int32 → Int32 → mB → Option mB} {D : Nat} {q0 : Nat} {q1 : Nat} {y2 : Int32} {y3 : Int32} {y4 : Int32} {y5 : Int32} {y6 : Int32} {y7 : Int32} (hrec : ∀ {a : Nat} {p0 : Nat} {x1 : Int32} {x2 : Int32} {x3 : Int32} {x4 : Int32} {x5 : Int32} {m : mB} {r : mB}, ly9 e a → ly4 e p0 → rec a p0 x1 x2 x3 x4 x5 m = some r → mx_Call G l MX9_strokeOn D 0 0 [.ref a, .ref p0, .int x1, .int x2, .int x3, .int x4, .int x5] (e, m) (fun v z => v = none ∧ z = (e, r))) (g0 : ly9 e q0) (g1 : ly4 e q1) : ∀ (f : Nat) {y8 : Int32} {m : mB} {q : (mB)}, FX9_strokeOn_L74 rec q0 q1 y2 y3 y4 y5 y6 y7 f y8 m = some q → (mx_Fr G l MX9_strokeOn (D + 4) 0 0 Post 182 [.float 0, .float 0, .float 0, .float 0, .float 0, .float 0, .float 0, .float 0, .float 0, .float 0, .float 0] [] (e, q)) → mx_Fr G l MX9_strokeOn (D + 4) 0 0 Post 74 [.ref q0, .ref q1, .int y2, .int y3, .int y4, .int y5, .int y6, .int y7, .int y8, .float 0, .float 0] [] (e, m) := by
  intro f
  induction f with
  | zero => intro _ _ _ h; cases h
  | succ f ih =>
    intro y8 m q h hex
    rw [FX9_strokeOn_L74] at h
    refine mx_iload (mx_d tX9_strokeOn_0 40 rfl) rfl ?_
    refine mx_bipush (10) (mx_d tX9_strokeOn_0 41 rfl) (by decide) ?_
    refine mx_icmp_ge (tgt := 182) (mx_d tX9_strokeOn_0 42 rfl) (by decide) (fun hc9 => ?_) (fun hc9 => ?_)
    · rw [if_pos hc9] at h
      obtain rfl := Option.some.inj h
      refine mx_forget (L' := [.float 0, .float 0, .float 0, .float 0, .float 0, .float 0, .float 0, .float 0, .float 0, .float 0, .float 0]) trivial ?_
      exact hex
    · rw [if_neg hc9] at h
      refine mx_iload (mx_d tX9_strokeOn_0 43 rfl) rfl ?_
      refine mx_iload (mx_d tX9_strokeOn_0 44 rfl) rfl ?_
      refine mx_ishr (mx_d tX9_strokeOn_0 45 rfl) ?_
      refine mx_iconst (1) (mx_d tX9_strokeOn_0 46 rfl) (by decide) ?_
      refine mx_iand (mx_d tX9_strokeOn_0 47 rfl) ?_
      refine mx_if_ne (tgt := 94) (mx_d tX9_strokeOn_0 48 rfl) (by decide) (fun hc10 => ?_) (fun hc10 => ?_)
      · rw [if_neg hc10] at h
        refine mx_iload (mx_d tX9_strokeOn_0 50 rfl) rfl ?_
        refine mx_aload_n (mx_d tX9_strokeOn_0 51 rfl) rfl rfl ?_
        refine mx_iload_n (mx_d tX9_strokeOn_0 52 rfl) rfl rfl ?_
        refine mx_iload (mx_d tX9_strokeOn_0 53 rfl) rfl ?_
        obtain ⟨r11, h_r11, h⟩ := Option.bind_eq_some_iff.mp h
        refine mx_cVi (mx_d tX9_strokeOn_0 54 rfl) iX9_78 rfl vX4_weightOf ⟨_, rfl, rfl⟩ (ly4_o g1) (CX4_weightOf g1 h_r11) (by omega) rfl rfl (Nat.le_of_ble_eq_true rfl) ?_
        refine mx_iadd (mx_d tX9_strokeOn_0 55 rfl) ?_
        obtain ⟨v12, e_v12, h⟩ := mx_letE h
        refine mx_istore (L2 := [.ref q0, .ref q1, .int y2, .int y3, .int y4, .int y5, .int y6, .int y7, .int y8, .int v12, .float 0]) (mx_d tX9_strokeOn_0 56 rfl) (by decide) (by rw [e_v12]; rfl) ?_
        refine mx_aload_n (mx_d tX9_strokeOn_0 57 rfl) rfl rfl ?_
        refine mx_iload (mx_d tX9_strokeOn_0 58 rfl) rfl ?_
        obtain ⟨r13, h_r13, h⟩ := Option.bind_eq_some_iff.mp h
        refine mx_cVi (mx_d tX9_strokeOn_0 59 rfl) iX9_57 rfl vX4_partnerOf ⟨_, rfl, rfl⟩ (ly4_o g1) (CX4_partnerOf g1 h_r13) (by omega) rfl rfl (Nat.le_of_ble_eq_true rfl) ?_
        refine mx_istore (L2 := [.ref q0, .ref q1, .int y2, .int y3, .int y4, .int y5, .int y6, .int y7, .int y8, .int v12, .int r13]) (mx_d tX9_strokeOn_1 0 rfl) (by decide) (by rfl) ?_
        refine mx_iload (mx_d tX9_strokeOn_1 1 rfl) rfl ?_
        refine mx_iconst ((-1)) (mx_d tX9_strokeOn_1 2 rfl) (by decide) ?_
        refine mx_icmp_ne (tgt := 136) (mx_d tX9_strokeOn_1 3 rfl) (by decide) (fun hc14 => ?_) (fun hc14 => ?_)
        · rw [if_neg hc14] at h
          refine mx_iload (mx_d tX9_strokeOn_1 11 rfl) rfl ?_
          refine mx_if_le (tgt := 176) (mx_d tX9_strokeOn_1 12 rfl) (by decide) (fun hc15 => ?_) (fun hc15 => ?_)
          · rw [if_pos hc15] at h
            obtain ⟨v16, e_v16, h⟩ := mx_letE h
            refine mx_iinc v16 (L2 := [.ref q0, .ref q1, .int y2, .int y3, .int y4, .int y5, .int y6, .int y7, .int v16, .int v12, .int r13]) (mx_d tX9_strokeOn_1 36 rfl) rfl (by rw [e_v16]; rfl) (by decide) rfl ?_
            refine mx_goto (tgt := 74) (mx_d tX9_strokeOn_1 37 rfl) (by decide) ?_
            refine mx_forget (L' := [.ref q0, .ref q1, .int y2, .int y3, .int y4, .int y5, .int y6, .int y7, .int v16, .float 0, .float 0]) ⟨rfl, rfl, rfl, rfl, rfl, rfl, rfl, rfl, rfl, trivial⟩ ?_
            exact ih h hex
          · rw [if_neg hc15] at h
            refine mx_aload_n (mx_d tX9_strokeOn_1 13 rfl) rfl rfl ?_
            refine mx_aload_n (mx_d tX9_strokeOn_1 14 rfl) rfl rfl ?_
            refine mx_iload_n (mx_d tX9_strokeOn_1 15 rfl) rfl rfl ?_
            refine mx_iload (mx_d tX9_strokeOn_1 16 rfl) rfl ?_
            refine mx_iload (mx_d tX9_strokeOn_1 17 rfl) rfl ?_
            refine mx_iconst (1) (mx_d tX9_strokeOn_1 18 rfl) (by decide) ?_
            refine mx_iload (mx_d tX9_strokeOn_1 19 rfl) rfl ?_
            refine mx_ishl (mx_d tX9_strokeOn_1 20 rfl) ?_
            refine mx_ior (mx_d tX9_strokeOn_1 21 rfl) ?_
            refine mx_iconst (1) (mx_d tX9_strokeOn_1 22 rfl) (by decide) ?_
            refine mx_iload (mx_d tX9_strokeOn_1 23 rfl) rfl ?_
            refine mx_ishl (mx_d tX9_strokeOn_1 24 rfl) ?_
            refine mx_ior (mx_d tX9_strokeOn_1 25 rfl) ?_
            refine mx_iload (mx_d tX9_strokeOn_1 26 rfl) rfl ?_
            refine mx_aload_n (mx_d tX9_strokeOn_1 27 rfl) rfl rfl ?_
            refine mx_iload (mx_d tX9_strokeOn_1 28 rfl) rfl ?_
            refine mx_iload (mx_d tX9_strokeOn_1 29 rfl) rfl ?_
            obtain ⟨r17, h_r17, h⟩ := Option.bind_eq_some_iff.mp h
            refine mx_cVi (mx_d tX9_strokeOn_1 30 rfl) iX9_78 rfl vX4_weightOf ⟨_, rfl, rfl⟩ (ly4_o g1) (CX4_weightOf g1 h_r17) (by omega) rfl rfl (Nat.le_of_ble_eq_true rfl) ?_
            refine mx_isub (mx_d tX9_strokeOn_1 31 rfl) ?_
            refine mx_iload (mx_d tX9_strokeOn_1 32 rfl) rfl ?_
            refine mx_iconst (1) (mx_d tX9_strokeOn_1 33 rfl) (by decide) ?_
            refine mx_isub (mx_d tX9_strokeOn_1 34 rfl) ?_
            obtain ⟨r18, h_r18, h⟩ := Option.bind_eq_some_iff.mp h
            refine mx_cVv (mx_d tX9_strokeOn_1 35 rfl) iX9_74 rfl vX9_strokeOn ⟨_, rfl, rfl⟩ (ly9_o g0) (hrec g0 g1 h_r18) (by omega) rfl rfl (Nat.le_of_ble_eq_true rfl) ?_
            obtain ⟨v19, e_v19, h⟩ := mx_letE h
            refine mx_iinc v19 (L2 := [.ref q0, .ref q1, .int y2, .int y3, .int y4, .int y5, .int y6, .int y7, .int v19, .int v12, .int r13]) (mx_d tX9_strokeOn_1 36 rfl) rfl (by rw [e_v19]; rfl) (by decide) rfl ?_
            refine mx_goto (tgt := 74) (mx_d tX9_strokeOn_1 37 rfl) (by decide) ?_
            refine mx_forget (L' := [.ref q0, .ref q1, .int y2, .int y3, .int y4, .int y5, .int y6, .int y7, .int v19, .float 0, .float 0]) ⟨rfl, rfl, rfl, rfl, rfl, rfl, rfl, rfl, rfl, trivial⟩ ?_
            exact ih h hex
        · rw [if_pos hc14] at h
          refine mx_aload_n (mx_d tX9_strokeOn_1 4 rfl) rfl rfl ?_
          refine mx_aload_n (mx_d tX9_strokeOn_1 5 rfl) rfl rfl ?_
          refine mx_getI (mx_d tX9_strokeOn_1 6 rfl) fX9_67 rfl (Or.inl rfl) (ly9_o g0) ?_
          refine mx_iload (mx_d tX9_strokeOn_1 7 rfl) rfl ?_
          obtain ⟨r20, h_r20, h⟩ := Option.bind_eq_some_iff.mp h
          refine mx_cSi (mx_d tX9_strokeOn_1 8 rfl) iX9_82 rfl sJ9_max_7cf53 (CJ9_max_7cf53  h_r20) (by omega) rfl rfl (Nat.le_of_ble_eq_true rfl) ?_
          obtain ⟨m21, e_m21, h⟩ := mx_letE h
          refine mx_putI (mx_d tX9_strokeOn_1 9 rfl) fX9_67 rfl ⟨_, rfl, rfl⟩ rfl (ly9_o g0) (mx_eqz (z' := (e, m21)) (by rw [e_m21]) ?_)
          refine mx_goto (tgt := 176) (mx_d tX9_strokeOn_1 10 rfl) (by decide) ?_
          obtain ⟨v22, e_v22, h⟩ := mx_letE h
          refine mx_iinc v22 (L2 := [.ref q0, .ref q1, .int y2, .int y3, .int y4, .int y5, .int y6, .int y7, .int v22, .int v12, .int r13]) (mx_d tX9_strokeOn_1 36 rfl) rfl (by rw [e_v22]; rfl) (by decide) rfl ?_
          refine mx_goto (tgt := 74) (mx_d tX9_strokeOn_1 37 rfl) (by decide) ?_
          refine mx_forget (L' := [.ref q0, .ref q1, .int y2, .int y3, .int y4, .int y5, .int y6, .int y7, .int v22, .float 0, .float 0]) ⟨rfl, rfl, rfl, rfl, rfl, rfl, rfl, rfl, rfl, trivial⟩ ?_
          exact ih h hex
      · rw [if_pos hc10] at h
        refine mx_goto (tgt := 176) (mx_d tX9_strokeOn_0 49 rfl) (by decide) ?_
        obtain ⟨v23, e_v23, h⟩ := mx_letE h
        refine mx_iinc v23 (L2 := [.ref q0, .ref q1, .int y2, .int y3, .int y4, .int y5, .int y6, .int y7, .int v23, .float 0, .float 0]) (mx_d tX9_strokeOn_1 36 rfl) rfl (by rw [e_v23]; rfl) (by decide) rfl ?_
        refine mx_goto (tgt := 74) (mx_d tX9_strokeOn_1 37 rfl) (by decide) ?_
        exact ih h hex
def FX9_strokeOn_B (rec : Nat → Nat → Int32 → Int32 → Int32 → Int32 → Int32 → mB → Option mB) (a : Nat) (p0 : Nat) (x1 : Int32) (x2 : Int32) (x3 : Int32) (x4 : Int32) (x5 : Int32) (m : mB) : Option mB := Option.bind (FJ9_max_7cf53 (m.1 a 1) x4 m) (fun r1 => mx_let (mx_up m.1 a 1 r1, m.2) (fun m2 => Option.bind (FJ6_bitCount_0f7a4 x3 m2) (fun r3 => mx_let (fun (m5 : mB) => Option.bind (FX4_nearTo p0 x2 m5) (fun r7 => mx_let (r7 &&& (x3 ^^^ (-1))) (fun v8 => Option.bind (FX9_strokeOn_L74 rec a p0 x1 x2 x3 x4 x5 v8 mx_FU 0 m5) (fun q24 => (some q24))))) (fun k6 => (if r3 < 4 then (k6 m2) else Option.bind (FX4_isLone p0 x1 m2) (fun r25 => (if r25 = 0 then Option.bind (FX4_areLinked p0 x2 x1 m2) (fun r27 => (if r27 = 0 then (k6 m2) else Option.bind (FX4_weightOf p0 x2 x1 m2) (fun r29 => Option.bind (FJ9_max_7cf53 (m2.1 a 1) (x4 + r29) m2) (fun r30 => mx_let (mx_up m2.1 a 1 r30, m2.2) (fun m31 => (k6 m31)))))) else (k6 m2))))))))
def FX9_strokeOn : Nat → Nat → Nat → Int32 → Int32 → Int32 → Int32 → Int32 → mB → Option mB
  | 0, _, _, _, _, _, _, _, _ => none
  | D + 1, a, p0, x1, x2, x3, x4, x5, m => FX9_strokeOn_B (FX9_strokeOn D) a p0 x1 x2 x3 x4 x5 m
set_option maxRecDepth 20000 in
theorem CX9_strokeOn_B {G : mG} {l : Launch} {e : mE} {rec : Nat → Nat → Int32 → Int32 → Int32 → Int32 → Int32 → mB → Option mB} {D : Nat} {a : Nat} {p0 : Nat} {x1 : Int32} {x2 : Int32} {x3 : Int32} {x4 : Int32} {x5 : Int32} {m : mB} {r : mB} (hrec : ∀ {a : Nat} {p0 : Nat} {x1 : Int32} {x2 : Int32} {x3 : Int32} {x4 : Int32} {x5 : Int32} {m : mB} {r : mB}, ly9 e a → ly4 e p0 → rec a p0 x1 x2 x3 x4 x5 m = some r → mx_Call G l MX9_strokeOn D 0 0 [.ref a, .ref p0, .int x1, .int x2, .int x3, .int x4, .int x5] (e, m) (fun v z => v = none ∧ z = (e, r))) (h0 : ly9 e a) (h1 : ly4 e p0) (h : FX9_strokeOn_B rec a p0 x1 x2 x3 x4 x5 m = some r) : mx_Call G l MX9_strokeOn (D + 4) 0 0 [.ref a, .ref p0, .int x1, .int x2, .int x3, .int x4, .int x5] (e, m) (fun v z => v = none ∧ z = (e, r)) := by
  refine mx_entry (L := [.ref a, .ref p0, .int x1, .int x2, .int x3, .int x4, .int x5, .float 0, .float 0, .float 0, .float 0]) (by decide +kernel) (Nat.le_of_ble_eq_true rfl) rfl ?_
  unfold FX9_strokeOn_B at h
  refine mx_aload_n (mx_d tX9_strokeOn_0 0 rfl) rfl rfl ?_
  refine mx_aload_n (mx_d tX9_strokeOn_0 1 rfl) rfl rfl ?_
  refine mx_getI (mx_d tX9_strokeOn_0 2 rfl) fX9_67 rfl (Or.inl rfl) (ly9_o h0) ?_
  refine mx_iload (mx_d tX9_strokeOn_0 3 rfl) rfl ?_
  obtain ⟨r1, h_r1, h⟩ := Option.bind_eq_some_iff.mp h
  refine mx_cSi (mx_d tX9_strokeOn_0 4 rfl) iX9_82 rfl sJ9_max_7cf53 (CJ9_max_7cf53  h_r1) (by omega) rfl rfl (Nat.le_of_ble_eq_true rfl) ?_
  obtain ⟨m2, e_m2, h⟩ := mx_letE h
  refine mx_putI (mx_d tX9_strokeOn_0 5 rfl) fX9_67 rfl ⟨_, rfl, rfl⟩ rfl (ly9_o h0) (mx_eqz (z' := (e, m2)) (by rw [e_m2]) ?_)
  refine mx_iload (mx_d tX9_strokeOn_0 6 rfl) rfl ?_
  obtain ⟨r3, h_r3, h⟩ := Option.bind_eq_some_iff.mp h
  refine mx_cSi (mx_d tX9_strokeOn_0 7 rfl) iX9_87 rfl sJ6_bitCount_0f7a4 (CJ6_bitCount_0f7a4  h_r3) (by omega) rfl rfl (Nat.le_of_ble_eq_true rfl) ?_
  refine mx_iconst (4) (mx_d tX9_strokeOn_0 8 rfl) (by decide) ?_
  refine mx_letK (J := fun k6 => ∀ {m5 : mB}, k6 m5 = some r → mx_Fr G l MX9_strokeOn (D + 4) 0 0 (fun v z => v = none ∧ z = (e, r)) 59 [.ref a, .ref p0, .int x1, .int x2, .int x3, .int x4, .int x5, .float 0, .float 0, .float 0, .float 0] [] (e, m5)) h ?_ (fun k6 j_k6 h => ?_)
  · intro m5 h
    dsimp only at h
    refine mx_aload_n (mx_d tX9_strokeOn_0 30 rfl) rfl rfl ?_
    refine mx_iload_n (mx_d tX9_strokeOn_0 31 rfl) rfl rfl ?_
    obtain ⟨r7, h_r7, h⟩ := Option.bind_eq_some_iff.mp h
    refine mx_cVi (mx_d tX9_strokeOn_0 32 rfl) iX9_54 rfl vX4_nearTo ⟨_, rfl, rfl⟩ (ly4_o h1) (CX4_nearTo h1 h_r7) (by omega) rfl rfl (Nat.le_of_ble_eq_true rfl) ?_
    refine mx_iload (mx_d tX9_strokeOn_0 33 rfl) rfl ?_
    refine mx_iconst ((-1)) (mx_d tX9_strokeOn_0 34 rfl) (by decide) ?_
    refine mx_ixor (mx_d tX9_strokeOn_0 35 rfl) ?_
    refine mx_iand (mx_d tX9_strokeOn_0 36 rfl) ?_
    obtain ⟨v8, e_v8, h⟩ := mx_letE h
    refine mx_istore (L2 := [.ref a, .ref p0, .int x1, .int x2, .int x3, .int x4, .int x5, .int v8, .float 0, .float 0, .float 0]) (mx_d tX9_strokeOn_0 37 rfl) (by decide) (by rw [e_v8]; rfl) ?_
    refine mx_iconst (0) (mx_d tX9_strokeOn_0 38 rfl) (by decide) ?_
    refine mx_istore (L2 := [.ref a, .ref p0, .int x1, .int x2, .int x3, .int x4, .int x5, .int v8, .int 0, .float 0, .float 0]) (mx_d tX9_strokeOn_0 39 rfl) (by decide) (by rfl) ?_
    obtain ⟨q24, h_q24, h⟩ := Option.bind_eq_some_iff.mp h
    refine CX9_strokeOn_L74 hrec h0 h1 mx_FU h_q24 ?_
    obtain rfl := Option.some.inj h
    exact mx_return (mx_d tX9_strokeOn_1 38 rfl) rfl ⟨rfl, rfl⟩
  refine mx_icmp_lt (tgt := 59) (mx_d tX9_strokeOn_0 9 rfl) (by decide) (fun hc4 => ?_) (fun hc4 => ?_)
  · rw [if_pos hc4] at h
    exact j_k6 h
  · rw [if_neg hc4] at h
    refine mx_aload_n (mx_d tX9_strokeOn_0 10 rfl) rfl rfl ?_
    refine mx_iload_n (mx_d tX9_strokeOn_0 11 rfl) rfl rfl ?_
    obtain ⟨r25, h_r25, h⟩ := Option.bind_eq_some_iff.mp h
    refine mx_cVi (mx_d tX9_strokeOn_0 12 rfl) iX9_20 rfl vX4_isLone ⟨_, rfl, rfl⟩ (ly4_o h1) (CX4_isLone h1 h_r25) (by omega) rfl rfl (Nat.le_of_ble_eq_true rfl) ?_
    refine mx_if_ne (tgt := 59) (mx_d tX9_strokeOn_0 13 rfl) (by decide) (fun hc26 => ?_) (fun hc26 => ?_)
    · rw [if_neg hc26] at h
      exact j_k6 h
    · rw [if_pos hc26] at h
      refine mx_aload_n (mx_d tX9_strokeOn_0 14 rfl) rfl rfl ?_
      refine mx_iload_n (mx_d tX9_strokeOn_0 15 rfl) rfl rfl ?_
      refine mx_iload_n (mx_d tX9_strokeOn_0 16 rfl) rfl rfl ?_
      obtain ⟨r27, h_r27, h⟩ := Option.bind_eq_some_iff.mp h
      refine mx_cVi (mx_d tX9_strokeOn_0 17 rfl) iX9_50 rfl vX4_areLinked ⟨_, rfl, rfl⟩ (ly4_o h1) (CX4_areLinked h1 h_r27) (by omega) rfl rfl (Nat.le_of_ble_eq_true rfl) ?_
      refine mx_if_eq (tgt := 59) (mx_d tX9_strokeOn_0 18 rfl) (by decide) (fun hc28 => ?_) (fun hc28 => ?_)
      · rw [if_pos hc28] at h
        exact j_k6 h
      · rw [if_neg hc28] at h
        refine mx_aload_n (mx_d tX9_strokeOn_0 19 rfl) rfl rfl ?_
        refine mx_aload_n (mx_d tX9_strokeOn_0 20 rfl) rfl rfl ?_
        refine mx_getI (mx_d tX9_strokeOn_0 21 rfl) fX9_67 rfl (Or.inl rfl) (ly9_o h0) ?_
        refine mx_iload (mx_d tX9_strokeOn_0 22 rfl) rfl ?_
        refine mx_aload_n (mx_d tX9_strokeOn_0 23 rfl) rfl rfl ?_
        refine mx_iload_n (mx_d tX9_strokeOn_0 24 rfl) rfl rfl ?_
        refine mx_iload_n (mx_d tX9_strokeOn_0 25 rfl) rfl rfl ?_
        obtain ⟨r29, h_r29, h⟩ := Option.bind_eq_some_iff.mp h
        refine mx_cVi (mx_d tX9_strokeOn_0 26 rfl) iX9_78 rfl vX4_weightOf ⟨_, rfl, rfl⟩ (ly4_o h1) (CX4_weightOf h1 h_r29) (by omega) rfl rfl (Nat.le_of_ble_eq_true rfl) ?_
        refine mx_iadd (mx_d tX9_strokeOn_0 27 rfl) ?_
        obtain ⟨r30, h_r30, h⟩ := Option.bind_eq_some_iff.mp h
        refine mx_cSi (mx_d tX9_strokeOn_0 28 rfl) iX9_82 rfl sJ9_max_7cf53 (CJ9_max_7cf53  h_r30) (by omega) rfl rfl (Nat.le_of_ble_eq_true rfl) ?_
        obtain ⟨m31, e_m31, h⟩ := mx_letE h
        refine mx_putI (mx_d tX9_strokeOn_0 29 rfl) fX9_67 rfl ⟨_, rfl, rfl⟩ rfl (ly9_o h0) (mx_eqz (z' := (e, m31)) (by rw [e_m31]) ?_)
        exact j_k6 h
theorem CX9_strokeOn {G : mG} {l : Launch} {e : mE} : ∀ (D : Nat) {a : Nat} {p0 : Nat} {x1 : Int32} {x2 : Int32} {x3 : Int32} {x4 : Int32} {x5 : Int32} {m : mB} {r : mB}, ly9 e a → ly4 e p0 → FX9_strokeOn D a p0 x1 x2 x3 x4 x5 m = some r → mx_Call G l MX9_strokeOn (4 * D) 0 0 [.ref a, .ref p0, .int x1, .int x2, .int x3, .int x4, .int x5] (e, m) (fun v z => v = none ∧ z = (e, r)) := by
  intro D
  induction D with
  | zero => intro _ _ _ _ _ _ _ _ _ _ _ h; cases h
  | succ D ih =>
    intro a p0 x1 x2 x3 x4 x5 m r h0 h1 h
    rw [FX9_strokeOn] at h
    have hh := CX9_strokeOn_B (rec := FX9_strokeOn D) (D := 4 * D) (fun {_ _ _ _ _ _ _} {_} {_} zh0 zh1 hz => ih zh0 zh1 hz) h0 h1 h
    rw [show 4 * (D + 1) = 4 * D + 4 by omega]
    exact hh
def FX9_greatestGain_L7 (q0 : Nat) (q1 : Nat) : Nat → Int32 → mB → Option (mB)
  | 0, _, _ => none
  | f + 1, y2, m => Option.bind (FX4_points q1 m) (fun r2 => (if r2 ≤ y2 then (some (m)) else Option.bind (FX4_partnerOf q1 y2 m) (fun r4 => (if r4 = (-1) then Option.bind (FX9_strokeOn 64 q0 q1 y2 y2 ((1 : Int32) <<< (y2 &&& 31)) 0 5 m) (fun r9 => mx_let (y2 + 1) (fun v10 => (FX9_greatestGain_L7 q0 q1 f v10 r9))) else Option.bind (FX4_weightOf q1 y2 r4 m) (fun r6 => Option.bind (FX9_strokeOn 64 q0 q1 y2 r4 (((1 : Int32) <<< (y2 &&& 31)) ||| ((1 : Int32) <<< (r4 &&& 31))) (-r6) 5 m) (fun r7 => mx_let (y2 + 1) (fun v8 => (FX9_greatestGain_L7 q0 q1 f v8 r7))))))))
set_option maxRecDepth 20000 in
theorem CX9_greatestGain_L7 {G : mG} {l : Launch} {e : mE} {Post : Option Value → mS → Prop} {q0 : Nat} {q1 : Nat} (g0 : ly9 e q0) (g1 : ly4 e q1) : ∀ (f : Nat) {y2 : Int32} {m : mB} {q : (mB)}, FX9_greatestGain_L7 q0 q1 f y2 m = some q → (mx_Fr G l MX9_greatestGain 257 0 0 Post 69 [.ref q0, .float 0, .float 0, .float 0] [] (e, q)) → mx_Fr G l MX9_greatestGain 257 0 0 Post 7 [.ref q0, .ref q1, .int y2, .float 0] [] (e, m) := by
  intro f
  induction f with
  | zero => intro _ _ _ h; cases h
  | succ f ih =>
    intro y2 m q h hex
    rw [FX9_greatestGain_L7] at h
    refine mx_iload_n (mx_d tX9_greatestGain_0 5 rfl) rfl rfl ?_
    refine mx_aload_n (mx_d tX9_greatestGain_0 6 rfl) rfl rfl ?_
    obtain ⟨r2, h_r2, h⟩ := Option.bind_eq_some_iff.mp h
    refine mx_cVi (mx_d tX9_greatestGain_0 7 rfl) iX9_71 rfl vX4_points ⟨_, rfl, rfl⟩ (ly4_o g1) (CX4_points g1 h_r2) (by decide) rfl rfl (Nat.le_of_ble_eq_true rfl) ?_
    refine mx_icmp_ge (tgt := 69) (mx_d tX9_greatestGain_0 8 rfl) (by decide) (fun hc3 => ?_) (fun hc3 => ?_)
    · rw [if_pos hc3] at h
      obtain rfl := Option.some.inj h
      refine mx_forget (L' := [.ref q0, .float 0, .float 0, .float 0]) ⟨rfl, trivial⟩ ?_
      exact hex
    · rw [if_neg hc3] at h
      refine mx_aload_n (mx_d tX9_greatestGain_0 9 rfl) rfl rfl ?_
      refine mx_iload_n (mx_d tX9_greatestGain_0 10 rfl) rfl rfl ?_
      obtain ⟨r4, h_r4, h⟩ := Option.bind_eq_some_iff.mp h
      refine mx_cVi (mx_d tX9_greatestGain_0 11 rfl) iX9_57 rfl vX4_partnerOf ⟨_, rfl, rfl⟩ (ly4_o g1) (CX4_partnerOf g1 h_r4) (by decide) rfl rfl (Nat.le_of_ble_eq_true rfl) ?_
      refine mx_istore_n (L2 := [.ref q0, .ref q1, .int y2, .int r4]) (mx_d tX9_greatestGain_0 12 rfl) rfl (by decide) (by rfl) ?_
      refine mx_iload_n (mx_d tX9_greatestGain_0 13 rfl) rfl rfl ?_
      refine mx_iconst ((-1)) (mx_d tX9_greatestGain_0 14 rfl) (by decide) ?_
      refine mx_icmp_ne (tgt := 41) (mx_d tX9_greatestGain_0 15 rfl) (by decide) (fun hc5 => ?_) (fun hc5 => ?_)
      · rw [if_neg hc5] at h
        refine mx_aload_n (mx_d tX9_greatestGain_0 27 rfl) rfl rfl ?_
        refine mx_aload_n (mx_d tX9_greatestGain_0 28 rfl) rfl rfl ?_
        refine mx_iload_n (mx_d tX9_greatestGain_0 29 rfl) rfl rfl ?_
        refine mx_iload_n (mx_d tX9_greatestGain_0 30 rfl) rfl rfl ?_
        refine mx_iconst (1) (mx_d tX9_greatestGain_0 31 rfl) (by decide) ?_
        refine mx_iload_n (mx_d tX9_greatestGain_0 32 rfl) rfl rfl ?_
        refine mx_ishl (mx_d tX9_greatestGain_0 33 rfl) ?_
        refine mx_iconst (1) (mx_d tX9_greatestGain_0 34 rfl) (by decide) ?_
        refine mx_iload_n (mx_d tX9_greatestGain_0 35 rfl) rfl rfl ?_
        refine mx_ishl (mx_d tX9_greatestGain_0 36 rfl) ?_
        refine mx_ior (mx_d tX9_greatestGain_0 37 rfl) ?_
        refine mx_aload_n (mx_d tX9_greatestGain_0 38 rfl) rfl rfl ?_
        refine mx_iload_n (mx_d tX9_greatestGain_0 39 rfl) rfl rfl ?_
        refine mx_iload_n (mx_d tX9_greatestGain_0 40 rfl) rfl rfl ?_
        obtain ⟨r6, h_r6, h⟩ := Option.bind_eq_some_iff.mp h
        refine mx_cVi (mx_d tX9_greatestGain_0 41 rfl) iX9_78 rfl vX4_weightOf ⟨_, rfl, rfl⟩ (ly4_o g1) (CX4_weightOf g1 h_r6) (by decide) rfl rfl (Nat.le_of_ble_eq_true rfl) ?_
        refine mx_ineg (mx_d tX9_greatestGain_0 42 rfl) ?_
        refine mx_iconst (5) (mx_d tX9_greatestGain_0 43 rfl) (by decide) ?_
        obtain ⟨r7, h_r7, h⟩ := Option.bind_eq_some_iff.mp h
        refine mx_cVv (mx_d tX9_greatestGain_0 44 rfl) iX9_74 rfl vX9_strokeOn ⟨_, rfl, rfl⟩ (ly9_o g0) (CX9_strokeOn 64 g0 g1 h_r7) (by decide) rfl rfl (Nat.le_of_ble_eq_true rfl) ?_
        obtain ⟨v8, e_v8, h⟩ := mx_letE h
        refine mx_iinc v8 (L2 := [.ref q0, .ref q1, .int v8, .int r4]) (mx_d tX9_greatestGain_0 45 rfl) rfl (by rw [e_v8]; rfl) (by decide) rfl ?_
        refine mx_goto (tgt := 7) (mx_d tX9_greatestGain_0 46 rfl) (by decide) ?_
        refine mx_forget (L' := [.ref q0, .ref q1, .int v8, .float 0]) ⟨rfl, rfl, rfl, trivial⟩ ?_
        exact ih h hex
      · rw [if_pos hc5] at h
        refine mx_aload_n (mx_d tX9_greatestGain_0 16 rfl) rfl rfl ?_
        refine mx_aload_n (mx_d tX9_greatestGain_0 17 rfl) rfl rfl ?_
        refine mx_iload_n (mx_d tX9_greatestGain_0 18 rfl) rfl rfl ?_
        refine mx_iload_n (mx_d tX9_greatestGain_0 19 rfl) rfl rfl ?_
        refine mx_iconst (1) (mx_d tX9_greatestGain_0 20 rfl) (by decide) ?_
        refine mx_iload_n (mx_d tX9_greatestGain_0 21 rfl) rfl rfl ?_
        refine mx_ishl (mx_d tX9_greatestGain_0 22 rfl) ?_
        refine mx_iconst (0) (mx_d tX9_greatestGain_0 23 rfl) (by decide) ?_
        refine mx_iconst (5) (mx_d tX9_greatestGain_0 24 rfl) (by decide) ?_
        obtain ⟨r9, h_r9, h⟩ := Option.bind_eq_some_iff.mp h
        refine mx_cVv (mx_d tX9_greatestGain_0 25 rfl) iX9_74 rfl vX9_strokeOn ⟨_, rfl, rfl⟩ (ly9_o g0) (CX9_strokeOn 64 g0 g1 h_r9) (by decide) rfl rfl (Nat.le_of_ble_eq_true rfl) ?_
        refine mx_goto (tgt := 63) (mx_d tX9_greatestGain_0 26 rfl) (by decide) ?_
        obtain ⟨v10, e_v10, h⟩ := mx_letE h
        refine mx_iinc v10 (L2 := [.ref q0, .ref q1, .int v10, .int r4]) (mx_d tX9_greatestGain_0 45 rfl) rfl (by rw [e_v10]; rfl) (by decide) rfl ?_
        refine mx_goto (tgt := 7) (mx_d tX9_greatestGain_0 46 rfl) (by decide) ?_
        refine mx_forget (L' := [.ref q0, .ref q1, .int v10, .float 0]) ⟨rfl, rfl, rfl, trivial⟩ ?_
        exact ih h hex
def FX9_greatestGain (a : Nat) (p0 : Nat) (m : mB) : Option (Int32 × mB) := mx_let (mx_up m.1 a 1 0, m.2) (fun m1 => Option.bind (FX9_greatestGain_L7 a p0 mx_FU 0 m1) (fun q11 => (some ((q11.1 a 1), q11))))
set_option maxRecDepth 20000 in
theorem CX9_greatestGain {G : mG} {l : Launch} {e : mE} {a : Nat} {p0 : Nat} {m : mB} {r : (Int32 × mB)} (h0 : ly9 e a) (h1 : ly4 e p0) (h : FX9_greatestGain a p0 m = some r) : mx_Call G l MX9_greatestGain 257 0 0 [.ref a, .ref p0] (e, m) (fun v z => v = some (.int r.1) ∧ z = (e, r.2)) := by
  refine mx_entry (L := [.ref a, .ref p0, .float 0, .float 0]) (by decide +kernel) (Nat.le_of_ble_eq_true rfl) rfl ?_
  unfold FX9_greatestGain at h
  refine mx_aload_n (mx_d tX9_greatestGain_0 0 rfl) rfl rfl ?_
  refine mx_iconst (0) (mx_d tX9_greatestGain_0 1 rfl) (by decide) ?_
  obtain ⟨m1, e_m1, h⟩ := mx_letE h
  refine mx_putI (mx_d tX9_greatestGain_0 2 rfl) fX9_67 rfl ⟨_, rfl, rfl⟩ rfl (ly9_o h0) (mx_eqz (z' := (e, m1)) (by rw [e_m1]) ?_)
  refine mx_iconst (0) (mx_d tX9_greatestGain_0 3 rfl) (by decide) ?_
  refine mx_istore_n (L2 := [.ref a, .ref p0, .int 0, .float 0]) (mx_d tX9_greatestGain_0 4 rfl) rfl (by decide) (by rfl) ?_
  obtain ⟨q11, h_q11, h⟩ := Option.bind_eq_some_iff.mp h
  refine CX9_greatestGain_L7 h0 h1 mx_FU h_q11 ?_
  refine mx_aload_n (mx_d tX9_greatestGain_0 47 rfl) rfl rfl ?_
  refine mx_getI (mx_d tX9_greatestGain_0 48 rfl) fX9_67 rfl (Or.inl rfl) (ly9_o h0) ?_
  obtain rfl := Option.some.inj h
  exact mx_ireturn (mx_d tX9_greatestGain_0 49 rfl) rfl ⟨rfl, rfl⟩
def FX10_length (a : Nat) (m : mB) : Option Int32 := (some (m.1 a 2))
set_option maxRecDepth 20000 in
theorem CX10_length {G : mG} {l : Launch} {e : mE} {a : Nat} {m : mB} {r : Int32} (h0 : ly10 e a) (h : FX10_length a m = some r) : mx_Call G l MX10_length 1 0 0 [.ref a] (e, m) (fun v z => v = some (.int r) ∧ z = (e, m)) := by
  refine mx_entry (L := [.ref a]) (by decide +kernel) (Nat.le_of_ble_eq_true rfl) rfl ?_
  unfold FX10_length at h
  refine mx_aload_n (mx_d tX10_length_0 0 rfl) rfl rfl ?_
  refine mx_getI (mx_d tX10_length_0 1 rfl) fX10_33 rfl (Or.inl rfl) (ly10_o h0) ?_
  obtain rfl := Option.some.inj h
  exact mx_ireturn (mx_d tX10_length_0 2 rfl) rfl ⟨rfl, rfl⟩
def FX10_putFour_L3 (q0 : Nat) (y1 : Int32) : Nat → Int32 → mB → Option (mB)
  | 0, _, _ => none
  | f + 1, y2, m => (if y2 < 0 then (some (m)) else (if (m.1 q0 2) < 0 then mx_let (y2 + (-8)) (fun v3 => (FX10_putFour_L3 q0 y1 f v3 m)) else (if 940 ≤ (m.1 q0 2) then mx_let (y2 + (-8)) (fun v5 => (FX10_putFour_L3 q0 y1 f v5 m)) else mx_chk (mx_inb (m.1 q0 2) 940) (mx_let (mx_up m.1 (q0 + 1) (Int32.toNatClampNeg (m.1 q0 2)) ((UInt32.toInt32 (Int32.toUInt32 y1 >>> (Int32.toUInt32 y2 &&& Int32.toUInt32 31))) &&& 255), m.2) (fun m6 => mx_let (mx_up m6.1 q0 2 ((m6.1 q0 2) + 1), m6.2) (fun m8 => mx_let (y2 + (-8)) (fun v9 => (FX10_putFour_L3 q0 y1 f v9 m8))))))))
set_option maxRecDepth 20000 in
theorem CX10_putFour_L3 {G : mG} {l : Launch} {e : mE} {Post : Option Value → mS → Prop} {q0 : Nat} {y1 : Int32} (g0 : ly10 e q0) : ∀ (f : Nat) {y2 : Int32} {m : mB} {q : (mB)}, FX10_putFour_L3 q0 y1 f y2 m = some q → (mx_Fr G l MX10_putFour 1 0 0 Post 56 [.float 0, .float 0, .float 0] [] (e, q)) → mx_Fr G l MX10_putFour 1 0 0 Post 3 [.ref q0, .int y1, .int y2] [] (e, m) := by
  intro f
  induction f with
  | zero => intro _ _ _ h; cases h
  | succ f ih =>
    intro y2 m q h hex
    rw [FX10_putFour_L3] at h
    refine mx_iload_n (mx_d tX10_putFour_0 2 rfl) rfl rfl ?_
    refine mx_if_lt (tgt := 56) (mx_d tX10_putFour_0 3 rfl) (by decide) (fun hc1 => ?_) (fun hc1 => ?_)
    · rw [if_pos hc1] at h
      obtain rfl := Option.some.inj h
      refine mx_forget (L' := [.float 0, .float 0, .float 0]) trivial ?_
      exact hex
    · rw [if_neg hc1] at h
      refine mx_aload_n (mx_d tX10_putFour_0 4 rfl) rfl rfl ?_
      refine mx_getI (mx_d tX10_putFour_0 5 rfl) fX10_33 rfl (Or.inl rfl) (ly10_o g0) ?_
      refine mx_if_lt (tgt := 50) (mx_d tX10_putFour_0 6 rfl) (by decide) (fun hc2 => ?_) (fun hc2 => ?_)
      · rw [if_pos hc2] at h
        obtain ⟨v3, e_v3, h⟩ := mx_letE h
        refine mx_iinc v3 (L2 := [.ref q0, .int y1, .int v3]) (mx_d tX10_putFour_0 27 rfl) rfl (by rw [e_v3]; rfl) (by decide) rfl ?_
        refine mx_goto (tgt := 3) (mx_d tX10_putFour_0 28 rfl) (by decide) ?_
        exact ih h hex
      · rw [if_neg hc2] at h
        refine mx_aload_n (mx_d tX10_putFour_0 7 rfl) rfl rfl ?_
        refine mx_getI (mx_d tX10_putFour_0 8 rfl) fX10_33 rfl (Or.inl rfl) (ly10_o g0) ?_
        refine mx_sipush (940) (mx_d tX10_putFour_0 9 rfl) (by decide) ?_
        refine mx_icmp_ge (tgt := 50) (mx_d tX10_putFour_0 10 rfl) (by decide) (fun hc4 => ?_) (fun hc4 => ?_)
        · rw [if_pos hc4] at h
          obtain ⟨v5, e_v5, h⟩ := mx_letE h
          refine mx_iinc v5 (L2 := [.ref q0, .int y1, .int v5]) (mx_d tX10_putFour_0 27 rfl) rfl (by rw [e_v5]; rfl) (by decide) rfl ?_
          refine mx_goto (tgt := 3) (mx_d tX10_putFour_0 28 rfl) (by decide) ?_
          exact ih h hex
        · rw [if_neg hc4] at h
          refine mx_aload_n (mx_d tX10_putFour_0 11 rfl) rfl rfl ?_
          refine mx_getR (mx_d tX10_putFour_0 12 rfl) fX10_9 rfl rfl (ly10_o g0) (ly10_r0 g0) ?_
          refine mx_aload_n (mx_d tX10_putFour_0 13 rfl) rfl rfl ?_
          refine mx_getI (mx_d tX10_putFour_0 14 rfl) fX10_33 rfl (Or.inl rfl) (ly10_o g0) ?_
          refine mx_iload_n (mx_d tX10_putFour_0 15 rfl) rfl rfl ?_
          refine mx_iload_n (mx_d tX10_putFour_0 16 rfl) rfl rfl ?_
          refine mx_iushr (mx_d tX10_putFour_0 17 rfl) ?_
          refine mx_sipush (255) (mx_d tX10_putFour_0 18 rfl) (by decide) ?_
          refine mx_iand (mx_d tX10_putFour_0 19 rfl) ?_
          obtain ⟨hi7, h⟩ := mx_chkE h
          obtain ⟨m6, e_m6, h⟩ := mx_letE h
          refine mx_iastore (mx_d tX10_putFour_0 20 rfl) (ly10_s0 g0) (mx_inbE hi7) (mx_eqz (z' := (e, m6)) (by rw [e_m6]) ?_)
          refine mx_aload_n (mx_d tX10_putFour_0 21 rfl) rfl rfl ?_
          refine mx_dup (mx_d tX10_putFour_0 22 rfl) rfl ?_
          refine mx_getI (mx_d tX10_putFour_0 23 rfl) fX10_33 rfl (Or.inl rfl) (ly10_o g0) ?_
          refine mx_iconst (1) (mx_d tX10_putFour_0 24 rfl) (by decide) ?_
          refine mx_iadd (mx_d tX10_putFour_0 25 rfl) ?_
          obtain ⟨m8, e_m8, h⟩ := mx_letE h
          refine mx_putI (mx_d tX10_putFour_0 26 rfl) fX10_33 rfl ⟨_, rfl, rfl⟩ rfl (ly10_o g0) (mx_eqz (z' := (e, m8)) (by rw [e_m8]) ?_)
          obtain ⟨v9, e_v9, h⟩ := mx_letE h
          refine mx_iinc v9 (L2 := [.ref q0, .int y1, .int v9]) (mx_d tX10_putFour_0 27 rfl) rfl (by rw [e_v9]; rfl) (by decide) rfl ?_
          refine mx_goto (tgt := 3) (mx_d tX10_putFour_0 28 rfl) (by decide) ?_
          exact ih h hex
def FX10_putFour (a : Nat) (x0 : Int32) (m : mB) : Option mB := Option.bind (FX10_putFour_L3 a x0 mx_FU 24 m) (fun q10 => (some q10))
set_option maxRecDepth 20000 in
theorem CX10_putFour {G : mG} {l : Launch} {e : mE} {a : Nat} {x0 : Int32} {m : mB} {r : mB} (h0 : ly10 e a) (h : FX10_putFour a x0 m = some r) : mx_Call G l MX10_putFour 1 0 0 [.ref a, .int x0] (e, m) (fun v z => v = none ∧ z = (e, r)) := by
  refine mx_entry (L := [.ref a, .int x0, .float 0]) (by decide +kernel) (Nat.le_of_ble_eq_true rfl) rfl ?_
  unfold FX10_putFour at h
  refine mx_bipush (24) (mx_d tX10_putFour_0 0 rfl) (by decide) ?_
  refine mx_istore_n (L2 := [.ref a, .int x0, .int 24]) (mx_d tX10_putFour_0 1 rfl) rfl (by decide) (by rfl) ?_
  obtain ⟨q10, h_q10, h⟩ := Option.bind_eq_some_iff.mp h
  refine CX10_putFour_L3 h0 mx_FU h_q10 ?_
  obtain rfl := Option.some.inj h
  exact mx_return (mx_d tX10_putFour_0 29 rfl) rfl ⟨rfl, rfl⟩
def FX10_cut (a : Nat) (x0 : Int32) (m : mB) : Option mB := mx_let (mx_up m.1 a 2 x0, m.2) (fun m1 => (some m1))
set_option maxRecDepth 20000 in
theorem CX10_cut {G : mG} {l : Launch} {e : mE} {a : Nat} {x0 : Int32} {m : mB} {r : mB} (h0 : ly10 e a) (h : FX10_cut a x0 m = some r) : mx_Call G l MX10_cut 1 0 0 [.ref a, .int x0] (e, m) (fun v z => v = none ∧ z = (e, r)) := by
  refine mx_entry (L := [.ref a, .int x0]) (by decide +kernel) (Nat.le_of_ble_eq_true rfl) rfl ?_
  unfold FX10_cut at h
  refine mx_aload_n (mx_d tX10_cut_0 0 rfl) rfl rfl ?_
  refine mx_iload_n (mx_d tX10_cut_0 1 rfl) rfl rfl ?_
  obtain ⟨m1, e_m1, h⟩ := mx_letE h
  refine mx_putI (mx_d tX10_cut_0 2 rfl) fX10_33 rfl ⟨_, rfl, rfl⟩ rfl (ly10_o h0) (mx_eqz (z' := (e, m1)) (by rw [e_m1]) ?_)
  obtain rfl := Option.some.inj h
  exact mx_return (mx_d tX10_cut_0 3 rfl) rfl ⟨rfl, rfl⟩
def FX10_faultKind (a : Nat) (m : mB) : Option Int32 := (some (m.1 a 10))
set_option maxRecDepth 20000 in
theorem CX10_faultKind {G : mG} {l : Launch} {e : mE} {a : Nat} {m : mB} {r : Int32} (h0 : ly10 e a) (h : FX10_faultKind a m = some r) : mx_Call G l MX10_faultKind 1 0 0 [.ref a] (e, m) (fun v z => v = some (.int r) ∧ z = (e, m)) := by
  refine mx_entry (L := [.ref a]) (by decide +kernel) (Nat.le_of_ble_eq_true rfl) rfl ?_
  unfold FX10_faultKind at h
  refine mx_aload_n (mx_d tX10_faultKind_0 0 rfl) rfl rfl ?_
  refine mx_getI (mx_d tX10_faultKind_0 1 rfl) fX10_36 rfl (Or.inl rfl) (ly10_o h0) ?_
  obtain rfl := Option.some.inj h
  exact mx_ireturn (mx_d tX10_faultKind_0 2 rfl) rfl ⟨rfl, rfl⟩
def FX10_faultAt (a : Nat) (m : mB) : Option Int32 := (some (m.1 a 11))
set_option maxRecDepth 20000 in
theorem CX10_faultAt {G : mG} {l : Launch} {e : mE} {a : Nat} {m : mB} {r : Int32} (h0 : ly10 e a) (h : FX10_faultAt a m = some r) : mx_Call G l MX10_faultAt 1 0 0 [.ref a] (e, m) (fun v z => v = some (.int r) ∧ z = (e, m)) := by
  refine mx_entry (L := [.ref a]) (by decide +kernel) (Nat.le_of_ble_eq_true rfl) rfl ?_
  unfold FX10_faultAt at h
  refine mx_aload_n (mx_d tX10_faultAt_0 0 rfl) rfl rfl ?_
  refine mx_getI (mx_d tX10_faultAt_0 1 rfl) fX10_39 rfl (Or.inl rfl) (ly10_o h0) ?_
  obtain rfl := Option.some.inj h
  exact mx_ireturn (mx_d tX10_faultAt_0 2 rfl) rfl ⟨rfl, rfl⟩
