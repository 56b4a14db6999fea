/-- the told words, packed: n signs from i on -/
def mx_tw (b : Nat) : Nat → Nat → Int64 → Nat → mJ → mJ
  | 0, _, _, _, mj => mj
  | n + 1, i, p, t, mj => if mx_ch 0 i = 32 then (if t < 22 then mx_tw b n (i + 1) 0 (t + 1) (mx_ul mj b t p) else mx_tw b n (i + 1) p t mj) else mx_tw b n (i + 1) (p * 32 + Int32.toInt64 ((mx_ch 0 i - 97) + 1)) t mj
theorem mx_tw_ne {b q : Nat} (hq : q ≠ b) : ∀ (n i : Nat) (p : Int64) (t : Nat) (mj : mJ) (j : Nat), mx_tw b n i p t mj q j = mj q j := by
  intro n
  induction n with
  | zero => intro i p t mj j; rfl
  | succ n ih =>
    intro i p t mj j
    rw [mx_tw]
    split
    · split
      · rw [ih]; unfold mx_ul; rw [if_neg (fun w => hq w.1)]
      · rw [ih]
    · rw [ih]
def mx_tn : Nat := mx_sl.getD 0 0
theorem mx_tn_lt : mx_sl.getD 0 0 < 1000 := by decide +kernel
set_option maxRecDepth 20000 in
theorem KX10_loop {G : mG} {l : Launch} {Post : Option Value → mS → Prop} {a : Nat} {e : mE} {mi : mI} {kc ks : Nat} (h0 : ly10 e a) : ∀ (n i : Nat) (p : Int64) (t : Nat) (mj : mJ), i + n = mx_sl.getD 0 0 → t ≤ 22 →
    (mx_FP (mx_N G) G l MX10_init 10 kc ks Post 96 [.ref a, .float 0, .float 0, .float 0, .float 0, .float 0] [] (e, mi, mx_tw (a + 2) n i p t mj)) → mx_FP (mx_N G) G l MX10_init 10 kc ks Post 28 [.ref a, .long p, .float 0, .int (nI t), .int (nI i), .float 0] [] (e, mi, mj) := by
  have hlt := mx_tn_lt
  intro n
  induction n with
  | zero =>
    intro i p t mj hi ht hk
    refine px_iload (mx_d tX10_init_0 16 rfl) rfl ?_
    refine px_ldcS (mx_d tX10_init_0 17 rfl) rfl (k := 0) (List.mem_of_getElem? (i := 0) rfl) (fun _ h => h) ?_
    refine px_callVS (mx_d tX10_init_0 18 rfl) iX10_21 rfl vJ0_length_8abf5 rfl (by decide) (fun _ h => h) (KJ0_length (k := 0) (by decide)) (by decide) rfl rfl (Nat.le_of_ble_eq_true rfl) (fun v z' hv => ?_)
    obtain ⟨rfl, rfl⟩ := hv
    refine px_icmp_ge (tgt := 96) (mx_d tX10_init_0 19 rfl) (by decide) (fun _ => ?_) (fun hc => absurd (nI_le (by omega) (by omega)) hc)
    exact px_forget (L' := [.ref a, .float 0, .float 0, .float 0, .float 0, .float 0]) ⟨rfl, trivial⟩ hk
  | succ n ih =>
    intro i p t mj hi ht hk
    refine px_iload (mx_d tX10_init_0 16 rfl) rfl ?_
    refine px_ldcS (mx_d tX10_init_0 17 rfl) rfl (k := 0) (List.mem_of_getElem? (i := 0) rfl) (fun _ h => h) ?_
    refine px_callVS (mx_d tX10_init_0 18 rfl) iX10_21 rfl vJ0_length_8abf5 rfl (by decide) (fun _ h => h) (KJ0_length (k := 0) (by decide)) (by decide) rfl rfl (Nat.le_of_ble_eq_true rfl) (fun v z' hv => ?_)
    obtain ⟨rfl, rfl⟩ := hv
    refine px_icmp_ge (tgt := 96) (mx_d tX10_init_0 19 rfl) (by decide) (fun hc => absurd hc (nI_ge (by omega) (by omega))) (fun _ => ?_)
    refine px_ldcS (mx_d tX10_init_0 20 rfl) rfl (k := 0) (List.mem_of_getElem? (i := 0) rfl) (fun _ h => h) ?_
    refine px_iload (mx_d tX10_init_0 21 rfl) rfl ?_
    refine px_callVS (mx_d tX10_init_0 22 rfl) iX10_27 rfl vJ0_charAt_5068e rfl (by decide) (fun _ h => h) (KJ0_charAt (k := 0) (j := i) (by decide) (by omega) hlt) (by decide) rfl rfl (Nat.le_of_ble_eq_true rfl) (fun v z' hv => ?_)
    obtain ⟨rfl, rfl⟩ := hv
    refine px_istore (L2 := [.ref a, .long p, .float 0, .int (nI t), .int (nI i), .int (mx_ch 0 i)]) (mx_d tX10_init_0 23 rfl) (by decide) rfl ?_
    refine px_iload (mx_d tX10_init_0 24 rfl) rfl ?_
    refine px_bipush (32) (mx_d tX10_init_0 25 rfl) (by decide) ?_
    rw [mx_tw] at hk
    refine px_icmp_eq (tgt := 72) (mx_d tX10_init_0 26 rfl) (by decide) (fun hc => ?_) (fun hc => ?_)
    · rw [if_pos hc] at hk
      refine px_iload_n (mx_d tX10_init_0 39 rfl) rfl rfl ?_
      refine px_bipush (22) (mx_d tX10_init_0 40 rfl) (by decide) ?_
      by_cases ht2 : t < 22
      · rw [if_pos ht2] at hk
        refine px_icmp_ge (tgt := 90) (mx_d tX10_init_0 41 rfl) (by decide) (fun hd => absurd hd (nI_ge (b := 22) ht2 (by decide))) (fun _ => ?_)
        refine px_aload_n (mx_d tX10_init_0 42 rfl) rfl rfl ?_
        refine px_getR (mx_d tX10_init_0 43 rfl) fX10_15 rfl rfl (ly10_o h0) (ly10_r1 h0) ?_
        refine px_iload_n (mx_d tX10_init_0 44 rfl) rfl rfl ?_
        refine px_lload_n (mx_d tX10_init_0 45 rfl) rfl rfl ?_
        refine px_lastore (mx_d tX10_init_0 46 rfl) (ly10_s1 h0) (vp_in_nI ht2 (by decide)) ?_
        rw [nI_clamp (by omega)]
        refine px_iinc (nI (t + 1)) (L2 := [.ref a, .long p, .float 0, .int (nI (t + 1)), .int (nI i), .int (mx_ch 0 i)]) (mx_d tX10_init_0 47 rfl) rfl (nI_1 t) (by decide) rfl ?_
        refine px_lconst (0) (mx_d tX10_init_0 48 rfl) (by decide) ?_
        refine px_lstore_n (L2 := [.ref a, .long 0, .float 0, .int (nI (t + 1)), .int (nI i), .int (mx_ch 0 i)]) (mx_d tX10_init_0 49 rfl) rfl (by decide) rfl ?_
        refine px_iinc (nI (i + 1)) (L2 := [.ref a, .long 0, .float 0, .int (nI (t + 1)), .int (nI (i + 1)), .int (mx_ch 0 i)]) (mx_d tX10_init_0 50 rfl) rfl (nI_1 i) (by decide) rfl ?_
        refine px_goto (tgt := 28) (mx_d tX10_init_0 51 rfl) (by decide) ?_
        refine px_forget (L' := [.ref a, .long 0, .float 0, .int (nI (t + 1)), .int (nI (i + 1)), .float 0]) ⟨rfl, rfl, rfl, rfl, trivial⟩ ?_
        exact ih (i + 1) 0 (t + 1) _ (by omega) (by omega) hk
      · rw [if_neg ht2] at hk
        refine px_icmp_ge (tgt := 90) (mx_d tX10_init_0 41 rfl) (by decide) (fun _ => ?_) (fun hd => absurd (nI_le (a := 22) (by omega) (by omega)) hd)
        refine px_iinc (nI (i + 1)) (L2 := [.ref a, .long p, .float 0, .int (nI t), .int (nI (i + 1)), .int (mx_ch 0 i)]) (mx_d tX10_init_0 50 rfl) rfl (nI_1 i) (by decide) rfl ?_
        refine px_goto (tgt := 28) (mx_d tX10_init_0 51 rfl) (by decide) ?_
        refine px_forget (L' := [.ref a, .long p, .float 0, .int (nI t), .int (nI (i + 1)), .float 0]) ⟨rfl, rfl, rfl, rfl, trivial⟩ ?_
        exact ih (i + 1) p t mj (by omega) ht hk
    · rw [if_neg hc] at hk
      refine px_lload_n (mx_d tX10_init_0 27 rfl) rfl rfl ?_
      refine px_ldc2 (32) (mx_d tX10_init_0 28 rfl) cX10_31 ?_
      refine px_lmul (mx_d tX10_init_0 29 rfl) ?_
      refine px_iload (mx_d tX10_init_0 30 rfl) rfl ?_
      refine px_bipush (97) (mx_d tX10_init_0 31 rfl) (by decide) ?_
      refine px_isub (mx_d tX10_init_0 32 rfl) ?_
      refine px_iconst (1) (mx_d tX10_init_0 33 rfl) (by decide) ?_
      refine px_iadd (mx_d tX10_init_0 34 rfl) ?_
      refine px_i2l (mx_d tX10_init_0 35 rfl) ?_
      refine px_ladd (mx_d tX10_init_0 36 rfl) ?_
      refine px_lstore_n (L2 := [.ref a, .long (p * 32 + Int32.toInt64 ((mx_ch 0 i - 97) + 1)), .float 0, .int (nI t), .int (nI i), .int (mx_ch 0 i)]) (mx_d tX10_init_0 37 rfl) rfl (by decide) rfl ?_
      refine px_goto (tgt := 90) (mx_d tX10_init_0 38 rfl) (by decide) ?_
      refine px_iinc (nI (i + 1)) (L2 := [.ref a, .long (p * 32 + Int32.toInt64 ((mx_ch 0 i - 97) + 1)), .float 0, .int (nI t), .int (nI (i + 1)), .int (mx_ch 0 i)]) (mx_d tX10_init_0 50 rfl) rfl (nI_1 i) (by decide) rfl ?_
      refine px_goto (tgt := 28) (mx_d tX10_init_0 51 rfl) (by decide) ?_
      refine px_forget (L' := [.ref a, .long (p * 32 + Int32.toInt64 ((mx_ch 0 i - 97) + 1)), .float 0, .int (nI t), .int (nI (i + 1)), .float 0]) ⟨rfl, rfl, rfl, rfl, trivial⟩ ?_
      exact ih (i + 1) _ t mj (by omega) ht hk
set_option maxRecDepth 20000 in
theorem K10_init {G : mG} {l : Launch} {a : Nat} {e : mE} {mi : mI} {mj : mJ} (hcap : a + 3 < 100000) (hn : e.1 = a + 1) (h0 : mx_is e a 10 0) (hz : mx_zr e mi mj) :
    mx_CallN G l MX10_init 10 2 962 [.ref a] (e, mi, mj) (mx_made ly10 a 3 e mi mj mi (mx_tw (a + 2) (mx_sl.getD 0 0) 0 0 0 mj)) := by
  refine px_entryN (L := [.ref a, .float 0, .float 0, .float 0, .float 0, .float 0]) (by decide +kernel) (Nat.le_of_ble_eq_true rfl) rfl ?_
  refine px_aload_n (mx_d tX10_init_0 0 rfl) rfl rfl ?_
  refine px_objInit (mx_d tX10_init_0 1 rfl) rfl oX10_3 w_obj1 w_obj2 (by decide) (Nat.le_of_ble_eq_true rfl) ?_
  refine px_aload_n (mx_d tX10_init_0 2 rfl) rfl rfl ?_
  refine px_sipush (940) (mx_d tX10_init_0 3 rfl) (by decide) ?_
  refine cx_newI 940 (fun q => q = a) a (a + 1) (mx_d tX10_init_0 4 rfl) w_arrI (by decide) (by decide) hn (mx_lt hcap (by decide)) hz (by decide) (by decide) (fun e1 n1 x1 y1 z1 s1 => ?_)
  refine cx_putR (mx_d tX10_init_0 5 rfl) fX10_9 rfl ⟨_, rfl, rfl, rfl⟩ rfl rfl (fun q => q = a) rfl (x1.is h0) z1 (fun e2 n2 x2 y2 z2 r2 v2 => ?_)
  refine px_aload_n (mx_d tX10_init_0 6 rfl) rfl rfl ?_
  refine px_bipush (22) (mx_d tX10_init_0 7 rfl) (by decide) ?_
  refine cx_newJ 22 (fun q => q = a) a (a + 2) (mx_d tX10_init_0 8 rfl) w_arrJ (by decide) (by decide) (n2.trans n1) (mx_lt hcap (by decide)) z2 (by decide) (by decide) (fun e3 n3 x3 y3 z3 s3 => ?_)
  refine cx_putR (mx_d tX10_init_0 9 rfl) fX10_15 rfl ⟨_, rfl, rfl, rfl⟩ rfl rfl (fun q => q = a) rfl (x3.is (x2.is (x1.is h0))) z3 (fun e4 n4 x4 y4 z4 r4 v4 => ?_)
  have X0 := x1.tr (x2.tr (x3.tr x4))
  have LY : ly10 e4 a := ⟨X0.is h0, ⟨(y4 0 (by decide)).trans ((y3 a 0).trans r2), (x2.tr (x3.tr x4)).is s1⟩, ⟨r4, x4.is s3⟩⟩
  refine px_lconst (0) (mx_d tX10_init_0 10 rfl) (by decide) ?_
  refine px_lstore_n (L2 := [.ref a, .long 0, .float 0, .float 0, .float 0, .float 0]) (mx_d tX10_init_0 11 rfl) rfl (by decide) rfl ?_
  refine px_iconst (0) (mx_d tX10_init_0 12 rfl) (by decide) ?_
  refine px_istore_n (L2 := [.ref a, .long 0, .float 0, .int 0, .float 0, .float 0]) (mx_d tX10_init_0 13 rfl) rfl (by decide) rfl ?_
  refine px_iconst (0) (mx_d tX10_init_0 14 rfl) (by decide) ?_
  refine px_istore (L2 := [.ref a, .long 0, .float 0, .int 0, .int 0, .float 0]) (mx_d tX10_init_0 15 rfl) (by decide) rfl ?_
  refine px_eqL (L' := [.ref a, .long 0, .float 0, .int (nI 0), .int (nI 0), .float 0]) (by rw [nI_0]) ?_
  refine KX10_loop LY (mx_sl.getD 0 0) 0 0 0 mj (by omega) (by omega) ?_
  have hb : e4.1 = a + 3 := n4.trans n3
  exact px_return (mx_d tX10_init_0 52 rfl) rfl ⟨rfl, e4, rfl, hb, mx_x1 hn X0, fun i hi j => ⟨(z4 i hi j).1, (mx_tw_ne (by omega) _ _ _ _ _ _).trans (z4 i hi j).2.1, (z4 i hi j).2.2⟩, LY⟩
