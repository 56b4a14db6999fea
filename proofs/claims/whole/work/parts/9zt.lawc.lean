/-! ===== the law: one call of the script ===== -/
theorem lg_cmp_rf (x : Int64) : lg_cmp x x = 0 := by
  unfold lg_cmp
  rw [if_neg (show ¬ x < x by rw [Int64.lt_iff_toInt_lt]; omega), if_pos rfl]
theorem mx_ul_self {mj : mJ} {a k : Nat} {x : Int64} : mx_ul mj a k x a k = x := by simp [mx_ul]
theorem mx_ul_ne {mj : mJ} {a k b j : Nat} {x : Int64} (h : ¬ b = a) : mx_ul mj a k x b j = mj b j := by
  unfold mx_ul
  rw [if_neg (fun w => h w.1)]
theorem ej_kp {e : mE} {n a b : Nat} (h : a + b ≤ e.1) : mx_kp e (mx_ej e n) a b := fun i h1 h2 => ⟨if_pos (by omega), fun _ => rfl⟩
theorem ly12_in {e : mE} (h : ly12 e 222) : ∀ i, i < 27 → 222 + i < e.1 := fun i hi => Nat.lt_of_le_of_lt (show 222 + i ≤ 222 + 26 by omega) (ly12_s57 h).1
theorem ly12_ej {e : mE} {n : Nat} (hn : e.1 ≤ n) (h : ly12 e 222) : ly12 (mx_ej e n) 222 := by
  have h1 : ∀ i, i < 27 → 222 + i < e.1 := by
    intro i hi
    exact ly12_in h i hi
  exact ly12_ext hn (ej_kp (by have := h1 26 (by omega); omega)) h
theorem ly11_ej {e : mE} {n : Nat} (hn : e.1 ≤ n) (hc : 222 ≤ e.1) (h : ly11 e 0) : ly11 (mx_ej e n) 0 := ly11_ext hn (ej_kp (by omega)) h
section LWC
variable {G : mG} {l : Launch} {kc ks Ls : Nat} {xs : Nat → Int32} {e : mE} {m : mB} {i : Int32}
theorem LW_feed (hin : ∀ j, j < 6 → vp_in (i + i3 j) Ls) (h11 : ly11 e 0) (h12 : ly12 e 222) (hR : RR m m) (hnext : ∀ m', RR m' m' → LF G l kc ks Ls xs 1526 [.ref 400000, .ref 0, .ref 222, .ref 249, .int i, .float 0, .float 0] [] (e, m')) : LF G l kc ks Ls xs 240 [.ref 400000, .ref 0, .ref 222, .ref 249, .int i, .float 0, .float 0] [] (e, m) := by
  obtain ⟨r, m1, m2, e1, e2, R⟩ := U_feed hR (xs (Int32.toNatClampNeg (i + 1))) (xs (Int32.toNatClampNeg (i + 2))) (xs (Int32.toNatClampNeg (i + 3))) (xs (Int32.toNatClampNeg (i + 4))) (xs (Int32.toNatClampNeg (i + 5)))
  have c1 : mx_Call G l MX11_feed 2 0 0 [.ref 0, .int (xs (Int32.toNatClampNeg (i + 1))), .int (xs (Int32.toNatClampNeg (i + 2))), .int (xs (Int32.toNatClampNeg (i + 3))), .int (xs (Int32.toNatClampNeg (i + 4))), .int (xs (Int32.toNatClampNeg (i + 5)))] (e, m) (fun v z => v = some (.int r) ∧ z = (e, m1)) := CX11_feed h11 e1
  have c2 : mx_Call G l MX12_feed 2 0 0 [.ref 222, .int (xs (Int32.toNatClampNeg (i + 1))), .int (xs (Int32.toNatClampNeg (i + 2))), .int (xs (Int32.toNatClampNeg (i + 3))), .int (xs (Int32.toNatClampNeg (i + 4))), .int (xs (Int32.toNatClampNeg (i + 5)))] (e, m1) (fun v z => v = some (.int r) ∧ z = (e, m2)) := CX12_feed h12 e2
  refine px_aload_n (mx_d tL_law_0 25 rfl) rfl rfl ?_
  refine px_aload_n (mx_d tL_law_0 26 rfl) rfl rfl ?_
  refine px_iload (mx_d tL_law_0 27 rfl) rfl ?_
  refine px_iconst (1) (mx_d tL_law_0 28 rfl) (by decide) ?_
  refine px_iadd (mx_d tL_law_0 29 rfl) ?_
  refine px_sld (mx_d tL_law_0 30 rfl) (fun _ h => h.1) (hin 1 (by decide)) ?_
  refine px_aload_n (mx_d tL_law_0 31 rfl) rfl rfl ?_
  refine px_iload (mx_d tL_law_0 32 rfl) rfl ?_
  refine px_iconst (2) (mx_d tL_law_0 33 rfl) (by decide) ?_
  refine px_iadd (mx_d tL_law_0 34 rfl) ?_
  refine px_sld (mx_d tL_law_0 35 rfl) (fun _ h => h.1) (hin 2 (by decide)) ?_
  refine px_aload_n (mx_d tL_law_0 36 rfl) rfl rfl ?_
  refine px_iload (mx_d tL_law_0 37 rfl) rfl ?_
  refine px_iconst (3) (mx_d tL_law_0 38 rfl) (by decide) ?_
  refine px_iadd (mx_d tL_law_0 39 rfl) ?_
  refine px_sld (mx_d tL_law_0 40 rfl) (fun _ h => h.1) (hin 3 (by decide)) ?_
  refine px_aload_n (mx_d tL_law_0 41 rfl) rfl rfl ?_
  refine px_iload (mx_d tL_law_0 42 rfl) rfl ?_
  refine px_iconst (4) (mx_d tL_law_0 43 rfl) (by decide) ?_
  refine px_iadd (mx_d tL_law_0 44 rfl) ?_
  refine px_sld (mx_d tL_law_0 45 rfl) (fun _ h => h.1) (hin 4 (by decide)) ?_
  refine px_aload_n (mx_d tL_law_0 46 rfl) rfl rfl ?_
  refine px_iload (mx_d tL_law_0 47 rfl) rfl ?_
  refine px_iconst (5) (mx_d tL_law_0 48 rfl) (by decide) ?_
  refine px_iadd (mx_d tL_law_0 49 rfl) ?_
  refine px_sld (mx_d tL_law_0 50 rfl) (fun _ h => h.1) (hin 5 (by decide)) ?_
  refine rx_cV (av := [.int (xs (Int32.toNatClampNeg (i + 1))), .int (xs (Int32.toNatClampNeg (i + 2))), .int (xs (Int32.toNatClampNeg (i + 3))), .int (xs (Int32.toNatClampNeg (i + 4))), .int (xs (Int32.toNatClampNeg (i + 5)))]) (mx_d tL_law_0 51 rfl) iL_30 rfl vX11_feed ⟨_, rfl, rfl⟩ (ly11_o h11) c1 (by decide) rfl rfl (Nat.le_of_ble_eq_true rfl) ?_
  refine px_aload_n (mx_d tL_law_0 52 rfl) rfl rfl ?_
  refine px_aload_n (mx_d tL_law_0 53 rfl) rfl rfl ?_
  refine px_iload (mx_d tL_law_0 54 rfl) rfl ?_
  refine px_iconst (1) (mx_d tL_law_0 55 rfl) (by decide) ?_
  refine px_iadd (mx_d tL_law_0 56 rfl) ?_
  refine px_sld (mx_d tL_law_0 57 rfl) (fun _ h => h.1) (hin 1 (by decide)) ?_
  refine px_aload_n (mx_d tL_law_0 58 rfl) rfl rfl ?_
  refine px_iload (mx_d tL_law_0 59 rfl) rfl ?_
  refine px_iconst (2) (mx_d tL_law_1 0 rfl) (by decide) ?_
  refine px_iadd (mx_d tL_law_1 1 rfl) ?_
  refine px_sld (mx_d tL_law_1 2 rfl) (fun _ h => h.1) (hin 2 (by decide)) ?_
  refine px_aload_n (mx_d tL_law_1 3 rfl) rfl rfl ?_
  refine px_iload (mx_d tL_law_1 4 rfl) rfl ?_
  refine px_iconst (3) (mx_d tL_law_1 5 rfl) (by decide) ?_
  refine px_iadd (mx_d tL_law_1 6 rfl) ?_
  refine px_sld (mx_d tL_law_1 7 rfl) (fun _ h => h.1) (hin 3 (by decide)) ?_
  refine px_aload_n (mx_d tL_law_1 8 rfl) rfl rfl ?_
  refine px_iload (mx_d tL_law_1 9 rfl) rfl ?_
  refine px_iconst (4) (mx_d tL_law_1 10 rfl) (by decide) ?_
  refine px_iadd (mx_d tL_law_1 11 rfl) ?_
  refine px_sld (mx_d tL_law_1 12 rfl) (fun _ h => h.1) (hin 4 (by decide)) ?_
  refine px_aload_n (mx_d tL_law_1 13 rfl) rfl rfl ?_
  refine px_iload (mx_d tL_law_1 14 rfl) rfl ?_
  refine px_iconst (5) (mx_d tL_law_1 15 rfl) (by decide) ?_
  refine px_iadd (mx_d tL_law_1 16 rfl) ?_
  refine px_sld (mx_d tL_law_1 17 rfl) (fun _ h => h.1) (hin 5 (by decide)) ?_
  refine rx_cV (av := [.int (xs (Int32.toNatClampNeg (i + 1))), .int (xs (Int32.toNatClampNeg (i + 2))), .int (xs (Int32.toNatClampNeg (i + 3))), .int (xs (Int32.toNatClampNeg (i + 4))), .int (xs (Int32.toNatClampNeg (i + 5)))]) (mx_d tL_law_1 18 rfl) iL_34 rfl vX12_feed ⟨_, rfl, rfl⟩ (ly12_o h12) c2 (by decide) rfl rfl (Nat.le_of_ble_eq_true rfl) ?_
  exact px_icmp_eq (tgt := 1526) (mx_d tL_law_1 19 rfl) (by decide) (fun _ => hnext m2 R) (fun hc => absurd rfl hc)
theorem LW_end (hin : ∀ j, j < 6 → vp_in (i + i3 j) Ls) (h11 : ly11 e 0) (h12 : ly12 e 222) (hR : RR m m) (hnext : ∀ m', RR m' m' → LF G l kc ks Ls xs 1526 [.ref 400000, .ref 0, .ref 222, .ref 249, .int i, .float 0, .float 0] [] (e, m')) : LF G l kc ks Ls xs 313 [.ref 400000, .ref 0, .ref 222, .ref 249, .int i, .float 0, .float 0] [] (e, m) := by
  obtain ⟨r, m1, m2, e1, e2, R⟩ := U_end hR (xs (Int32.toNatClampNeg (i + 1)))
  have c1 : mx_Call G l MX11_end 2 0 0 [.ref 0, .int (xs (Int32.toNatClampNeg (i + 1)))] (e, m) (fun v z => v = some (.int r) ∧ z = (e, m1)) := CX11_end h11 e1
  have c2 : mx_Call G l MX12_end 1 0 0 [.ref 222, .int (xs (Int32.toNatClampNeg (i + 1)))] (e, m1) (fun v z => v = some (.int r) ∧ z = (e, m2)) := CX12_end h12 e2
  refine px_aload_n (mx_d tL_law_1 22 rfl) rfl rfl ?_
  refine px_aload_n (mx_d tL_law_1 23 rfl) rfl rfl ?_
  refine px_iload (mx_d tL_law_1 24 rfl) rfl ?_
  refine px_iconst (1) (mx_d tL_law_1 25 rfl) (by decide) ?_
  refine px_iadd (mx_d tL_law_1 26 rfl) ?_
  refine px_sld (mx_d tL_law_1 27 rfl) (fun _ h => h.1) (hin 1 (by decide)) ?_
  refine rx_cV (av := [.int (xs (Int32.toNatClampNeg (i + 1)))]) (mx_d tL_law_1 28 rfl) iL_35 rfl vX11_end ⟨_, rfl, rfl⟩ (ly11_o h11) c1 (by decide) rfl rfl (Nat.le_of_ble_eq_true rfl) ?_
  refine px_aload_n (mx_d tL_law_1 29 rfl) rfl rfl ?_
  refine px_aload_n (mx_d tL_law_1 30 rfl) rfl rfl ?_
  refine px_iload (mx_d tL_law_1 31 rfl) rfl ?_
  refine px_iconst (1) (mx_d tL_law_1 32 rfl) (by decide) ?_
  refine px_iadd (mx_d tL_law_1 33 rfl) ?_
  refine px_sld (mx_d tL_law_1 34 rfl) (fun _ h => h.1) (hin 1 (by decide)) ?_
  refine rx_cV (av := [.int (xs (Int32.toNatClampNeg (i + 1)))]) (mx_d tL_law_1 35 rfl) iL_39 rfl vX12_end ⟨_, rfl, rfl⟩ (ly12_o h12) c2 (by decide) rfl rfl (Nat.le_of_ble_eq_true rfl) ?_
  exact px_icmp_eq (tgt := 1526) (mx_d tL_law_1 36 rfl) (by decide) (fun _ => hnext m2 R) (fun hc => absurd rfl hc)
theorem LW_network (hin : ∀ j, j < 6 → vp_in (i + i3 j) Ls) (h11 : ly11 e 0) (h12 : ly12 e 222) (hR : RR m m) (hnext : ∀ m', RR m' m' → LF G l kc ks Ls xs 1526 [.ref 400000, .ref 0, .ref 222, .ref 249, .int i, .float 0, .float 0] [] (e, m')) : LF G l kc ks Ls xs 338 [.ref 400000, .ref 0, .ref 222, .ref 249, .int i, .float 0, .float 0] [] (e, m) := by
  obtain ⟨r, m1, m2, e1, e2, R⟩ := U_network hR
  have c1 : mx_Call G l MX11_network 7 0 0 [.ref 0] (e, m) (fun v z => v = some (.int r) ∧ z = (e, m1)) := CX11_network h11 e1
  have c2 : mx_Call G l MX12_network 7 0 0 [.ref 222] (e, m1) (fun v z => v = some (.int r) ∧ z = (e, m2)) := CX12_network h12 e2
  refine px_aload_n (mx_d tL_law_1 39 rfl) rfl rfl ?_
  refine rx_cV (av := []) (mx_d tL_law_1 40 rfl) iL_40 rfl vX11_network ⟨_, rfl, rfl⟩ (ly11_o h11) c1 (by decide) rfl rfl (Nat.le_of_ble_eq_true rfl) ?_
  refine px_aload_n (mx_d tL_law_1 41 rfl) rfl rfl ?_
  refine rx_cV (av := []) (mx_d tL_law_1 42 rfl) iL_43 rfl vX12_network ⟨_, rfl, rfl⟩ (ly12_o h12) c2 (by decide) rfl rfl (Nat.le_of_ble_eq_true rfl) ?_
  exact px_icmp_eq (tgt := 1526) (mx_d tL_law_1 43 rfl) (by decide) (fun _ => hnext m2 R) (fun hc => absurd rfl hc)
theorem LW_fault (hin : ∀ j, j < 6 → vp_in (i + i3 j) Ls) (h11 : ly11 e 0) (h12 : ly12 e 222) (hR : RR m m) (hnext : ∀ m', RR m' m' → LF G l kc ks Ls xs 1526 [.ref 400000, .ref 0, .ref 222, .ref 249, .int i, .float 0, .float 0] [] (e, m')) : LF G l kc ks Ls xs 351 [.ref 400000, .ref 0, .ref 222, .ref 249, .int i, .float 0, .float 0] [] (e, m) := by
  obtain ⟨r, m2, e1, e2, R⟩ := U_fault hR
  have c1 : mx_Call G l MX11_fault 2 0 0 [.ref 0] (e, m) (fun v z => v = some (.int r) ∧ z = (e, m)) := CX11_fault h11 e1
  have c2 : mx_Call G l MX12_fault 1 0 0 [.ref 222] (e, m) (fun v z => v = some (.int r) ∧ z = (e, m2)) := CX12_fault h12 e2
  refine px_aload_n (mx_d tL_law_1 46 rfl) rfl rfl ?_
  refine rx_cV (av := []) (mx_d tL_law_1 47 rfl) iL_44 rfl vX11_fault ⟨_, rfl, rfl⟩ (ly11_o h11) c1 (by decide) rfl rfl (Nat.le_of_ble_eq_true rfl) ?_
  refine px_aload_n (mx_d tL_law_1 48 rfl) rfl rfl ?_
  refine rx_cV (av := []) (mx_d tL_law_1 49 rfl) iL_47 rfl vX12_fault ⟨_, rfl, rfl⟩ (ly12_o h12) c2 (by decide) rfl rfl (Nat.le_of_ble_eq_true rfl) ?_
  exact px_icmp_eq (tgt := 1526) (mx_d tL_law_1 50 rfl) (by decide) (fun _ => hnext m2 R) (fun hc => absurd rfl hc)
theorem LW_point (hl : l.stackTraces = false) (hin : ∀ j, j < 6 → vp_in (i + i3 j) Ls) (h11 : ly11 e 0) (h12 : ly12 e 222) (ho : mx_is e 249 101 1) (hcap : e.1 < 100000) (hkc : 1 ≤ kc) (hks : 6 ≤ ks) (hR : RR m m) (hnext : ∀ e' m', RR m' m' → (e' = e ∨ ∃ n, e.1 ≤ n ∧ n ≤ e.1 + 1 ∧ e' = mx_ej e n) → LF G l (kc - 1) (ks - 6) Ls xs 1526 [.ref 400000, .ref 0, .ref 222, .ref 249, .int i, .float 0, .float 0] [] (e', m')) : LF G l kc ks Ls xs 364 [.ref 400000, .ref 0, .ref 222, .ref 249, .int i, .float 0, .float 0] [] (e, m) := by
  obtain ⟨r0, m0, g1, g2, g3, g4⟩ := U_point hR mx_out.rf (xs (Int32.toNatClampNeg (i + 1))) (xs (Int32.toNatClampNeg (i + 2)))
  refine px_aload_n (mx_d tL_law_1 53 rfl) rfl rfl ?_
  refine px_aload_n (mx_d tL_law_1 54 rfl) rfl rfl ?_
  refine px_iload (mx_d tL_law_1 55 rfl) rfl ?_
  refine px_iconst (1) (mx_d tL_law_1 56 rfl) (by decide) ?_
  refine px_iadd (mx_d tL_law_1 57 rfl) ?_
  refine px_sld (mx_d tL_law_1 58 rfl) (fun _ h => h.1) (hin 1 (by decide)) ?_
  refine px_aload_n (mx_d tL_law_1 59 rfl) rfl rfl ?_
  refine px_iload (mx_d tL_law_2 0 rfl) rfl ?_
  refine px_iconst (2) (mx_d tL_law_2 1 rfl) (by decide) ?_
  refine px_iadd (mx_d tL_law_2 2 rfl) ?_
  refine px_sld (mx_d tL_law_2 3 rfl) (fun _ h => h.1) (hin 2 (by decide)) ?_
  refine px_aload_n (mx_d tL_law_2 4 rfl) rfl rfl ?_
  rcases g4 with ⟨gA, -⟩ | ⟨gT, g0⟩
  · refine px_callSW (mx_d tL_law_2 5 rfl) iW_point rfl (fun _ h => h.2.2) (CL_point (o := 249) h11 ho gA) (by decide) hkc hks rfl rfl (Nat.le_of_ble_eq_true rfl) (fun v z' hp => ?_)
    obtain ⟨rfl, rfl⟩ := hp
    obtain ⟨r, m2, f1, f2, f3, f4⟩ := U_point (m' := (m.1, mx_ul m.2 249 0 (Int32.toInt64 r0))) hR (fun b j q => ⟨rfl, mx_ul_ne (fun w => q (by omega))⟩) (xs (Int32.toNatClampNeg (i + 1))) (xs (Int32.toNatClampNeg (i + 2)))
    have f5 : r = r0 ∧ m2.1 222 0 = 0 := by
      rcases f4 with ⟨fA, f0⟩ | ⟨fT, -⟩
      · exact ⟨Option.some.inj (fA.symm.trans gA), f0⟩
      · rw [N_point fT] at gA; cases gA
    obtain ⟨rfl, f0⟩ := f5
    have c2 : mx_Call G l MX12_point 4 0 0 [.ref 222, .int (xs (Int32.toNatClampNeg (i + 1))), .int (xs (Int32.toNatClampNeg (i + 2)))] (e, m.1, mx_ul m.2 249 0 (Int32.toInt64 r)) (fun v z => v = some (.int r) ∧ z = (e, m2)) := CX12_point h12 f1
    have c3 : mx_Call G l MX12_thrown 1 0 0 [.ref 222] (e, m2) (fun v z => v = some (.int 0) ∧ z = (e, m2)) := CX12_thrown h12 (by unfold FX12_thrown; rw [f0])
    have hcmp : lg_cmp (m2.2 249 (Int32.toNatClampNeg 0)) (Int32.toInt64 r) = 0 := by
      have e0 : m2.2 249 (Int32.toNatClampNeg 0) = Int32.toInt64 r := by
        show m2.2 249 0 = _
        rw [f3]
        show mx_ul m.2 249 0 (Int32.toInt64 r) 249 0 = _
        exact mx_ul_self
      rw [e0]
      exact lg_cmp_rf _
    refine px_istore (L2 := [.ref 400000, .ref 0, .ref 222, .ref 249, .int i, .int 0, .float 0]) (mx_d tL_law_2 6 rfl) (by decide) rfl ?_
    refine px_aload_n (mx_d tL_law_2 7 rfl) rfl rfl ?_
    refine px_aload_n (mx_d tL_law_2 8 rfl) rfl rfl ?_
    refine px_iload (mx_d tL_law_2 9 rfl) rfl ?_
    refine px_iconst (1) (mx_d tL_law_2 10 rfl) (by decide) ?_
    refine px_iadd (mx_d tL_law_2 11 rfl) ?_
    refine px_sld (mx_d tL_law_2 12 rfl) (fun _ h => h.1) (hin 1 (by decide)) ?_
    refine px_aload_n (mx_d tL_law_2 13 rfl) rfl rfl ?_
    refine px_iload (mx_d tL_law_2 14 rfl) rfl ?_
    refine px_iconst (2) (mx_d tL_law_2 15 rfl) (by decide) ?_
    refine px_iadd (mx_d tL_law_2 16 rfl) ?_
    refine px_sld (mx_d tL_law_2 17 rfl) (fun _ h => h.1) (hin 2 (by decide)) ?_
    refine rx_cV (av := [.int (xs (Int32.toNatClampNeg (i + 1))), .int (xs (Int32.toNatClampNeg (i + 2)))]) (mx_d tL_law_2 18 rfl) iL_53 rfl vX12_point ⟨_, rfl, rfl⟩ (ly12_o h12) c2 (by decide) rfl rfl (Nat.le_of_ble_eq_true rfl) ?_
    refine px_istore (L2 := [.ref 400000, .ref 0, .ref 222, .ref 249, .int i, .int 0, .int r]) (mx_d tL_law_2 19 rfl) (by decide) rfl ?_
    refine px_aload_n (mx_d tL_law_2 20 rfl) rfl rfl ?_
    refine rx_cV (av := []) (mx_d tL_law_2 21 rfl) iL_54 rfl vX12_thrown ⟨_, rfl, rfl⟩ (ly12_o h12) c3 (by decide) rfl rfl (Nat.le_of_ble_eq_true rfl) ?_
    refine px_iload (mx_d tL_law_2 22 rfl) rfl ?_
    refine px_icmp_eq (tgt := 412) (mx_d tL_law_2 23 rfl) (by decide) (fun _ => ?_) (fun hc => absurd rfl hc)
    refine px_iload (mx_d tL_law_2 26 rfl) rfl ?_
    refine px_if_ne (tgt := 429) (mx_d tL_law_2 27 rfl) (by decide) (fun hc => absurd rfl hc) (fun _ => ?_)
    refine px_aload_n (mx_d tL_law_2 28 rfl) rfl rfl ?_
    refine px_iconst (0) (mx_d tL_law_2 29 rfl) (by decide) ?_
    refine px_laload (mx_d tL_law_2 30 rfl) ho (fun q => by rcases q with q | q <;> revert q <;> decide) ?_
    refine px_iload (mx_d tL_law_2 31 rfl) rfl ?_
    refine px_i2l (mx_d tL_law_2 32 rfl) ?_
    refine px_lcmp (mx_d tL_law_2 33 rfl) ?_
    refine px_if_eq (tgt := 429) (mx_d tL_law_2 34 rfl) (by decide) (fun _ => ?_) (fun hc => absurd hcmp hc)
    refine px_goto (tgt := 1526) (mx_d tL_law_2 37 rfl) (by decide) ?_
    refine px_forget (L' := [.ref 400000, .ref 0, .ref 222, .ref 249, .int i, .float 0, .float 0]) ⟨rfl, rfl, rfl, rfl, rfl, trivial⟩ ?_
    exact hnext e m2 f2 (Or.inl rfl)
  · refine px_callSW (mx_d tL_law_2 5 rfl) iW_point rfl (fun _ h => h.2.2) (EL_point (o := 249) hl hcap h11 gT.choose_spec.1 gT.choose_spec.2) (by decide) hkc hks rfl rfl (Nat.le_of_ble_eq_true rfl) (fun v z' hp => ?_)
    obtain ⟨rfl, n', hn1, hn2, rfl⟩ := hp
    have h12e : ly12 (mx_ej e n') 222 := ly12_ej hn1 h12
    have c2 : mx_Call G l MX12_point 4 0 0 [.ref 222, .int (xs (Int32.toNatClampNeg (i + 1))), .int (xs (Int32.toNatClampNeg (i + 2)))] (mx_ej e n', m) (fun v z => v = some (.int r0) ∧ z = (mx_ej e n', m0)) := CX12_point h12e g1
    have c3 : mx_Call G l MX12_thrown 1 0 0 [.ref 222] (mx_ej e n', m0) (fun v z => v = some (.int 1) ∧ z = (mx_ej e n', m0)) := CX12_thrown h12e (by unfold FX12_thrown; rw [g0])
    refine px_istore (L2 := [.ref 400000, .ref 0, .ref 222, .ref 249, .int i, .int 1, .float 0]) (mx_d tL_law_2 6 rfl) (by decide) rfl ?_
    refine px_aload_n (mx_d tL_law_2 7 rfl) rfl rfl ?_
    refine px_aload_n (mx_d tL_law_2 8 rfl) rfl rfl ?_
    refine px_iload (mx_d tL_law_2 9 rfl) rfl ?_
    refine px_iconst (1) (mx_d tL_law_2 10 rfl) (by decide) ?_
    refine px_iadd (mx_d tL_law_2 11 rfl) ?_
    refine px_sld (mx_d tL_law_2 12 rfl) (fun _ h => h.1) (hin 1 (by decide)) ?_
    refine px_aload_n (mx_d tL_law_2 13 rfl) rfl rfl ?_
    refine px_iload (mx_d tL_law_2 14 rfl) rfl ?_
    refine px_iconst (2) (mx_d tL_law_2 15 rfl) (by decide) ?_
    refine px_iadd (mx_d tL_law_2 16 rfl) ?_
    refine px_sld (mx_d tL_law_2 17 rfl) (fun _ h => h.1) (hin 2 (by decide)) ?_
    refine rx_cV (av := [.int (xs (Int32.toNatClampNeg (i + 1))), .int (xs (Int32.toNatClampNeg (i + 2)))]) (mx_d tL_law_2 18 rfl) iL_53 rfl vX12_point ⟨_, rfl, rfl⟩ (ly12_o h12e) c2 (by decide) rfl rfl (Nat.le_of_ble_eq_true rfl) ?_
    refine px_istore (L2 := [.ref 400000, .ref 0, .ref 222, .ref 249, .int i, .int 1, .int r0]) (mx_d tL_law_2 19 rfl) (by decide) rfl ?_
    refine px_aload_n (mx_d tL_law_2 20 rfl) rfl rfl ?_
    refine rx_cV (av := []) (mx_d tL_law_2 21 rfl) iL_54 rfl vX12_thrown ⟨_, rfl, rfl⟩ (ly12_o h12e) c3 (by decide) rfl rfl (Nat.le_of_ble_eq_true rfl) ?_
    refine px_iload (mx_d tL_law_2 22 rfl) rfl ?_
    refine px_icmp_eq (tgt := 412) (mx_d tL_law_2 23 rfl) (by decide) (fun _ => ?_) (fun hc => absurd rfl hc)
    refine px_iload (mx_d tL_law_2 26 rfl) rfl ?_
    refine px_if_ne (tgt := 429) (mx_d tL_law_2 27 rfl) (by decide) (fun _ => ?_) (fun hc => absurd hc (by decide))
    refine px_goto (tgt := 1526) (mx_d tL_law_2 37 rfl) (by decide) ?_
    refine px_forget (L' := [.ref 400000, .ref 0, .ref 222, .ref 249, .int i, .float 0, .float 0]) ⟨rfl, rfl, rfl, rfl, rfl, trivial⟩ ?_
    exact hnext _ m0 g2 (Or.inr ⟨n', hn1, hn2, rfl⟩)
theorem LW_link (hin : ∀ j, j < 6 → vp_in (i + i3 j) Ls) (h11 : ly11 e 0) (h12 : ly12 e 222) (hR : RR m m) (hnext : ∀ m', RR m' m' → LF G l kc ks Ls xs 1526 [.ref 400000, .ref 0, .ref 222, .ref 249, .int i, .float 0, .float 0] [] (e, m')) : LF G l kc ks Ls xs 432 [.ref 400000, .ref 0, .ref 222, .ref 249, .int i, .float 0, .float 0] [] (e, m) := by
  obtain ⟨r, m1, m2, e1, e2, R⟩ := U_link hR (xs (Int32.toNatClampNeg (i + 1))) (xs (Int32.toNatClampNeg (i + 2)))
  have c1 : mx_Call G l MX11_link 323 0 0 [.ref 0, .int (xs (Int32.toNatClampNeg (i + 1))), .int (xs (Int32.toNatClampNeg (i + 2)))] (e, m) (fun v z => v = some (.int r) ∧ z = (e, m1)) := CX11_link h11 e1
  have c2 : mx_Call G l MX12_link 260 0 0 [.ref 222, .int (xs (Int32.toNatClampNeg (i + 1))), .int (xs (Int32.toNatClampNeg (i + 2)))] (e, m1) (fun v z => v = some (.int r) ∧ z = (e, m2)) := CX12_link h12 e2
  refine px_aload_n (mx_d tL_law_2 38 rfl) rfl rfl ?_
  refine px_aload_n (mx_d tL_law_2 39 rfl) rfl rfl ?_
  refine px_iload (mx_d tL_law_2 40 rfl) rfl ?_
  refine px_iconst (1) (mx_d tL_law_2 41 rfl) (by decide) ?_
  refine px_iadd (mx_d tL_law_2 42 rfl) ?_
  refine px_sld (mx_d tL_law_2 43 rfl) (fun _ h => h.1) (hin 1 (by decide)) ?_
  refine px_aload_n (mx_d tL_law_2 44 rfl) rfl rfl ?_
  refine px_iload (mx_d tL_law_2 45 rfl) rfl ?_
  refine px_iconst (2) (mx_d tL_law_2 46 rfl) (by decide) ?_
  refine px_iadd (mx_d tL_law_2 47 rfl) ?_
  refine px_sld (mx_d tL_law_2 48 rfl) (fun _ h => h.1) (hin 2 (by decide)) ?_
  refine rx_cV (av := [.int (xs (Int32.toNatClampNeg (i + 1))), .int (xs (Int32.toNatClampNeg (i + 2)))]) (mx_d tL_law_2 49 rfl) iL_57 rfl vX11_link ⟨_, rfl, rfl⟩ (ly11_o h11) c1 (by decide) rfl rfl (Nat.le_of_ble_eq_true rfl) ?_
  refine px_aload_n (mx_d tL_law_2 50 rfl) rfl rfl ?_
  refine px_aload_n (mx_d tL_law_2 51 rfl) rfl rfl ?_
  refine px_iload (mx_d tL_law_2 52 rfl) rfl ?_
  refine px_iconst (1) (mx_d tL_law_2 53 rfl) (by decide) ?_
  refine px_iadd (mx_d tL_law_2 54 rfl) ?_
  refine px_sld (mx_d tL_law_2 55 rfl) (fun _ h => h.1) (hin 1 (by decide)) ?_
  refine px_aload_n (mx_d tL_law_2 56 rfl) rfl rfl ?_
  refine px_iload (mx_d tL_law_2 57 rfl) rfl ?_
  refine px_iconst (2) (mx_d tL_law_2 58 rfl) (by decide) ?_
  refine px_iadd (mx_d tL_law_2 59 rfl) ?_
  refine px_sld (mx_d tL_law_3 0 rfl) (fun _ h => h.1) (hin 2 (by decide)) ?_
  refine rx_cV (av := [.int (xs (Int32.toNatClampNeg (i + 1))), .int (xs (Int32.toNatClampNeg (i + 2)))]) (mx_d tL_law_3 1 rfl) iL_60 rfl vX12_link ⟨_, rfl, rfl⟩ (ly12_o h12) c2 (by decide) rfl rfl (Nat.le_of_ble_eq_true rfl) ?_
  exact px_icmp_eq (tgt := 1526) (mx_d tL_law_3 2 rfl) (by decide) (fun _ => hnext m2 R) (fun hc => absurd rfl hc)
theorem LW_slack (hl : l.stackTraces = false) (hin : ∀ j, j < 6 → vp_in (i + i3 j) Ls) (h11 : ly11 e 0) (h12 : ly12 e 222) (ho : mx_is e 249 101 1) (hcap : e.1 < 100000) (hkc : 1 ≤ kc) (hks : 6 ≤ ks) (hR : RR m m) (hnext : ∀ e' m', RR m' m' → (e' = e ∨ ∃ n, e.1 ≤ n ∧ n ≤ e.1 + 1 ∧ e' = mx_ej e n) → LF G l (kc - 1) (ks - 6) Ls xs 1526 [.ref 400000, .ref 0, .ref 222, .ref 249, .int i, .float 0, .float 0] [] (e', m')) : LF G l kc ks Ls xs 469 [.ref 400000, .ref 0, .ref 222, .ref 249, .int i, .float 0, .float 0] [] (e, m) := by
  obtain ⟨r0, m0, g1, g2, g3, g4⟩ := U_slack hR mx_out.rf (xs (Int32.toNatClampNeg (i + 1)))
  refine px_aload_n (mx_d tL_law_3 5 rfl) rfl rfl ?_
  refine px_aload_n (mx_d tL_law_3 6 rfl) rfl rfl ?_
  refine px_iload (mx_d tL_law_3 7 rfl) rfl ?_
  refine px_iconst (1) (mx_d tL_law_3 8 rfl) (by decide) ?_
  refine px_iadd (mx_d tL_law_3 9 rfl) ?_
  refine px_sld (mx_d tL_law_3 10 rfl) (fun _ h => h.1) (hin 1 (by decide)) ?_
  refine px_aload_n (mx_d tL_law_3 11 rfl) rfl rfl ?_
  rcases g4 with ⟨gA, -⟩ | ⟨gT, g0⟩
  · refine px_callSW (mx_d tL_law_3 12 rfl) iW_slack rfl (fun _ h => h.2.2) (CL_slack (o := 249) h11 ho gA) (by decide) hkc hks rfl rfl (Nat.le_of_ble_eq_true rfl) (fun v z' hp => ?_)
    obtain ⟨rfl, rfl⟩ := hp
    obtain ⟨r, m2, f1, f2, f3, f4⟩ := U_slack (m' := (m.1, mx_ul m.2 249 0 (Int32.toInt64 r0))) hR (fun b j q => ⟨rfl, mx_ul_ne (fun w => q (by omega))⟩) (xs (Int32.toNatClampNeg (i + 1)))
    have f5 : r = r0 ∧ m2.1 222 0 = 0 := by
      rcases f4 with ⟨fA, f0⟩ | ⟨fT, -⟩
      · exact ⟨Option.some.inj (fA.symm.trans gA), f0⟩
      · rw [N_slack fT] at gA; cases gA
    obtain ⟨rfl, f0⟩ := f5
    have c2 : mx_Call G l MX12_slack 3 0 0 [.ref 222, .int (xs (Int32.toNatClampNeg (i + 1)))] (e, m.1, mx_ul m.2 249 0 (Int32.toInt64 r)) (fun v z => v = some (.int r) ∧ z = (e, m2)) := CX12_slack h12 f1
    have c3 : mx_Call G l MX12_thrown 1 0 0 [.ref 222] (e, m2) (fun v z => v = some (.int 0) ∧ z = (e, m2)) := CX12_thrown h12 (by unfold FX12_thrown; rw [f0])
    have hcmp : lg_cmp (m2.2 249 (Int32.toNatClampNeg 0)) (Int32.toInt64 r) = 0 := by
      have e0 : m2.2 249 (Int32.toNatClampNeg 0) = Int32.toInt64 r := by
        show m2.2 249 0 = _
        rw [f3]
        show mx_ul m.2 249 0 (Int32.toInt64 r) 249 0 = _
        exact mx_ul_self
      rw [e0]
      exact lg_cmp_rf _
    refine px_istore (L2 := [.ref 400000, .ref 0, .ref 222, .ref 249, .int i, .int 0, .float 0]) (mx_d tL_law_3 13 rfl) (by decide) rfl ?_
    refine px_aload_n (mx_d tL_law_3 14 rfl) rfl rfl ?_
    refine px_aload_n (mx_d tL_law_3 15 rfl) rfl rfl ?_
    refine px_iload (mx_d tL_law_3 16 rfl) rfl ?_
    refine px_iconst (1) (mx_d tL_law_3 17 rfl) (by decide) ?_
    refine px_iadd (mx_d tL_law_3 18 rfl) ?_
    refine px_sld (mx_d tL_law_3 19 rfl) (fun _ h => h.1) (hin 1 (by decide)) ?_
    refine rx_cV (av := [.int (xs (Int32.toNatClampNeg (i + 1)))]) (mx_d tL_law_3 20 rfl) iL_64 rfl vX12_slack ⟨_, rfl, rfl⟩ (ly12_o h12) c2 (by decide) rfl rfl (Nat.le_of_ble_eq_true rfl) ?_
    refine px_istore (L2 := [.ref 400000, .ref 0, .ref 222, .ref 249, .int i, .int 0, .int r]) (mx_d tL_law_3 21 rfl) (by decide) rfl ?_
    refine px_aload_n (mx_d tL_law_3 22 rfl) rfl rfl ?_
    refine rx_cV (av := []) (mx_d tL_law_3 23 rfl) iL_54 rfl vX12_thrown ⟨_, rfl, rfl⟩ (ly12_o h12) c3 (by decide) rfl rfl (Nat.le_of_ble_eq_true rfl) ?_
    refine px_iload (mx_d tL_law_3 24 rfl) rfl ?_
    refine px_icmp_eq (tgt := 505) (mx_d tL_law_3 25 rfl) (by decide) (fun _ => ?_) (fun hc => absurd rfl hc)
    refine px_iload (mx_d tL_law_3 28 rfl) rfl ?_
    refine px_if_ne (tgt := 522) (mx_d tL_law_3 29 rfl) (by decide) (fun hc => absurd rfl hc) (fun _ => ?_)
    refine px_aload_n (mx_d tL_law_3 30 rfl) rfl rfl ?_
    refine px_iconst (0) (mx_d tL_law_3 31 rfl) (by decide) ?_
    refine px_laload (mx_d tL_law_3 32 rfl) ho (fun q => by rcases q with q | q <;> revert q <;> decide) ?_
    refine px_iload (mx_d tL_law_3 33 rfl) rfl ?_
    refine px_i2l (mx_d tL_law_3 34 rfl) ?_
    refine px_lcmp (mx_d tL_law_3 35 rfl) ?_
    refine px_if_eq (tgt := 522) (mx_d tL_law_3 36 rfl) (by decide) (fun _ => ?_) (fun hc => absurd hcmp hc)
    refine px_goto (tgt := 1526) (mx_d tL_law_3 39 rfl) (by decide) ?_
    refine px_forget (L' := [.ref 400000, .ref 0, .ref 222, .ref 249, .int i, .float 0, .float 0]) ⟨rfl, rfl, rfl, rfl, rfl, trivial⟩ ?_
    exact hnext e m2 f2 (Or.inl rfl)
  · refine px_callSW (mx_d tL_law_3 12 rfl) iW_slack rfl (fun _ h => h.2.2) (EL_slack (o := 249) hl hcap h11 gT) (by decide) hkc hks rfl rfl (Nat.le_of_ble_eq_true rfl) (fun v z' hp => ?_)
    obtain ⟨rfl, n', hn1, hn2, rfl⟩ := hp
    have h12e : ly12 (mx_ej e n') 222 := ly12_ej hn1 h12
    have c2 : mx_Call G l MX12_slack 3 0 0 [.ref 222, .int (xs (Int32.toNatClampNeg (i + 1)))] (mx_ej e n', m) (fun v z => v = some (.int r0) ∧ z = (mx_ej e n', m0)) := CX12_slack h12e g1
    have c3 : mx_Call G l MX12_thrown 1 0 0 [.ref 222] (mx_ej e n', m0) (fun v z => v = some (.int 1) ∧ z = (mx_ej e n', m0)) := CX12_thrown h12e (by unfold FX12_thrown; rw [g0])
    refine px_istore (L2 := [.ref 400000, .ref 0, .ref 222, .ref 249, .int i, .int 1, .float 0]) (mx_d tL_law_3 13 rfl) (by decide) rfl ?_
    refine px_aload_n (mx_d tL_law_3 14 rfl) rfl rfl ?_
    refine px_aload_n (mx_d tL_law_3 15 rfl) rfl rfl ?_
    refine px_iload (mx_d tL_law_3 16 rfl) rfl ?_
    refine px_iconst (1) (mx_d tL_law_3 17 rfl) (by decide) ?_
    refine px_iadd (mx_d tL_law_3 18 rfl) ?_
    refine px_sld (mx_d tL_law_3 19 rfl) (fun _ h => h.1) (hin 1 (by decide)) ?_
    refine rx_cV (av := [.int (xs (Int32.toNatClampNeg (i + 1)))]) (mx_d tL_law_3 20 rfl) iL_64 rfl vX12_slack ⟨_, rfl, rfl⟩ (ly12_o h12e) c2 (by decide) rfl rfl (Nat.le_of_ble_eq_true rfl) ?_
    refine px_istore (L2 := [.ref 400000, .ref 0, .ref 222, .ref 249, .int i, .int 1, .int r0]) (mx_d tL_law_3 21 rfl) (by decide) rfl ?_
    refine px_aload_n (mx_d tL_law_3 22 rfl) rfl rfl ?_
    refine rx_cV (av := []) (mx_d tL_law_3 23 rfl) iL_54 rfl vX12_thrown ⟨_, rfl, rfl⟩ (ly12_o h12e) c3 (by decide) rfl rfl (Nat.le_of_ble_eq_true rfl) ?_
    refine px_iload (mx_d tL_law_3 24 rfl) rfl ?_
    refine px_icmp_eq (tgt := 505) (mx_d tL_law_3 25 rfl) (by decide) (fun _ => ?_) (fun hc => absurd rfl hc)
    refine px_iload (mx_d tL_law_3 28 rfl) rfl ?_
    refine px_if_ne (tgt := 522) (mx_d tL_law_3 29 rfl) (by decide) (fun _ => ?_) (fun hc => absurd hc (by decide))
    refine px_goto (tgt := 1526) (mx_d tL_law_3 39 rfl) (by decide) ?_
    refine px_forget (L' := [.ref 400000, .ref 0, .ref 222, .ref 249, .int i, .float 0, .float 0]) ⟨rfl, rfl, rfl, rfl, rfl, trivial⟩ ?_
    exact hnext _ m0 g2 (Or.inr ⟨n', hn1, hn2, rfl⟩)
theorem LW_odd (hin : ∀ j, j < 6 → vp_in (i + i3 j) Ls) (h11 : ly11 e 0) (h12 : ly12 e 222) (hR : RR m m) (hnext : ∀ m', RR m' m' → LF G l kc ks Ls xs 1526 [.ref 400000, .ref 0, .ref 222, .ref 249, .int i, .float 0, .float 0] [] (e, m')) : LF G l kc ks Ls xs 525 [.ref 400000, .ref 0, .ref 222, .ref 249, .int i, .float 0, .float 0] [] (e, m) := by
  obtain ⟨r, m2, e1, e2, R⟩ := U_odd hR (xs (Int32.toNatClampNeg (i + 1))) (xs (Int32.toNatClampNeg (i + 2)))
  have c1 : mx_Call G l MX11_odd 5 0 0 [.ref 0, .int (xs (Int32.toNatClampNeg (i + 1))), .int (xs (Int32.toNatClampNeg (i + 2)))] (e, m) (fun v z => v = some (.int r) ∧ z = (e, m)) := CX11_odd h11 e1
  have c2 : mx_Call G l MX12_odd 3 0 0 [.ref 222, .int (xs (Int32.toNatClampNeg (i + 1))), .int (xs (Int32.toNatClampNeg (i + 2)))] (e, m) (fun v z => v = some (.int r) ∧ z = (e, m2)) := CX12_odd h12 e2
  refine px_aload_n (mx_d tL_law_3 40 rfl) rfl rfl ?_
  refine px_aload_n (mx_d tL_law_3 41 rfl) rfl rfl ?_
  refine px_iload (mx_d tL_law_3 42 rfl) rfl ?_
  refine px_iconst (1) (mx_d tL_law_3 43 rfl) (by decide) ?_
  refine px_iadd (mx_d tL_law_3 44 rfl) ?_
  refine px_sld (mx_d tL_law_3 45 rfl) (fun _ h => h.1) (hin 1 (by decide)) ?_
  refine px_aload_n (mx_d tL_law_3 46 rfl) rfl rfl ?_
  refine px_iload (mx_d tL_law_3 47 rfl) rfl ?_
  refine px_iconst (2) (mx_d tL_law_3 48 rfl) (by decide) ?_
  refine px_iadd (mx_d tL_law_3 49 rfl) ?_
  refine px_sld (mx_d tL_law_3 50 rfl) (fun _ h => h.1) (hin 2 (by decide)) ?_
  refine rx_cV (av := [.int (xs (Int32.toNatClampNeg (i + 1))), .int (xs (Int32.toNatClampNeg (i + 2)))]) (mx_d tL_law_3 51 rfl) iL_65 rfl vX11_odd ⟨_, rfl, rfl⟩ (ly11_o h11) c1 (by decide) rfl rfl (Nat.le_of_ble_eq_true rfl) ?_
  refine px_aload_n (mx_d tL_law_3 52 rfl) rfl rfl ?_
  refine px_aload_n (mx_d tL_law_3 53 rfl) rfl rfl ?_
  refine px_iload (mx_d tL_law_3 54 rfl) rfl ?_
  refine px_iconst (1) (mx_d tL_law_3 55 rfl) (by decide) ?_
  refine px_iadd (mx_d tL_law_3 56 rfl) ?_
  refine px_sld (mx_d tL_law_3 57 rfl) (fun _ h => h.1) (hin 1 (by decide)) ?_
  refine px_aload_n (mx_d tL_law_3 58 rfl) rfl rfl ?_
  refine px_iload (mx_d tL_law_3 59 rfl) rfl ?_
  refine px_iconst (2) (mx_d tL_law_4 0 rfl) (by decide) ?_
  refine px_iadd (mx_d tL_law_4 1 rfl) ?_
  refine px_sld (mx_d tL_law_4 2 rfl) (fun _ h => h.1) (hin 2 (by decide)) ?_
  refine rx_cV (av := [.int (xs (Int32.toNatClampNeg (i + 1))), .int (xs (Int32.toNatClampNeg (i + 2)))]) (mx_d tL_law_4 3 rfl) iL_68 rfl vX12_odd ⟨_, rfl, rfl⟩ (ly12_o h12) c2 (by decide) rfl rfl (Nat.le_of_ble_eq_true rfl) ?_
  exact px_icmp_eq (tgt := 1526) (mx_d tL_law_4 4 rfl) (by decide) (fun _ => hnext m2 R) (fun hc => absurd rfl hc)
theorem LW_now (hin : ∀ j, j < 6 → vp_in (i + i3 j) Ls) (h11 : ly11 e 0) (h12 : ly12 e 222) (hR : RR m m) (hnext : ∀ m', RR m' m' → LF G l kc ks Ls xs 1526 [.ref 400000, .ref 0, .ref 222, .ref 249, .int i, .float 0, .float 0] [] (e, m')) : LF G l kc ks Ls xs 562 [.ref 400000, .ref 0, .ref 222, .ref 249, .int i, .float 0, .float 0] [] (e, m) := by
  obtain ⟨r, m2, e1, e2, R⟩ := U_now hR (xs (Int32.toNatClampNeg (i + 1)))
  have c1 : mx_Call G l MX11_now 5 0 0 [.ref 0, .int (xs (Int32.toNatClampNeg (i + 1)))] (e, m) (fun v z => v = some (.int r) ∧ z = (e, m)) := CX11_now h11 e1
  have c2 : mx_Call G l MX12_now 4 0 0 [.ref 222, .int (xs (Int32.toNatClampNeg (i + 1)))] (e, m) (fun v z => v = some (.int r) ∧ z = (e, m2)) := CX12_now h12 e2
  refine px_aload_n (mx_d tL_law_4 7 rfl) rfl rfl ?_
  refine px_aload_n (mx_d tL_law_4 8 rfl) rfl rfl ?_
  refine px_iload (mx_d tL_law_4 9 rfl) rfl ?_
  refine px_iconst (1) (mx_d tL_law_4 10 rfl) (by decide) ?_
  refine px_iadd (mx_d tL_law_4 11 rfl) ?_
  refine px_sld (mx_d tL_law_4 12 rfl) (fun _ h => h.1) (hin 1 (by decide)) ?_
  refine rx_cV (av := [.int (xs (Int32.toNatClampNeg (i + 1)))]) (mx_d tL_law_4 13 rfl) iL_69 rfl vX11_now ⟨_, rfl, rfl⟩ (ly11_o h11) c1 (by decide) rfl rfl (Nat.le_of_ble_eq_true rfl) ?_
  refine px_aload_n (mx_d tL_law_4 14 rfl) rfl rfl ?_
  refine px_aload_n (mx_d tL_law_4 15 rfl) rfl rfl ?_
  refine px_iload (mx_d tL_law_4 16 rfl) rfl ?_
  refine px_iconst (1) (mx_d tL_law_4 17 rfl) (by decide) ?_
  refine px_iadd (mx_d tL_law_4 18 rfl) ?_
  refine px_sld (mx_d tL_law_4 19 rfl) (fun _ h => h.1) (hin 1 (by decide)) ?_
  refine rx_cV (av := [.int (xs (Int32.toNatClampNeg (i + 1)))]) (mx_d tL_law_4 20 rfl) iL_72 rfl vX12_now ⟨_, rfl, rfl⟩ (ly12_o h12) c2 (by decide) rfl rfl (Nat.le_of_ble_eq_true rfl) ?_
  exact px_icmp_eq (tgt := 1526) (mx_d tL_law_4 21 rfl) (by decide) (fun _ => hnext m2 R) (fun hc => absurd rfl hc)
theorem LW_pair (hin : ∀ j, j < 6 → vp_in (i + i3 j) Ls) (h11 : ly11 e 0) (h12 : ly12 e 222) (hR : RR m m) (hnext : ∀ m', RR m' m' → LF G l kc ks Ls xs 1526 [.ref 400000, .ref 0, .ref 222, .ref 249, .int i, .float 0, .float 0] [] (e, m')) : LF G l kc ks Ls xs 587 [.ref 400000, .ref 0, .ref 222, .ref 249, .int i, .float 0, .float 0] [] (e, m) := by
  obtain ⟨r, m1, m2, e1, e2, R⟩ := U_pair hR (xs (Int32.toNatClampNeg (i + 1))) (xs (Int32.toNatClampNeg (i + 2)))
  have c1 : mx_Call G l MX11_pair 4 0 0 [.ref 0, .int (xs (Int32.toNatClampNeg (i + 1))), .int (xs (Int32.toNatClampNeg (i + 2)))] (e, m) (fun v z => v = some (.int r) ∧ z = (e, m1)) := CX11_pair h11 e1
  have c2 : mx_Call G l MX12_pair 260 0 0 [.ref 222, .int (xs (Int32.toNatClampNeg (i + 1))), .int (xs (Int32.toNatClampNeg (i + 2)))] (e, m1) (fun v z => v = some (.int r) ∧ z = (e, m2)) := CX12_pair h12 e2
  refine px_aload_n (mx_d tL_law_4 24 rfl) rfl rfl ?_
  refine px_aload_n (mx_d tL_law_4 25 rfl) rfl rfl ?_
  refine px_iload (mx_d tL_law_4 26 rfl) rfl ?_
  refine px_iconst (1) (mx_d tL_law_4 27 rfl) (by decide) ?_
  refine px_iadd (mx_d tL_law_4 28 rfl) ?_
  refine px_sld (mx_d tL_law_4 29 rfl) (fun _ h => h.1) (hin 1 (by decide)) ?_
  refine px_aload_n (mx_d tL_law_4 30 rfl) rfl rfl ?_
  refine px_iload (mx_d tL_law_4 31 rfl) rfl ?_
  refine px_iconst (2) (mx_d tL_law_4 32 rfl) (by decide) ?_
  refine px_iadd (mx_d tL_law_4 33 rfl) ?_
  refine px_sld (mx_d tL_law_4 34 rfl) (fun _ h => h.1) (hin 2 (by decide)) ?_
  refine rx_cV (av := [.int (xs (Int32.toNatClampNeg (i + 1))), .int (xs (Int32.toNatClampNeg (i + 2)))]) (mx_d tL_law_4 35 rfl) iL_73 rfl vX11_pair ⟨_, rfl, rfl⟩ (ly11_o h11) c1 (by decide) rfl rfl (Nat.le_of_ble_eq_true rfl) ?_
  refine px_aload_n (mx_d tL_law_4 36 rfl) rfl rfl ?_
  refine px_aload_n (mx_d tL_law_4 37 rfl) rfl rfl ?_
  refine px_iload (mx_d tL_law_4 38 rfl) rfl ?_
  refine px_iconst (1) (mx_d tL_law_4 39 rfl) (by decide) ?_
  refine px_iadd (mx_d tL_law_4 40 rfl) ?_
  refine px_sld (mx_d tL_law_4 41 rfl) (fun _ h => h.1) (hin 1 (by decide)) ?_
  refine px_aload_n (mx_d tL_law_4 42 rfl) rfl rfl ?_
  refine px_iload (mx_d tL_law_4 43 rfl) rfl ?_
  refine px_iconst (2) (mx_d tL_law_4 44 rfl) (by decide) ?_
  refine px_iadd (mx_d tL_law_4 45 rfl) ?_
  refine px_sld (mx_d tL_law_4 46 rfl) (fun _ h => h.1) (hin 2 (by decide)) ?_
  refine rx_cV (av := [.int (xs (Int32.toNatClampNeg (i + 1))), .int (xs (Int32.toNatClampNeg (i + 2)))]) (mx_d tL_law_4 47 rfl) iL_76 rfl vX12_pair ⟨_, rfl, rfl⟩ (ly12_o h12) c2 (by decide) rfl rfl (Nat.le_of_ble_eq_true rfl) ?_
  exact px_icmp_eq (tgt := 1526) (mx_d tL_law_4 48 rfl) (by decide) (fun _ => hnext m2 R) (fun hc => absurd rfl hc)
theorem LW_part (hin : ∀ j, j < 6 → vp_in (i + i3 j) Ls) (h11 : ly11 e 0) (h12 : ly12 e 222) (hR : RR m m) (hnext : ∀ m', RR m' m' → LF G l kc ks Ls xs 1526 [.ref 400000, .ref 0, .ref 222, .ref 249, .int i, .float 0, .float 0] [] (e, m')) : LF G l kc ks Ls xs 624 [.ref 400000, .ref 0, .ref 222, .ref 249, .int i, .float 0, .float 0] [] (e, m) := by
  obtain ⟨r, m1, m2, e1, e2, R⟩ := U_part hR (xs (Int32.toNatClampNeg (i + 1)))
  have c1 : mx_Call G l MX11_part 4 0 0 [.ref 0, .int (xs (Int32.toNatClampNeg (i + 1)))] (e, m) (fun v z => v = some (.int r) ∧ z = (e, m1)) := CX11_part h11 e1
  have c2 : mx_Call G l MX12_part 260 0 0 [.ref 222, .int (xs (Int32.toNatClampNeg (i + 1)))] (e, m1) (fun v z => v = some (.int r) ∧ z = (e, m2)) := CX12_part h12 e2
  refine px_aload_n (mx_d tL_law_4 51 rfl) rfl rfl ?_
  refine px_aload_n (mx_d tL_law_4 52 rfl) rfl rfl ?_
  refine px_iload (mx_d tL_law_4 53 rfl) rfl ?_
  refine px_iconst (1) (mx_d tL_law_4 54 rfl) (by decide) ?_
  refine px_iadd (mx_d tL_law_4 55 rfl) ?_
  refine px_sld (mx_d tL_law_4 56 rfl) (fun _ h => h.1) (hin 1 (by decide)) ?_
  refine rx_cV (av := [.int (xs (Int32.toNatClampNeg (i + 1)))]) (mx_d tL_law_4 57 rfl) iL_77 rfl vX11_part ⟨_, rfl, rfl⟩ (ly11_o h11) c1 (by decide) rfl rfl (Nat.le_of_ble_eq_true rfl) ?_
  refine px_aload_n (mx_d tL_law_4 58 rfl) rfl rfl ?_
  refine px_aload_n (mx_d tL_law_4 59 rfl) rfl rfl ?_
  refine px_iload (mx_d tL_law_5 0 rfl) rfl ?_
  refine px_iconst (1) (mx_d tL_law_5 1 rfl) (by decide) ?_
  refine px_iadd (mx_d tL_law_5 2 rfl) ?_
  refine px_sld (mx_d tL_law_5 3 rfl) (fun _ h => h.1) (hin 1 (by decide)) ?_
  refine rx_cV (av := [.int (xs (Int32.toNatClampNeg (i + 1)))]) (mx_d tL_law_5 4 rfl) iL_80 rfl vX12_part ⟨_, rfl, rfl⟩ (ly12_o h12) c2 (by decide) rfl rfl (Nat.le_of_ble_eq_true rfl) ?_
  exact px_icmp_eq (tgt := 1526) (mx_d tL_law_5 5 rfl) (by decide) (fun _ => hnext m2 R) (fun hc => absurd rfl hc)
theorem LW_weigh (hin : ∀ j, j < 6 → vp_in (i + i3 j) Ls) (h11 : ly11 e 0) (h12 : ly12 e 222) (hR : RR m m) (hnext : ∀ m', RR m' m' → LF G l kc ks Ls xs 1526 [.ref 400000, .ref 0, .ref 222, .ref 249, .int i, .float 0, .float 0] [] (e, m')) : LF G l kc ks Ls xs 649 [.ref 400000, .ref 0, .ref 222, .ref 249, .int i, .float 0, .float 0] [] (e, m) := by
  obtain ⟨r, m1, m2, e1, e2, R⟩ := U_weigh hR (xs (Int32.toNatClampNeg (i + 1))) (xs (Int32.toNatClampNeg (i + 2))) (xs (Int32.toNatClampNeg (i + 3)))
  have c1 : mx_Call G l MX11_weigh 4 0 0 [.ref 0, .int (xs (Int32.toNatClampNeg (i + 1))), .int (xs (Int32.toNatClampNeg (i + 2))), .int (xs (Int32.toNatClampNeg (i + 3)))] (e, m) (fun v z => v = some (.int r) ∧ z = (e, m1)) := CX11_weigh h11 e1
  have c2 : mx_Call G l MX12_weigh 260 0 0 [.ref 222, .int (xs (Int32.toNatClampNeg (i + 1))), .int (xs (Int32.toNatClampNeg (i + 2))), .int (xs (Int32.toNatClampNeg (i + 3)))] (e, m1) (fun v z => v = some (.int r) ∧ z = (e, m2)) := CX12_weigh h12 e2
  refine px_aload_n (mx_d tL_law_5 8 rfl) rfl rfl ?_
  refine px_aload_n (mx_d tL_law_5 9 rfl) rfl rfl ?_
  refine px_iload (mx_d tL_law_5 10 rfl) rfl ?_
  refine px_iconst (1) (mx_d tL_law_5 11 rfl) (by decide) ?_
  refine px_iadd (mx_d tL_law_5 12 rfl) ?_
  refine px_sld (mx_d tL_law_5 13 rfl) (fun _ h => h.1) (hin 1 (by decide)) ?_
  refine px_aload_n (mx_d tL_law_5 14 rfl) rfl rfl ?_
  refine px_iload (mx_d tL_law_5 15 rfl) rfl ?_
  refine px_iconst (2) (mx_d tL_law_5 16 rfl) (by decide) ?_
  refine px_iadd (mx_d tL_law_5 17 rfl) ?_
  refine px_sld (mx_d tL_law_5 18 rfl) (fun _ h => h.1) (hin 2 (by decide)) ?_
  refine px_aload_n (mx_d tL_law_5 19 rfl) rfl rfl ?_
  refine px_iload (mx_d tL_law_5 20 rfl) rfl ?_
  refine px_iconst (3) (mx_d tL_law_5 21 rfl) (by decide) ?_
  refine px_iadd (mx_d tL_law_5 22 rfl) ?_
  refine px_sld (mx_d tL_law_5 23 rfl) (fun _ h => h.1) (hin 3 (by decide)) ?_
  refine rx_cV (av := [.int (xs (Int32.toNatClampNeg (i + 1))), .int (xs (Int32.toNatClampNeg (i + 2))), .int (xs (Int32.toNatClampNeg (i + 3)))]) (mx_d tL_law_5 24 rfl) iL_81 rfl vX11_weigh ⟨_, rfl, rfl⟩ (ly11_o h11) c1 (by decide) rfl rfl (Nat.le_of_ble_eq_true rfl) ?_
  refine px_aload_n (mx_d tL_law_5 25 rfl) rfl rfl ?_
  refine px_aload_n (mx_d tL_law_5 26 rfl) rfl rfl ?_
  refine px_iload (mx_d tL_law_5 27 rfl) rfl ?_
  refine px_iconst (1) (mx_d tL_law_5 28 rfl) (by decide) ?_
  refine px_iadd (mx_d tL_law_5 29 rfl) ?_
  refine px_sld (mx_d tL_law_5 30 rfl) (fun _ h => h.1) (hin 1 (by decide)) ?_
  refine px_aload_n (mx_d tL_law_5 31 rfl) rfl rfl ?_
  refine px_iload (mx_d tL_law_5 32 rfl) rfl ?_
  refine px_iconst (2) (mx_d tL_law_5 33 rfl) (by decide) ?_
  refine px_iadd (mx_d tL_law_5 34 rfl) ?_
  refine px_sld (mx_d tL_law_5 35 rfl) (fun _ h => h.1) (hin 2 (by decide)) ?_
  refine px_aload_n (mx_d tL_law_5 36 rfl) rfl rfl ?_
  refine px_iload (mx_d tL_law_5 37 rfl) rfl ?_
  refine px_iconst (3) (mx_d tL_law_5 38 rfl) (by decide) ?_
  refine px_iadd (mx_d tL_law_5 39 rfl) ?_
  refine px_sld (mx_d tL_law_5 40 rfl) (fun _ h => h.1) (hin 3 (by decide)) ?_
  refine rx_cV (av := [.int (xs (Int32.toNatClampNeg (i + 1))), .int (xs (Int32.toNatClampNeg (i + 2))), .int (xs (Int32.toNatClampNeg (i + 3)))]) (mx_d tL_law_5 41 rfl) iL_85 rfl vX12_weigh ⟨_, rfl, rfl⟩ (ly12_o h12) c2 (by decide) rfl rfl (Nat.le_of_ble_eq_true rfl) ?_
  exact px_icmp_eq (tgt := 1526) (mx_d tL_law_5 42 rfl) (by decide) (fun _ => hnext m2 R) (fun hc => absurd rfl hc)
theorem LW_price (hin : ∀ j, j < 6 → vp_in (i + i3 j) Ls) (h11 : ly11 e 0) (h12 : ly12 e 222) (hR : RR m m) (hnext : ∀ m', RR m' m' → LF G l kc ks Ls xs 1526 [.ref 400000, .ref 0, .ref 222, .ref 249, .int i, .float 0, .float 0] [] (e, m')) : LF G l kc ks Ls xs 698 [.ref 400000, .ref 0, .ref 222, .ref 249, .int i, .float 0, .float 0] [] (e, m) := by
  obtain ⟨r, m1, m2, e1, e2, R⟩ := U_price hR (xs (Int32.toNatClampNeg (i + 1))) (xs (Int32.toNatClampNeg (i + 2)))
  have c1 : mx_Call G l MX11_price 4 0 0 [.ref 0, .int (xs (Int32.toNatClampNeg (i + 1))), .int (xs (Int32.toNatClampNeg (i + 2)))] (e, m) (fun v z => v = some (.int r) ∧ z = (e, m1)) := CX11_price h11 e1
  have c2 : mx_Call G l MX12_price 260 0 0 [.ref 222, .int (xs (Int32.toNatClampNeg (i + 1))), .int (xs (Int32.toNatClampNeg (i + 2)))] (e, m1) (fun v z => v = some (.int r) ∧ z = (e, m2)) := CX12_price h12 e2
  refine px_aload_n (mx_d tL_law_5 45 rfl) rfl rfl ?_
  refine px_aload_n (mx_d tL_law_5 46 rfl) rfl rfl ?_
  refine px_iload (mx_d tL_law_5 47 rfl) rfl ?_
  refine px_iconst (1) (mx_d tL_law_5 48 rfl) (by decide) ?_
  refine px_iadd (mx_d tL_law_5 49 rfl) ?_
  refine px_sld (mx_d tL_law_5 50 rfl) (fun _ h => h.1) (hin 1 (by decide)) ?_
  refine px_aload_n (mx_d tL_law_5 51 rfl) rfl rfl ?_
  refine px_iload (mx_d tL_law_5 52 rfl) rfl ?_
  refine px_iconst (2) (mx_d tL_law_5 53 rfl) (by decide) ?_
  refine px_iadd (mx_d tL_law_5 54 rfl) ?_
  refine px_sld (mx_d tL_law_5 55 rfl) (fun _ h => h.1) (hin 2 (by decide)) ?_
  refine rx_cV (av := [.int (xs (Int32.toNatClampNeg (i + 1))), .int (xs (Int32.toNatClampNeg (i + 2)))]) (mx_d tL_law_5 56 rfl) iL_86 rfl vX11_price ⟨_, rfl, rfl⟩ (ly11_o h11) c1 (by decide) rfl rfl (Nat.le_of_ble_eq_true rfl) ?_
  refine px_aload_n (mx_d tL_law_5 57 rfl) rfl rfl ?_
  refine px_aload_n (mx_d tL_law_5 58 rfl) rfl rfl ?_
  refine px_iload (mx_d tL_law_5 59 rfl) rfl ?_
  refine px_iconst (1) (mx_d tL_law_6 0 rfl) (by decide) ?_
  refine px_iadd (mx_d tL_law_6 1 rfl) ?_
  refine px_sld (mx_d tL_law_6 2 rfl) (fun _ h => h.1) (hin 1 (by decide)) ?_
  refine px_aload_n (mx_d tL_law_6 3 rfl) rfl rfl ?_
  refine px_iload (mx_d tL_law_6 4 rfl) rfl ?_
  refine px_iconst (2) (mx_d tL_law_6 5 rfl) (by decide) ?_
  refine px_iadd (mx_d tL_law_6 6 rfl) ?_
  refine px_sld (mx_d tL_law_6 7 rfl) (fun _ h => h.1) (hin 2 (by decide)) ?_
  refine rx_cV (av := [.int (xs (Int32.toNatClampNeg (i + 1))), .int (xs (Int32.toNatClampNeg (i + 2)))]) (mx_d tL_law_6 8 rfl) iL_89 rfl vX12_price ⟨_, rfl, rfl⟩ (ly12_o h12) c2 (by decide) rfl rfl (Nat.le_of_ble_eq_true rfl) ?_
  exact px_icmp_eq (tgt := 1526) (mx_d tL_law_6 9 rfl) (by decide) (fun _ => hnext m2 R) (fun hc => absurd rfl hc)
theorem LW_crown (hin : ∀ j, j < 6 → vp_in (i + i3 j) Ls) (h11 : ly11 e 0) (h12 : ly12 e 222) (hR : RR m m) (hnext : ∀ m', RR m' m' → LF G l kc ks Ls xs 1526 [.ref 400000, .ref 0, .ref 222, .ref 249, .int i, .float 0, .float 0] [] (e, m')) : LF G l kc ks Ls xs 735 [.ref 400000, .ref 0, .ref 222, .ref 249, .int i, .float 0, .float 0] [] (e, m) := by
  obtain ⟨r, m1, m2, e1, e2, R⟩ := U_crown hR (xs (Int32.toNatClampNeg (i + 1))) (xs (Int32.toNatClampNeg (i + 2)))
  have c1 : mx_Call G l MX11_crown 4 0 0 [.ref 0, .int (xs (Int32.toNatClampNeg (i + 1))), .int (xs (Int32.toNatClampNeg (i + 2)))] (e, m) (fun v z => v = some (.int r) ∧ z = (e, m1)) := CX11_crown h11 e1
  have c2 : mx_Call G l MX12_crown 260 0 0 [.ref 222, .int (xs (Int32.toNatClampNeg (i + 1))), .int (xs (Int32.toNatClampNeg (i + 2)))] (e, m1) (fun v z => v = some (.int r) ∧ z = (e, m2)) := CX12_crown h12 e2
  refine px_aload_n (mx_d tL_law_6 12 rfl) rfl rfl ?_
  refine px_aload_n (mx_d tL_law_6 13 rfl) rfl rfl ?_
  refine px_iload (mx_d tL_law_6 14 rfl) rfl ?_
  refine px_iconst (1) (mx_d tL_law_6 15 rfl) (by decide) ?_
  refine px_iadd (mx_d tL_law_6 16 rfl) ?_
  refine px_sld (mx_d tL_law_6 17 rfl) (fun _ h => h.1) (hin 1 (by decide)) ?_
  refine px_aload_n (mx_d tL_law_6 18 rfl) rfl rfl ?_
  refine px_iload (mx_d tL_law_6 19 rfl) rfl ?_
  refine px_iconst (2) (mx_d tL_law_6 20 rfl) (by decide) ?_
  refine px_iadd (mx_d tL_law_6 21 rfl) ?_
  refine px_sld (mx_d tL_law_6 22 rfl) (fun _ h => h.1) (hin 2 (by decide)) ?_
  refine rx_cV (av := [.int (xs (Int32.toNatClampNeg (i + 1))), .int (xs (Int32.toNatClampNeg (i + 2)))]) (mx_d tL_law_6 23 rfl) iL_90 rfl vX11_crown ⟨_, rfl, rfl⟩ (ly11_o h11) c1 (by decide) rfl rfl (Nat.le_of_ble_eq_true rfl) ?_
  refine px_aload_n (mx_d tL_law_6 24 rfl) rfl rfl ?_
  refine px_aload_n (mx_d tL_law_6 25 rfl) rfl rfl ?_
  refine px_iload (mx_d tL_law_6 26 rfl) rfl ?_
  refine px_iconst (1) (mx_d tL_law_6 27 rfl) (by decide) ?_
  refine px_iadd (mx_d tL_law_6 28 rfl) ?_
  refine px_sld (mx_d tL_law_6 29 rfl) (fun _ h => h.1) (hin 1 (by decide)) ?_
  refine px_aload_n (mx_d tL_law_6 30 rfl) rfl rfl ?_
  refine px_iload (mx_d tL_law_6 31 rfl) rfl ?_
  refine px_iconst (2) (mx_d tL_law_6 32 rfl) (by decide) ?_
  refine px_iadd (mx_d tL_law_6 33 rfl) ?_
  refine px_sld (mx_d tL_law_6 34 rfl) (fun _ h => h.1) (hin 2 (by decide)) ?_
  refine rx_cV (av := [.int (xs (Int32.toNatClampNeg (i + 1))), .int (xs (Int32.toNatClampNeg (i + 2)))]) (mx_d tL_law_6 35 rfl) iL_93 rfl vX12_crown ⟨_, rfl, rfl⟩ (ly12_o h12) c2 (by decide) rfl rfl (Nat.le_of_ble_eq_true rfl) ?_
  exact px_icmp_eq (tgt := 1526) (mx_d tL_law_6 36 rfl) (by decide) (fun _ => hnext m2 R) (fun hc => absurd rfl hc)
theorem LW_open (hin : ∀ j, j < 6 → vp_in (i + i3 j) Ls) (h11 : ly11 e 0) (h12 : ly12 e 222) (hR : RR m m) (hnext : ∀ m', RR m' m' → LF G l kc ks Ls xs 1526 [.ref 400000, .ref 0, .ref 222, .ref 249, .int i, .float 0, .float 0] [] (e, m')) : LF G l kc ks Ls xs 772 [.ref 400000, .ref 0, .ref 222, .ref 249, .int i, .float 0, .float 0] [] (e, m) := by
  obtain ⟨r, m1, m2, e1, e2, R⟩ := U_open hR (xs (Int32.toNatClampNeg (i + 1)))
  have c1 : mx_Call G l MX11_open 4 0 0 [.ref 0, .int (xs (Int32.toNatClampNeg (i + 1)))] (e, m) (fun v z => v = some (.int r) ∧ z = (e, m1)) := CX11_open h11 e1
  have c2 : mx_Call G l MX12_open 260 0 0 [.ref 222, .int (xs (Int32.toNatClampNeg (i + 1)))] (e, m1) (fun v z => v = some (.int r) ∧ z = (e, m2)) := CX12_open h12 e2
  refine px_aload_n (mx_d tL_law_6 39 rfl) rfl rfl ?_
  refine px_aload_n (mx_d tL_law_6 40 rfl) rfl rfl ?_
  refine px_iload (mx_d tL_law_6 41 rfl) rfl ?_
  refine px_iconst (1) (mx_d tL_law_6 42 rfl) (by decide) ?_
  refine px_iadd (mx_d tL_law_6 43 rfl) ?_
  refine px_sld (mx_d tL_law_6 44 rfl) (fun _ h => h.1) (hin 1 (by decide)) ?_
  refine rx_cV (av := [.int (xs (Int32.toNatClampNeg (i + 1)))]) (mx_d tL_law_6 45 rfl) iL_94 rfl vX11_open ⟨_, rfl, rfl⟩ (ly11_o h11) c1 (by decide) rfl rfl (Nat.le_of_ble_eq_true rfl) ?_
  refine px_aload_n (mx_d tL_law_6 46 rfl) rfl rfl ?_
  refine px_aload_n (mx_d tL_law_6 47 rfl) rfl rfl ?_
  refine px_iload (mx_d tL_law_6 48 rfl) rfl ?_
  refine px_iconst (1) (mx_d tL_law_6 49 rfl) (by decide) ?_
  refine px_iadd (mx_d tL_law_6 50 rfl) ?_
  refine px_sld (mx_d tL_law_6 51 rfl) (fun _ h => h.1) (hin 1 (by decide)) ?_
  refine rx_cV (av := [.int (xs (Int32.toNatClampNeg (i + 1)))]) (mx_d tL_law_6 52 rfl) iL_97 rfl vX12_open ⟨_, rfl, rfl⟩ (ly12_o h12) c2 (by decide) rfl rfl (Nat.le_of_ble_eq_true rfl) ?_
  exact px_icmp_eq (tgt := 1526) (mx_d tL_law_6 53 rfl) (by decide) (fun _ => hnext m2 R) (fun hc => absurd rfl hc)
theorem LW_grow (hin : ∀ j, j < 6 → vp_in (i + i3 j) Ls) (h11 : ly11 e 0) (h12 : ly12 e 222) (hR : RR m m) (hnext : ∀ m', RR m' m' → LF G l kc ks Ls xs 1526 [.ref 400000, .ref 0, .ref 222, .ref 249, .int i, .float 0, .float 0] [] (e, m')) : LF G l kc ks Ls xs 797 [.ref 400000, .ref 0, .ref 222, .ref 249, .int i, .float 0, .float 0] [] (e, m) := by
  obtain ⟨r, m1, m2, e1, e2, R⟩ := U_grow hR (xs (Int32.toNatClampNeg (i + 1)))
  have c1 : mx_Call G l MX11_grow 195 0 0 [.ref 0, .int (xs (Int32.toNatClampNeg (i + 1)))] (e, m) (fun v z => v = some (.int r) ∧ z = (e, m1)) := CX11_grow h11 e1
  have c2 : mx_Call G l MX12_grow 258 0 0 [.ref 222, .int (xs (Int32.toNatClampNeg (i + 1)))] (e, m1) (fun v z => v = some (.int r) ∧ z = (e, m2)) := CX12_grow h12 e2
  refine px_aload_n (mx_d tL_law_6 56 rfl) rfl rfl ?_
  refine px_aload_n (mx_d tL_law_6 57 rfl) rfl rfl ?_
  refine px_iload (mx_d tL_law_6 58 rfl) rfl ?_
  refine px_iconst (1) (mx_d tL_law_6 59 rfl) (by decide) ?_
  refine px_iadd (mx_d tL_law_7 0 rfl) ?_
  refine px_sld (mx_d tL_law_7 1 rfl) (fun _ h => h.1) (hin 1 (by decide)) ?_
  refine rx_cV (av := [.int (xs (Int32.toNatClampNeg (i + 1)))]) (mx_d tL_law_7 2 rfl) iL_98 rfl vX11_grow ⟨_, rfl, rfl⟩ (ly11_o h11) c1 (by decide) rfl rfl (Nat.le_of_ble_eq_true rfl) ?_
  refine px_aload_n (mx_d tL_law_7 3 rfl) rfl rfl ?_
  refine px_aload_n (mx_d tL_law_7 4 rfl) rfl rfl ?_
  refine px_iload (mx_d tL_law_7 5 rfl) rfl ?_
  refine px_iconst (1) (mx_d tL_law_7 6 rfl) (by decide) ?_
  refine px_iadd (mx_d tL_law_7 7 rfl) ?_
  refine px_sld (mx_d tL_law_7 8 rfl) (fun _ h => h.1) (hin 1 (by decide)) ?_
  refine rx_cV (av := [.int (xs (Int32.toNatClampNeg (i + 1)))]) (mx_d tL_law_7 9 rfl) iL_101 rfl vX12_grow ⟨_, rfl, rfl⟩ (ly12_o h12) c2 (by decide) rfl rfl (Nat.le_of_ble_eq_true rfl) ?_
  exact px_icmp_eq (tgt := 1526) (mx_d tL_law_7 10 rfl) (by decide) (fun _ => hnext m2 R) (fun hc => absurd rfl hc)
theorem LW_growAt (hin : ∀ j, j < 6 → vp_in (i + i3 j) Ls) (h11 : ly11 e 0) (h12 : ly12 e 222) (hR : RR m m) (hnext : ∀ m', RR m' m' → LF G l kc ks Ls xs 1526 [.ref 400000, .ref 0, .ref 222, .ref 249, .int i, .float 0, .float 0] [] (e, m')) : LF G l kc ks Ls xs 822 [.ref 400000, .ref 0, .ref 222, .ref 249, .int i, .float 0, .float 0] [] (e, m) := by
  obtain ⟨r, m2, e1, e2, R⟩ := U_growAt hR (xs (Int32.toNatClampNeg (i + 1)))
  have c1 : mx_Call G l MX11_growAt 2 0 0 [.ref 0, .int (xs (Int32.toNatClampNeg (i + 1)))] (e, m) (fun v z => v = some (.int r) ∧ z = (e, m)) := CX11_growAt h11 e1
  have c2 : mx_Call G l MX12_growAt 2 0 0 [.ref 222, .int (xs (Int32.toNatClampNeg (i + 1)))] (e, m) (fun v z => v = some (.int r) ∧ z = (e, m2)) := CX12_growAt h12 e2
  refine px_aload_n (mx_d tL_law_7 13 rfl) rfl rfl ?_
  refine px_aload_n (mx_d tL_law_7 14 rfl) rfl rfl ?_
  refine px_iload (mx_d tL_law_7 15 rfl) rfl ?_
  refine px_iconst (1) (mx_d tL_law_7 16 rfl) (by decide) ?_
  refine px_iadd (mx_d tL_law_7 17 rfl) ?_
  refine px_sld (mx_d tL_law_7 18 rfl) (fun _ h => h.1) (hin 1 (by decide)) ?_
  refine rx_cV (av := [.int (xs (Int32.toNatClampNeg (i + 1)))]) (mx_d tL_law_7 19 rfl) iL_102 rfl vX11_growAt ⟨_, rfl, rfl⟩ (ly11_o h11) c1 (by decide) rfl rfl (Nat.le_of_ble_eq_true rfl) ?_
  refine px_aload_n (mx_d tL_law_7 20 rfl) rfl rfl ?_
  refine px_aload_n (mx_d tL_law_7 21 rfl) rfl rfl ?_
  refine px_iload (mx_d tL_law_7 22 rfl) rfl ?_
  refine px_iconst (1) (mx_d tL_law_7 23 rfl) (by decide) ?_
  refine px_iadd (mx_d tL_law_7 24 rfl) ?_
  refine px_sld (mx_d tL_law_7 25 rfl) (fun _ h => h.1) (hin 1 (by decide)) ?_
  refine rx_cV (av := [.int (xs (Int32.toNatClampNeg (i + 1)))]) (mx_d tL_law_7 26 rfl) iL_105 rfl vX12_growAt ⟨_, rfl, rfl⟩ (ly12_o h12) c2 (by decide) rfl rfl (Nat.le_of_ble_eq_true rfl) ?_
  exact px_icmp_eq (tgt := 1526) (mx_d tL_law_7 27 rfl) (by decide) (fun _ => hnext m2 R) (fun hc => absurd rfl hc)
theorem LW_turn (hin : ∀ j, j < 6 → vp_in (i + i3 j) Ls) (h11 : ly11 e 0) (h12 : ly12 e 222) (hR : RR m m) (hnext : ∀ m', RR m' m' → LF G l kc ks Ls xs 1526 [.ref 400000, .ref 0, .ref 222, .ref 249, .int i, .float 0, .float 0] [] (e, m')) : LF G l kc ks Ls xs 847 [.ref 400000, .ref 0, .ref 222, .ref 249, .int i, .float 0, .float 0] [] (e, m) := by
  obtain ⟨r, m1, m2, e1, e2, R⟩ := U_turn hR
  have c1 : mx_Call G l MX11_turn 5 0 0 [.ref 0] (e, m) (fun v z => v = some (.int r) ∧ z = (e, m1)) := CX11_turn h11 e1
  have c2 : mx_Call G l MX12_turn 5 0 0 [.ref 222] (e, m1) (fun v z => v = some (.int r) ∧ z = (e, m2)) := CX12_turn h12 e2
  refine px_aload_n (mx_d tL_law_7 30 rfl) rfl rfl ?_
  refine rx_cV (av := []) (mx_d tL_law_7 31 rfl) iL_106 rfl vX11_turn ⟨_, rfl, rfl⟩ (ly11_o h11) c1 (by decide) rfl rfl (Nat.le_of_ble_eq_true rfl) ?_
  refine px_aload_n (mx_d tL_law_7 32 rfl) rfl rfl ?_
  refine rx_cV (av := []) (mx_d tL_law_7 33 rfl) iL_109 rfl vX12_turn ⟨_, rfl, rfl⟩ (ly12_o h12) c2 (by decide) rfl rfl (Nat.le_of_ble_eq_true rfl) ?_
  exact px_icmp_eq (tgt := 1526) (mx_d tL_law_7 34 rfl) (by decide) (fun _ => hnext m2 R) (fun hc => absurd rfl hc)
theorem LW_flower (hin : ∀ j, j < 6 → vp_in (i + i3 j) Ls) (h11 : ly11 e 0) (h12 : ly12 e 222) (hR : RR m m) (hnext : ∀ m', RR m' m' → LF G l kc ks Ls xs 1526 [.ref 400000, .ref 0, .ref 222, .ref 249, .int i, .float 0, .float 0] [] (e, m')) : LF G l kc ks Ls xs 860 [.ref 400000, .ref 0, .ref 222, .ref 249, .int i, .float 0, .float 0] [] (e, m) := by
  obtain ⟨r, m1, m2, e1, e2, R⟩ := U_flower hR (xs (Int32.toNatClampNeg (i + 1)))
  have c1 : mx_Call G l MX11_flower 195 0 0 [.ref 0, .int (xs (Int32.toNatClampNeg (i + 1)))] (e, m) (fun v z => v = some (.int r) ∧ z = (e, m1)) := CX11_flower h11 e1
  have c2 : mx_Call G l MX12_flower 257 0 0 [.ref 222, .int (xs (Int32.toNatClampNeg (i + 1)))] (e, m1) (fun v z => v = some (.int r) ∧ z = (e, m2)) := CX12_flower h12 e2
  refine px_aload_n (mx_d tL_law_7 37 rfl) rfl rfl ?_
  refine px_aload_n (mx_d tL_law_7 38 rfl) rfl rfl ?_
  refine px_iload (mx_d tL_law_7 39 rfl) rfl ?_
  refine px_iconst (1) (mx_d tL_law_7 40 rfl) (by decide) ?_
  refine px_iadd (mx_d tL_law_7 41 rfl) ?_
  refine px_sld (mx_d tL_law_7 42 rfl) (fun _ h => h.1) (hin 1 (by decide)) ?_
  refine rx_cV (av := [.int (xs (Int32.toNatClampNeg (i + 1)))]) (mx_d tL_law_7 43 rfl) iL_110 rfl vX11_flower ⟨_, rfl, rfl⟩ (ly11_o h11) c1 (by decide) rfl rfl (Nat.le_of_ble_eq_true rfl) ?_
  refine px_aload_n (mx_d tL_law_7 44 rfl) rfl rfl ?_
  refine px_aload_n (mx_d tL_law_7 45 rfl) rfl rfl ?_
  refine px_iload (mx_d tL_law_7 46 rfl) rfl ?_
  refine px_iconst (1) (mx_d tL_law_7 47 rfl) (by decide) ?_
  refine px_iadd (mx_d tL_law_7 48 rfl) ?_
  refine px_sld (mx_d tL_law_7 49 rfl) (fun _ h => h.1) (hin 1 (by decide)) ?_
  refine rx_cV (av := [.int (xs (Int32.toNatClampNeg (i + 1)))]) (mx_d tL_law_7 50 rfl) iL_113 rfl vX12_flower ⟨_, rfl, rfl⟩ (ly12_o h12) c2 (by decide) rfl rfl (Nat.le_of_ble_eq_true rfl) ?_
  exact px_icmp_eq (tgt := 1526) (mx_d tL_law_7 51 rfl) (by decide) (fun _ => hnext m2 R) (fun hc => absurd rfl hc)
theorem LW_flowerAt (hin : ∀ j, j < 6 → vp_in (i + i3 j) Ls) (h11 : ly11 e 0) (h12 : ly12 e 222) (hR : RR m m) (hnext : ∀ m', RR m' m' → LF G l kc ks Ls xs 1526 [.ref 400000, .ref 0, .ref 222, .ref 249, .int i, .float 0, .float 0] [] (e, m')) : LF G l kc ks Ls xs 885 [.ref 400000, .ref 0, .ref 222, .ref 249, .int i, .float 0, .float 0] [] (e, m) := by
  obtain ⟨r, m2, e1, e2, R⟩ := U_flowerAt hR (xs (Int32.toNatClampNeg (i + 1)))
  have c1 : mx_Call G l MX11_flowerAt 2 0 0 [.ref 0, .int (xs (Int32.toNatClampNeg (i + 1)))] (e, m) (fun v z => v = some (.int r) ∧ z = (e, m)) := CX11_flowerAt h11 e1
  have c2 : mx_Call G l MX12_flowerAt 2 0 0 [.ref 222, .int (xs (Int32.toNatClampNeg (i + 1)))] (e, m) (fun v z => v = some (.int r) ∧ z = (e, m2)) := CX12_flowerAt h12 e2
  refine px_aload_n (mx_d tL_law_7 54 rfl) rfl rfl ?_
  refine px_aload_n (mx_d tL_law_7 55 rfl) rfl rfl ?_
  refine px_iload (mx_d tL_law_7 56 rfl) rfl ?_
  refine px_iconst (1) (mx_d tL_law_7 57 rfl) (by decide) ?_
  refine px_iadd (mx_d tL_law_7 58 rfl) ?_
  refine px_sld (mx_d tL_law_7 59 rfl) (fun _ h => h.1) (hin 1 (by decide)) ?_
  refine rx_cV (av := [.int (xs (Int32.toNatClampNeg (i + 1)))]) (mx_d tL_law_8 0 rfl) iL_114 rfl vX11_flowerAt ⟨_, rfl, rfl⟩ (ly11_o h11) c1 (by decide) rfl rfl (Nat.le_of_ble_eq_true rfl) ?_
  refine px_aload_n (mx_d tL_law_8 1 rfl) rfl rfl ?_
  refine px_aload_n (mx_d tL_law_8 2 rfl) rfl rfl ?_
  refine px_iload (mx_d tL_law_8 3 rfl) rfl ?_
  refine px_iconst (1) (mx_d tL_law_8 4 rfl) (by decide) ?_
  refine px_iadd (mx_d tL_law_8 5 rfl) ?_
  refine px_sld (mx_d tL_law_8 6 rfl) (fun _ h => h.1) (hin 1 (by decide)) ?_
  refine rx_cV (av := [.int (xs (Int32.toNatClampNeg (i + 1)))]) (mx_d tL_law_8 7 rfl) iL_117 rfl vX12_flowerAt ⟨_, rfl, rfl⟩ (ly12_o h12) c2 (by decide) rfl rfl (Nat.le_of_ble_eq_true rfl) ?_
  exact px_icmp_eq (tgt := 1526) (mx_d tL_law_8 8 rfl) (by decide) (fun _ => hnext m2 R) (fun hc => absurd rfl hc)
theorem LW_shrink (hin : ∀ j, j < 6 → vp_in (i + i3 j) Ls) (h11 : ly11 e 0) (h12 : ly12 e 222) (hR : RR m m) (hnext : ∀ m', RR m' m' → LF G l kc ks Ls xs 1526 [.ref 400000, .ref 0, .ref 222, .ref 249, .int i, .float 0, .float 0] [] (e, m')) : LF G l kc ks Ls xs 910 [.ref 400000, .ref 0, .ref 222, .ref 249, .int i, .float 0, .float 0] [] (e, m) := by
  obtain ⟨r, m1, m2, e1, e2, R⟩ := U_shrink hR
  have c1 : mx_Call G l MX11_shrink 5 0 0 [.ref 0] (e, m) (fun v z => v = some (.int r) ∧ z = (e, m1)) := CX11_shrink h11 e1
  have c2 : mx_Call G l MX12_shrink 5 0 0 [.ref 222] (e, m1) (fun v z => v = some (.int r) ∧ z = (e, m2)) := CX12_shrink h12 e2
  refine px_aload_n (mx_d tL_law_8 11 rfl) rfl rfl ?_
  refine rx_cV (av := []) (mx_d tL_law_8 12 rfl) iL_118 rfl vX11_shrink ⟨_, rfl, rfl⟩ (ly11_o h11) c1 (by decide) rfl rfl (Nat.le_of_ble_eq_true rfl) ?_
  refine px_aload_n (mx_d tL_law_8 13 rfl) rfl rfl ?_
  refine rx_cV (av := []) (mx_d tL_law_8 14 rfl) iL_121 rfl vX12_shrink ⟨_, rfl, rfl⟩ (ly12_o h12) c2 (by decide) rfl rfl (Nat.le_of_ble_eq_true rfl) ?_
  exact px_icmp_eq (tgt := 1526) (mx_d tL_law_8 15 rfl) (by decide) (fun _ => hnext m2 R) (fun hc => absurd rfl hc)
theorem LW_undo (hin : ∀ j, j < 6 → vp_in (i + i3 j) Ls) (h11 : ly11 e 0) (h12 : ly12 e 222) (hR : RR m m) (hnext : ∀ m', RR m' m' → LF G l kc ks Ls xs 1526 [.ref 400000, .ref 0, .ref 222, .ref 249, .int i, .float 0, .float 0] [] (e, m')) : LF G l kc ks Ls xs 923 [.ref 400000, .ref 0, .ref 222, .ref 249, .int i, .float 0, .float 0] [] (e, m) := by
  obtain ⟨r, m1, m2, e1, e2, R⟩ := U_undo hR
  have c1 : mx_Call G l MX11_undo 4 0 0 [.ref 0] (e, m) (fun v z => v = some (.int r) ∧ z = (e, m1)) := CX11_undo h11 e1
  have c2 : mx_Call G l MX12_undo 2 0 0 [.ref 222] (e, m1) (fun v z => v = some (.int r) ∧ z = (e, m2)) := CX12_undo h12 e2
  refine px_aload_n (mx_d tL_law_8 18 rfl) rfl rfl ?_
  refine rx_cV (av := []) (mx_d tL_law_8 19 rfl) iL_122 rfl vX11_undo ⟨_, rfl, rfl⟩ (ly11_o h11) c1 (by decide) rfl rfl (Nat.le_of_ble_eq_true rfl) ?_
  refine px_aload_n (mx_d tL_law_8 20 rfl) rfl rfl ?_
  refine rx_cV (av := []) (mx_d tL_law_8 21 rfl) iL_125 rfl vX12_undo ⟨_, rfl, rfl⟩ (ly12_o h12) c2 (by decide) rfl rfl (Nat.le_of_ble_eq_true rfl) ?_
  exact px_icmp_eq (tgt := 1526) (mx_d tL_law_8 22 rfl) (by decide) (fun _ => hnext m2 R) (fun hc => absurd rfl hc)
theorem LW_proof (hin : ∀ j, j < 6 → vp_in (i + i3 j) Ls) (h11 : ly11 e 0) (h12 : ly12 e 222) (hR : RR m m) (hnext : ∀ m', RR m' m' → LF G l kc ks Ls xs 1526 [.ref 400000, .ref 0, .ref 222, .ref 249, .int i, .float 0, .float 0] [] (e, m')) : LF G l kc ks Ls xs 936 [.ref 400000, .ref 0, .ref 222, .ref 249, .int i, .float 0, .float 0] [] (e, m) := by
  obtain ⟨r, m1, m2, e1, e2, R⟩ := U_proof hR
  have c1 : mx_Call G l MX11_proof 6 0 0 [.ref 0] (e, m) (fun v z => v = some (.int r) ∧ z = (e, m1)) := CX11_proof h11 e1
  have c2 : mx_Call G l MX12_proof 4 0 0 [.ref 222] (e, m1) (fun v z => v = some (.int r) ∧ z = (e, m2)) := CX12_proof h12 e2
  refine px_aload_n (mx_d tL_law_8 25 rfl) rfl rfl ?_
  refine rx_cV (av := []) (mx_d tL_law_8 26 rfl) iL_126 rfl vX11_proof ⟨_, rfl, rfl⟩ (ly11_o h11) c1 (by decide) rfl rfl (Nat.le_of_ble_eq_true rfl) ?_
  refine px_aload_n (mx_d tL_law_8 27 rfl) rfl rfl ?_
  refine rx_cV (av := []) (mx_d tL_law_8 28 rfl) iL_129 rfl vX12_proof ⟨_, rfl, rfl⟩ (ly12_o h12) c2 (by decide) rfl rfl (Nat.le_of_ble_eq_true rfl) ?_
  exact px_icmp_eq (tgt := 1526) (mx_d tL_law_8 29 rfl) (by decide) (fun _ => hnext m2 R) (fun hc => absurd rfl hc)
theorem LW_proofAt (hin : ∀ j, j < 6 → vp_in (i + i3 j) Ls) (h11 : ly11 e 0) (h12 : ly12 e 222) (hR : RR m m) (hnext : ∀ m', RR m' m' → LF G l kc ks Ls xs 1526 [.ref 400000, .ref 0, .ref 222, .ref 249, .int i, .float 0, .float 0] [] (e, m')) : LF G l kc ks Ls xs 949 [.ref 400000, .ref 0, .ref 222, .ref 249, .int i, .float 0, .float 0] [] (e, m) := by
  obtain ⟨r, m2, e1, e2, R⟩ := U_proofAt hR
  have c1 : mx_Call G l MX11_proofAt 1 0 0 [.ref 0] (e, m) (fun v z => v = some (.int r) ∧ z = (e, m)) := CX11_proofAt h11 e1
  have c2 : mx_Call G l MX12_proofAt 1 0 0 [.ref 222] (e, m) (fun v z => v = some (.int r) ∧ z = (e, m2)) := CX12_proofAt h12 e2
  refine px_aload_n (mx_d tL_law_8 32 rfl) rfl rfl ?_
  refine rx_cV (av := []) (mx_d tL_law_8 33 rfl) iL_130 rfl vX11_proofAt ⟨_, rfl, rfl⟩ (ly11_o h11) c1 (by decide) rfl rfl (Nat.le_of_ble_eq_true rfl) ?_
  refine px_aload_n (mx_d tL_law_8 34 rfl) rfl rfl ?_
  refine rx_cV (av := []) (mx_d tL_law_8 35 rfl) iL_133 rfl vX12_proofAt ⟨_, rfl, rfl⟩ (ly12_o h12) c2 (by decide) rfl rfl (Nat.le_of_ble_eq_true rfl) ?_
  exact px_icmp_eq (tgt := 1526) (mx_d tL_law_8 36 rfl) (by decide) (fun _ => hnext m2 R) (fun hc => absurd rfl hc)
theorem LW_proofBy (hl : l.stackTraces = false) (hin : ∀ j, j < 6 → vp_in (i + i3 j) Ls) (h11 : ly11 e 0) (h12 : ly12 e 222) (ho : mx_is e 249 101 1) (hcap : e.1 < 100000) (hkc : 1 ≤ kc) (hks : 6 ≤ ks) (hR : RR m m) (hnext : ∀ e' m', RR m' m' → (e' = e ∨ ∃ n, e.1 ≤ n ∧ n ≤ e.1 + 1 ∧ e' = mx_ej e n) → LF G l (kc - 1) (ks - 6) Ls xs 1526 [.ref 400000, .ref 0, .ref 222, .ref 249, .int i, .float 0, .float 0] [] (e', m')) : LF G l kc ks Ls xs 962 [.ref 400000, .ref 0, .ref 222, .ref 249, .int i, .float 0, .float 0] [] (e, m) := by
  obtain ⟨r0, m0, g1, g2, g3, g4⟩ := U_proofBy hR mx_out.rf
  refine px_aload_n (mx_d tL_law_8 39 rfl) rfl rfl ?_
  refine px_aload_n (mx_d tL_law_8 40 rfl) rfl rfl ?_
  rcases g4 with ⟨gA, -⟩ | ⟨gT, g0⟩
  · refine px_callSW (mx_d tL_law_8 41 rfl) iW_proofBy rfl (fun _ h => h.2.2) (CL_proofBy (o := 249) h11 ho gA) (by decide) hkc hks rfl rfl (Nat.le_of_ble_eq_true rfl) (fun v z' hp => ?_)
    obtain ⟨rfl, rfl⟩ := hp
    obtain ⟨r, m2, f1, f2, f3, f4⟩ := U_proofBy (m' := (m.1, mx_ul m.2 249 0 (Int32.toInt64 r0))) hR (fun b j q => ⟨rfl, mx_ul_ne (fun w => q (by omega))⟩)
    have f5 : r = r0 ∧ m2.1 222 0 = 0 := by
      rcases f4 with ⟨fA, f0⟩ | ⟨fT, -⟩
      · exact ⟨Option.some.inj (fA.symm.trans gA), f0⟩
      · rw [N_proofBy fT] at gA; cases gA
    obtain ⟨rfl, f0⟩ := f5
    have c2 : mx_Call G l MX12_proofBy 2 0 0 [.ref 222] (e, m.1, mx_ul m.2 249 0 (Int32.toInt64 r)) (fun v z => v = some (.int r) ∧ z = (e, m2)) := CX12_proofBy h12 f1
    have c3 : mx_Call G l MX12_thrown 1 0 0 [.ref 222] (e, m2) (fun v z => v = some (.int 0) ∧ z = (e, m2)) := CX12_thrown h12 (by unfold FX12_thrown; rw [f0])
    have hcmp : lg_cmp (m2.2 249 (Int32.toNatClampNeg 0)) (Int32.toInt64 r) = 0 := by
      have e0 : m2.2 249 (Int32.toNatClampNeg 0) = Int32.toInt64 r := by
        show m2.2 249 0 = _
        rw [f3]
        show mx_ul m.2 249 0 (Int32.toInt64 r) 249 0 = _
        exact mx_ul_self
      rw [e0]
      exact lg_cmp_rf _
    refine px_istore (L2 := [.ref 400000, .ref 0, .ref 222, .ref 249, .int i, .int 0, .float 0]) (mx_d tL_law_8 42 rfl) (by decide) rfl ?_
    refine px_aload_n (mx_d tL_law_8 43 rfl) rfl rfl ?_
    refine rx_cV (av := []) (mx_d tL_law_8 44 rfl) iL_137 rfl vX12_proofBy ⟨_, rfl, rfl⟩ (ly12_o h12) c2 (by decide) rfl rfl (Nat.le_of_ble_eq_true rfl) ?_
    refine px_istore (L2 := [.ref 400000, .ref 0, .ref 222, .ref 249, .int i, .int 0, .int r]) (mx_d tL_law_8 45 rfl) (by decide) rfl ?_
    refine px_aload_n (mx_d tL_law_8 46 rfl) rfl rfl ?_
    refine rx_cV (av := []) (mx_d tL_law_8 47 rfl) iL_54 rfl vX12_thrown ⟨_, rfl, rfl⟩ (ly12_o h12) c3 (by decide) rfl rfl (Nat.le_of_ble_eq_true rfl) ?_
    refine px_iload (mx_d tL_law_8 48 rfl) rfl ?_
    refine px_icmp_eq (tgt := 986) (mx_d tL_law_8 49 rfl) (by decide) (fun _ => ?_) (fun hc => absurd rfl hc)
    refine px_iload (mx_d tL_law_8 52 rfl) rfl ?_
    refine px_if_ne (tgt := 1003) (mx_d tL_law_8 53 rfl) (by decide) (fun hc => absurd rfl hc) (fun _ => ?_)
    refine px_aload_n (mx_d tL_law_8 54 rfl) rfl rfl ?_
    refine px_iconst (0) (mx_d tL_law_8 55 rfl) (by decide) ?_
    refine px_laload (mx_d tL_law_8 56 rfl) ho (fun q => by rcases q with q | q <;> revert q <;> decide) ?_
    refine px_iload (mx_d tL_law_8 57 rfl) rfl ?_
    refine px_i2l (mx_d tL_law_8 58 rfl) ?_
    refine px_lcmp (mx_d tL_law_8 59 rfl) ?_
    refine px_if_eq (tgt := 1003) (mx_d tL_law_9 0 rfl) (by decide) (fun _ => ?_) (fun hc => absurd hcmp hc)
    refine px_goto (tgt := 1526) (mx_d tL_law_9 3 rfl) (by decide) ?_
    refine px_forget (L' := [.ref 400000, .ref 0, .ref 222, .ref 249, .int i, .float 0, .float 0]) ⟨rfl, rfl, rfl, rfl, rfl, trivial⟩ ?_
    exact hnext e m2 f2 (Or.inl rfl)
  · refine px_callSW (mx_d tL_law_8 41 rfl) iW_proofBy rfl (fun _ h => h.2.2) (EL_proofBy (o := 249) hl hcap h11 gT) (by decide) hkc hks rfl rfl (Nat.le_of_ble_eq_true rfl) (fun v z' hp => ?_)
    obtain ⟨rfl, n', hn1, hn2, rfl⟩ := hp
    have h12e : ly12 (mx_ej e n') 222 := ly12_ej hn1 h12
    have c2 : mx_Call G l MX12_proofBy 2 0 0 [.ref 222] (mx_ej e n', m) (fun v z => v = some (.int r0) ∧ z = (mx_ej e n', m0)) := CX12_proofBy h12e g1
    have c3 : mx_Call G l MX12_thrown 1 0 0 [.ref 222] (mx_ej e n', m0) (fun v z => v = some (.int 1) ∧ z = (mx_ej e n', m0)) := CX12_thrown h12e (by unfold FX12_thrown; rw [g0])
    refine px_istore (L2 := [.ref 400000, .ref 0, .ref 222, .ref 249, .int i, .int 1, .float 0]) (mx_d tL_law_8 42 rfl) (by decide) rfl ?_
    refine px_aload_n (mx_d tL_law_8 43 rfl) rfl rfl ?_
    refine rx_cV (av := []) (mx_d tL_law_8 44 rfl) iL_137 rfl vX12_proofBy ⟨_, rfl, rfl⟩ (ly12_o h12e) c2 (by decide) rfl rfl (Nat.le_of_ble_eq_true rfl) ?_
    refine px_istore (L2 := [.ref 400000, .ref 0, .ref 222, .ref 249, .int i, .int 1, .int r0]) (mx_d tL_law_8 45 rfl) (by decide) rfl ?_
    refine px_aload_n (mx_d tL_law_8 46 rfl) rfl rfl ?_
    refine rx_cV (av := []) (mx_d tL_law_8 47 rfl) iL_54 rfl vX12_thrown ⟨_, rfl, rfl⟩ (ly12_o h12e) c3 (by decide) rfl rfl (Nat.le_of_ble_eq_true rfl) ?_
    refine px_iload (mx_d tL_law_8 48 rfl) rfl ?_
    refine px_icmp_eq (tgt := 986) (mx_d tL_law_8 49 rfl) (by decide) (fun _ => ?_) (fun hc => absurd rfl hc)
    refine px_iload (mx_d tL_law_8 52 rfl) rfl ?_
    refine px_if_ne (tgt := 1003) (mx_d tL_law_8 53 rfl) (by decide) (fun _ => ?_) (fun hc => absurd hc (by decide))
    refine px_goto (tgt := 1526) (mx_d tL_law_9 3 rfl) (by decide) ?_
    refine px_forget (L' := [.ref 400000, .ref 0, .ref 222, .ref 249, .int i, .float 0, .float 0]) ⟨rfl, rfl, rfl, rfl, rfl, trivial⟩ ?_
    exact hnext _ m0 g2 (Or.inr ⟨n', hn1, hn2, rfl⟩)
theorem LW_room (hin : ∀ j, j < 6 → vp_in (i + i3 j) Ls) (h11 : ly11 e 0) (h12 : ly12 e 222) (hR : RR m m) (hnext : ∀ m', RR m' m' → LF G l kc ks Ls xs 1526 [.ref 400000, .ref 0, .ref 222, .ref 249, .int i, .float 0, .float 0] [] (e, m')) : LF G l kc ks Ls xs 1006 [.ref 400000, .ref 0, .ref 222, .ref 249, .int i, .float 0, .float 0] [] (e, m) := by
  obtain ⟨r, m2, e1, e2, R⟩ := U_room hR (xs (Int32.toNatClampNeg (i + 1)))
  have c1 : mx_Call G l MX11_room 5 0 0 [.ref 0, .int (xs (Int32.toNatClampNeg (i + 1)))] (e, m) (fun v z => v = some (.int r) ∧ z = (e, m)) := CX11_room h11 e1
  have c2 : mx_Call G l MX12_room 3 0 0 [.ref 222, .int (xs (Int32.toNatClampNeg (i + 1)))] (e, m) (fun v z => v = some (.int r) ∧ z = (e, m2)) := CX12_room h12 e2
  refine px_aload_n (mx_d tL_law_9 4 rfl) rfl rfl ?_
  refine px_aload_n (mx_d tL_law_9 5 rfl) rfl rfl ?_
  refine px_iload (mx_d tL_law_9 6 rfl) rfl ?_
  refine px_iconst (1) (mx_d tL_law_9 7 rfl) (by decide) ?_
  refine px_iadd (mx_d tL_law_9 8 rfl) ?_
  refine px_sld (mx_d tL_law_9 9 rfl) (fun _ h => h.1) (hin 1 (by decide)) ?_
  refine rx_cV (av := [.int (xs (Int32.toNatClampNeg (i + 1)))]) (mx_d tL_law_9 10 rfl) iL_138 rfl vX11_room ⟨_, rfl, rfl⟩ (ly11_o h11) c1 (by decide) rfl rfl (Nat.le_of_ble_eq_true rfl) ?_
  refine px_aload_n (mx_d tL_law_9 11 rfl) rfl rfl ?_
  refine px_aload_n (mx_d tL_law_9 12 rfl) rfl rfl ?_
  refine px_iload (mx_d tL_law_9 13 rfl) rfl ?_
  refine px_iconst (1) (mx_d tL_law_9 14 rfl) (by decide) ?_
  refine px_iadd (mx_d tL_law_9 15 rfl) ?_
  refine px_sld (mx_d tL_law_9 16 rfl) (fun _ h => h.1) (hin 1 (by decide)) ?_
  refine rx_cV (av := [.int (xs (Int32.toNatClampNeg (i + 1)))]) (mx_d tL_law_9 17 rfl) iL_141 rfl vX12_room ⟨_, rfl, rfl⟩ (ly12_o h12) c2 (by decide) rfl rfl (Nat.le_of_ble_eq_true rfl) ?_
  exact px_icmp_eq (tgt := 1526) (mx_d tL_law_9 18 rfl) (by decide) (fun _ => hnext m2 R) (fun hc => absurd rfl hc)
theorem LW_best (hin : ∀ j, j < 6 → vp_in (i + i3 j) Ls) (h11 : ly11 e 0) (h12 : ly12 e 222) (hR : RR m m) (hnext : ∀ m', RR m' m' → LF G l kc ks Ls xs 1526 [.ref 400000, .ref 0, .ref 222, .ref 249, .int i, .float 0, .float 0] [] (e, m')) : LF G l kc ks Ls xs 1031 [.ref 400000, .ref 0, .ref 222, .ref 249, .int i, .float 0, .float 0] [] (e, m) := by
  obtain ⟨r, m1, m2, e1, e2, R⟩ := U_best hR
  have c1 : mx_Call G l MX11_best 258 0 0 [.ref 0] (e, m) (fun v z => v = some (.int r) ∧ z = (e, m1)) := CX11_best h11 e1
  have c2 : mx_Call G l MX12_best 258 0 0 [.ref 222] (e, m1) (fun v z => v = some (.int r) ∧ z = (e, m2)) := CX12_best h12 e2
  refine px_aload_n (mx_d tL_law_9 21 rfl) rfl rfl ?_
  refine rx_cV (av := []) (mx_d tL_law_9 22 rfl) iL_142 rfl vX11_best ⟨_, rfl, rfl⟩ (ly11_o h11) c1 (by decide) rfl rfl (Nat.le_of_ble_eq_true rfl) ?_
  refine px_aload_n (mx_d tL_law_9 23 rfl) rfl rfl ?_
  refine rx_cV (av := []) (mx_d tL_law_9 24 rfl) iL_145 rfl vX12_best ⟨_, rfl, rfl⟩ (ly12_o h12) c2 (by decide) rfl rfl (Nat.le_of_ble_eq_true rfl) ?_
  exact px_icmp_eq (tgt := 1526) (mx_d tL_law_9 25 rfl) (by decide) (fun _ => hnext m2 R) (fun hc => absurd rfl hc)
theorem LW_bestOf (hin : ∀ j, j < 6 → vp_in (i + i3 j) Ls) (h11 : ly11 e 0) (h12 : ly12 e 222) (hR : RR m m) (hnext : ∀ m', RR m' m' → LF G l kc ks Ls xs 1526 [.ref 400000, .ref 0, .ref 222, .ref 249, .int i, .float 0, .float 0] [] (e, m')) : LF G l kc ks Ls xs 1044 [.ref 400000, .ref 0, .ref 222, .ref 249, .int i, .float 0, .float 0] [] (e, m) := by
  obtain ⟨r, m2, e1, e2, R⟩ := U_bestOf hR (xs (Int32.toNatClampNeg (i + 1)))
  have c1 : mx_Call G l MX11_bestOf 2 0 0 [.ref 0, .int (xs (Int32.toNatClampNeg (i + 1)))] (e, m) (fun v z => v = some (.int r) ∧ z = (e, m)) := CX11_bestOf h11 e1
  have c2 : mx_Call G l MX12_bestOf 2 0 0 [.ref 222, .int (xs (Int32.toNatClampNeg (i + 1)))] (e, m) (fun v z => v = some (.int r) ∧ z = (e, m2)) := CX12_bestOf h12 e2
  refine px_aload_n (mx_d tL_law_9 28 rfl) rfl rfl ?_
  refine px_aload_n (mx_d tL_law_9 29 rfl) rfl rfl ?_
  refine px_iload (mx_d tL_law_9 30 rfl) rfl ?_
  refine px_iconst (1) (mx_d tL_law_9 31 rfl) (by decide) ?_
  refine px_iadd (mx_d tL_law_9 32 rfl) ?_
  refine px_sld (mx_d tL_law_9 33 rfl) (fun _ h => h.1) (hin 1 (by decide)) ?_
  refine rx_cV (av := [.int (xs (Int32.toNatClampNeg (i + 1)))]) (mx_d tL_law_9 34 rfl) iL_146 rfl vX11_bestOf ⟨_, rfl, rfl⟩ (ly11_o h11) c1 (by decide) rfl rfl (Nat.le_of_ble_eq_true rfl) ?_
  refine px_aload_n (mx_d tL_law_9 35 rfl) rfl rfl ?_
  refine px_aload_n (mx_d tL_law_9 36 rfl) rfl rfl ?_
  refine px_iload (mx_d tL_law_9 37 rfl) rfl ?_
  refine px_iconst (1) (mx_d tL_law_9 38 rfl) (by decide) ?_
  refine px_iadd (mx_d tL_law_9 39 rfl) ?_
  refine px_sld (mx_d tL_law_9 40 rfl) (fun _ h => h.1) (hin 1 (by decide)) ?_
  refine rx_cV (av := [.int (xs (Int32.toNatClampNeg (i + 1)))]) (mx_d tL_law_9 41 rfl) iL_149 rfl vX12_bestOf ⟨_, rfl, rfl⟩ (ly12_o h12) c2 (by decide) rfl rfl (Nat.le_of_ble_eq_true rfl) ?_
  exact px_icmp_eq (tgt := 1526) (mx_d tL_law_9 42 rfl) (by decide) (fun _ => hnext m2 R) (fun hc => absurd rfl hc)
theorem LW_next (hin : ∀ j, j < 6 → vp_in (i + i3 j) Ls) (h11 : ly11 e 0) (h12 : ly12 e 222) (hR : RR m m) (hnext : ∀ m', RR m' m' → LF G l kc ks Ls xs 1526 [.ref 400000, .ref 0, .ref 222, .ref 249, .int i, .float 0, .float 0] [] (e, m')) : LF G l kc ks Ls xs 1069 [.ref 400000, .ref 0, .ref 222, .ref 249, .int i, .float 0, .float 0] [] (e, m) := by
  obtain ⟨r, m1, m2, e1, e2, R⟩ := U_next hR
  have c1 : mx_Call G l MX11_next 258 0 0 [.ref 0] (e, m) (fun v z => v = some (.int r) ∧ z = (e, m1)) := CX11_next h11 e1
  have c2 : mx_Call G l MX12_next 259 0 0 [.ref 222] (e, m1) (fun v z => v = some (.int r) ∧ z = (e, m2)) := CX12_next h12 e2
  refine px_aload_n (mx_d tL_law_9 45 rfl) rfl rfl ?_
  refine rx_cV (av := []) (mx_d tL_law_9 46 rfl) iL_150 rfl vX11_next ⟨_, rfl, rfl⟩ (ly11_o h11) c1 (by decide) rfl rfl (Nat.le_of_ble_eq_true rfl) ?_
  refine px_aload_n (mx_d tL_law_9 47 rfl) rfl rfl ?_
  refine rx_cV (av := []) (mx_d tL_law_9 48 rfl) iL_153 rfl vX12_next ⟨_, rfl, rfl⟩ (ly12_o h12) c2 (by decide) rfl rfl (Nat.le_of_ble_eq_true rfl) ?_
  exact px_icmp_eq (tgt := 1526) (mx_d tL_law_9 49 rfl) (by decide) (fun _ => hnext m2 R) (fun hc => absurd rfl hc)
theorem LW_heavy (hin : ∀ j, j < 6 → vp_in (i + i3 j) Ls) (h11 : ly11 e 0) (h12 : ly12 e 222) (hR : RR m m) (hnext : ∀ m', RR m' m' → LF G l kc ks Ls xs 1526 [.ref 400000, .ref 0, .ref 222, .ref 249, .int i, .float 0, .float 0] [] (e, m')) : LF G l kc ks Ls xs 1082 [.ref 400000, .ref 0, .ref 222, .ref 249, .int i, .float 0, .float 0] [] (e, m) := by
  obtain ⟨r, m1, m2, e1, e2, R⟩ := U_heavy hR (xs (Int32.toNatClampNeg (i + 1)))
  have c1 : mx_Call G l MX11_heavy 258 0 0 [.ref 0, .int (xs (Int32.toNatClampNeg (i + 1)))] (e, m) (fun v z => v = some (.int r) ∧ z = (e, m1)) := CX11_heavy h11 e1
  have c2 : mx_Call G l MX12_heavy 258 0 0 [.ref 222, .int (xs (Int32.toNatClampNeg (i + 1)))] (e, m1) (fun v z => v = some (.int r) ∧ z = (e, m2)) := CX12_heavy h12 e2
  refine px_aload_n (mx_d tL_law_9 52 rfl) rfl rfl ?_
  refine px_aload_n (mx_d tL_law_9 53 rfl) rfl rfl ?_
  refine px_iload (mx_d tL_law_9 54 rfl) rfl ?_
  refine px_iconst (1) (mx_d tL_law_9 55 rfl) (by decide) ?_
  refine px_iadd (mx_d tL_law_9 56 rfl) ?_
  refine px_sld (mx_d tL_law_9 57 rfl) (fun _ h => h.1) (hin 1 (by decide)) ?_
  refine rx_cV (av := [.int (xs (Int32.toNatClampNeg (i + 1)))]) (mx_d tL_law_9 58 rfl) iL_154 rfl vX11_heavy ⟨_, rfl, rfl⟩ (ly11_o h11) c1 (by decide) rfl rfl (Nat.le_of_ble_eq_true rfl) ?_
  refine px_aload_n (mx_d tL_law_9 59 rfl) rfl rfl ?_
  refine px_aload_n (mx_d tL_law_10 0 rfl) rfl rfl ?_
  refine px_iload (mx_d tL_law_10 1 rfl) rfl ?_
  refine px_iconst (1) (mx_d tL_law_10 2 rfl) (by decide) ?_
  refine px_iadd (mx_d tL_law_10 3 rfl) ?_
  refine px_sld (mx_d tL_law_10 4 rfl) (fun _ h => h.1) (hin 1 (by decide)) ?_
  refine rx_cV (av := [.int (xs (Int32.toNatClampNeg (i + 1)))]) (mx_d tL_law_10 5 rfl) iL_157 rfl vX12_heavy ⟨_, rfl, rfl⟩ (ly12_o h12) c2 (by decide) rfl rfl (Nat.le_of_ble_eq_true rfl) ?_
  exact px_icmp_eq (tgt := 1526) (mx_d tL_law_10 6 rfl) (by decide) (fun _ => hnext m2 R) (fun hc => absurd rfl hc)
theorem LW_ways (hin : ∀ j, j < 6 → vp_in (i + i3 j) Ls) (h11 : ly11 e 0) (h12 : ly12 e 222) (hR : RR m m) (hnext : ∀ m', RR m' m' → LF G l kc ks Ls xs 1526 [.ref 400000, .ref 0, .ref 222, .ref 249, .int i, .float 0, .float 0] [] (e, m')) : LF G l kc ks Ls xs 1107 [.ref 400000, .ref 0, .ref 222, .ref 249, .int i, .float 0, .float 0] [] (e, m) := by
  obtain ⟨r, m1, m2, e1, e2, R⟩ := U_ways hR (xs (Int32.toNatClampNeg (i + 1)))
  have c1 : mx_Call G l MX11_ways 258 0 0 [.ref 0, .int (xs (Int32.toNatClampNeg (i + 1)))] (e, m) (fun v z => v = some (.int r) ∧ z = (e, m1)) := CX11_ways h11 e1
  have c2 : mx_Call G l MX12_ways 258 0 0 [.ref 222, .int (xs (Int32.toNatClampNeg (i + 1)))] (e, m1) (fun v z => v = some (.int r) ∧ z = (e, m2)) := CX12_ways h12 e2
  refine px_aload_n (mx_d tL_law_10 9 rfl) rfl rfl ?_
  refine px_aload_n (mx_d tL_law_10 10 rfl) rfl rfl ?_
  refine px_iload (mx_d tL_law_10 11 rfl) rfl ?_
  refine px_iconst (1) (mx_d tL_law_10 12 rfl) (by decide) ?_
  refine px_iadd (mx_d tL_law_10 13 rfl) ?_
  refine px_sld (mx_d tL_law_10 14 rfl) (fun _ h => h.1) (hin 1 (by decide)) ?_
  refine rx_cV (av := [.int (xs (Int32.toNatClampNeg (i + 1)))]) (mx_d tL_law_10 15 rfl) iL_158 rfl vX11_ways ⟨_, rfl, rfl⟩ (ly11_o h11) c1 (by decide) rfl rfl (Nat.le_of_ble_eq_true rfl) ?_
  refine px_aload_n (mx_d tL_law_10 16 rfl) rfl rfl ?_
  refine px_aload_n (mx_d tL_law_10 17 rfl) rfl rfl ?_
  refine px_iload (mx_d tL_law_10 18 rfl) rfl ?_
  refine px_iconst (1) (mx_d tL_law_10 19 rfl) (by decide) ?_
  refine px_iadd (mx_d tL_law_10 20 rfl) ?_
  refine px_sld (mx_d tL_law_10 21 rfl) (fun _ h => h.1) (hin 1 (by decide)) ?_
  refine rx_cV (av := [.int (xs (Int32.toNatClampNeg (i + 1)))]) (mx_d tL_law_10 22 rfl) iL_161 rfl vX12_ways ⟨_, rfl, rfl⟩ (ly12_o h12) c2 (by decide) rfl rfl (Nat.le_of_ble_eq_true rfl) ?_
  exact px_icmp_eq (tgt := 1526) (mx_d tL_law_10 23 rfl) (by decide) (fun _ => hnext m2 R) (fun hc => absurd rfl hc)
theorem LW_gain (hin : ∀ j, j < 6 → vp_in (i + i3 j) Ls) (h11 : ly11 e 0) (h12 : ly12 e 222) (hR : RR m m) (hnext : ∀ m', RR m' m' → LF G l kc ks Ls xs 1526 [.ref 400000, .ref 0, .ref 222, .ref 249, .int i, .float 0, .float 0] [] (e, m')) : LF G l kc ks Ls xs 1132 [.ref 400000, .ref 0, .ref 222, .ref 249, .int i, .float 0, .float 0] [] (e, m) := by
  obtain ⟨r, m1, m2, e1, e2, R⟩ := U_gain hR
  have c1 : mx_Call G l MX11_gain 258 0 0 [.ref 0] (e, m) (fun v z => v = some (.int r) ∧ z = (e, m1)) := CX11_gain h11 e1
  have c2 : mx_Call G l MX12_gain 257 0 0 [.ref 222] (e, m1) (fun v z => v = some (.int r) ∧ z = (e, m2)) := CX12_gain h12 e2
  refine px_aload_n (mx_d tL_law_10 26 rfl) rfl rfl ?_
  refine rx_cV (av := []) (mx_d tL_law_10 27 rfl) iL_162 rfl vX11_gain ⟨_, rfl, rfl⟩ (ly11_o h11) c1 (by decide) rfl rfl (Nat.le_of_ble_eq_true rfl) ?_
  refine px_aload_n (mx_d tL_law_10 28 rfl) rfl rfl ?_
  refine rx_cV (av := []) (mx_d tL_law_10 29 rfl) iL_165 rfl vX12_gain ⟨_, rfl, rfl⟩ (ly12_o h12) c2 (by decide) rfl rfl (Nat.le_of_ble_eq_true rfl) ?_
  exact px_icmp_eq (tgt := 1526) (mx_d tL_law_10 30 rfl) (by decide) (fun _ => hnext m2 R) (fun hc => absurd rfl hc)
theorem LW_who (hin : ∀ j, j < 6 → vp_in (i + i3 j) Ls) (h11 : ly11 e 0) (h12 : ly12 e 222) (hR : RR m m) (hnext : ∀ m', RR m' m' → LF G l kc ks Ls xs 1526 [.ref 400000, .ref 0, .ref 222, .ref 249, .int i, .float 0, .float 0] [] (e, m')) : LF G l kc ks Ls xs 1145 [.ref 400000, .ref 0, .ref 222, .ref 249, .int i, .float 0, .float 0] [] (e, m) := by
  obtain ⟨r, m1, m2, e1, e2, R⟩ := U_who hR
  have c1 : mx_Call G l MX11_who 322 0 0 [.ref 0] (e, m) (fun v z => v = some (.int r) ∧ z = (e, m1)) := CX11_who h11 e1
  have c2 : mx_Call G l MX12_who 259 0 0 [.ref 222] (e, m1) (fun v z => v = some (.int r) ∧ z = (e, m2)) := CX12_who h12 e2
  refine px_aload_n (mx_d tL_law_10 33 rfl) rfl rfl ?_
  refine rx_cV (av := []) (mx_d tL_law_10 34 rfl) iL_166 rfl vX11_who ⟨_, rfl, rfl⟩ (ly11_o h11) c1 (by decide) rfl rfl (Nat.le_of_ble_eq_true rfl) ?_
  refine px_aload_n (mx_d tL_law_10 35 rfl) rfl rfl ?_
  refine rx_cV (av := []) (mx_d tL_law_10 36 rfl) iL_169 rfl vX12_who ⟨_, rfl, rfl⟩ (ly12_o h12) c2 (by decide) rfl rfl (Nat.le_of_ble_eq_true rfl) ?_
  exact px_icmp_eq (tgt := 1526) (mx_d tL_law_10 37 rfl) (by decide) (fun _ => hnext m2 R) (fun hc => absurd rfl hc)
theorem LW_ask (hin : ∀ j, j < 6 → vp_in (i + i3 j) Ls) (h11 : ly11 e 0) (h12 : ly12 e 222) (hR : RR m m) (hnext : ∀ m', RR m' m' → LF G l kc ks Ls xs 1526 [.ref 400000, .ref 0, .ref 222, .ref 249, .int i, .float 0, .float 0] [] (e, m')) : LF G l kc ks Ls xs 1158 [.ref 400000, .ref 0, .ref 222, .ref 249, .int i, .float 0, .float 0] [] (e, m) := by
  obtain ⟨r, m2, e1, e2, R⟩ := U_ask hR
  have c1 : mx_Call G l MX11_ask 1 0 0 [.ref 0] (e, m) (fun v z => v = some (.int r) ∧ z = (e, m)) := CX11_ask h11 e1
  have c2 : mx_Call G l MX12_ask 1 0 0 [.ref 222] (e, m) (fun v z => v = some (.int r) ∧ z = (e, m2)) := CX12_ask h12 e2
  refine px_aload_n (mx_d tL_law_10 40 rfl) rfl rfl ?_
  refine rx_cV (av := []) (mx_d tL_law_10 41 rfl) iL_170 rfl vX11_ask ⟨_, rfl, rfl⟩ (ly11_o h11) c1 (by decide) rfl rfl (Nat.le_of_ble_eq_true rfl) ?_
  refine px_aload_n (mx_d tL_law_10 42 rfl) rfl rfl ?_
  refine rx_cV (av := []) (mx_d tL_law_10 43 rfl) iL_173 rfl vX12_ask ⟨_, rfl, rfl⟩ (ly12_o h12) c2 (by decide) rfl rfl (Nat.le_of_ble_eq_true rfl) ?_
  exact px_icmp_eq (tgt := 1526) (mx_d tL_law_10 44 rfl) (by decide) (fun _ => hnext m2 R) (fun hc => absurd rfl hc)
theorem LW_mean (hl : l.stackTraces = false) (hin : ∀ j, j < 6 → vp_in (i + i3 j) Ls) (h11 : ly11 e 0) (h12 : ly12 e 222) (ho : mx_is e 249 101 1) (hcap : e.1 < 100000) (hkc : 1 ≤ kc) (hks : 6 ≤ ks) (hR : RR m m) (hnext : ∀ e' m', RR m' m' → (e' = e ∨ ∃ n, e.1 ≤ n ∧ n ≤ e.1 + 1 ∧ e' = mx_ej e n) → LF G l (kc - 1) (ks - 6) Ls xs 1526 [.ref 400000, .ref 0, .ref 222, .ref 249, .int i, .float 0, .float 0] [] (e', m')) : LF G l kc ks Ls xs 1171 [.ref 400000, .ref 0, .ref 222, .ref 249, .int i, .float 0, .float 0] [] (e, m) := by
  obtain ⟨r0, m0, g1, g2, g3, g4⟩ := U_mean hR mx_out.rf (xs (Int32.toNatClampNeg (i + 1)))
  refine px_aload_n (mx_d tL_law_10 47 rfl) rfl rfl ?_
  refine px_aload_n (mx_d tL_law_10 48 rfl) rfl rfl ?_
  refine px_iload (mx_d tL_law_10 49 rfl) rfl ?_
  refine px_iconst (1) (mx_d tL_law_10 50 rfl) (by decide) ?_
  refine px_iadd (mx_d tL_law_10 51 rfl) ?_
  refine px_sld (mx_d tL_law_10 52 rfl) (fun _ h => h.1) (hin 1 (by decide)) ?_
  refine px_aload_n (mx_d tL_law_10 53 rfl) rfl rfl ?_
  rcases g4 with ⟨gA, -⟩ | ⟨gT, g0⟩
  · refine px_callSW (mx_d tL_law_10 54 rfl) iW_mean rfl (fun _ h => h.2.2) (CL_mean (o := 249) h11 ho gA) (by decide) hkc hks rfl rfl (Nat.le_of_ble_eq_true rfl) (fun v z' hp => ?_)
    obtain ⟨rfl, rfl⟩ := hp
    obtain ⟨r, m2, f1, f2, f3, f4⟩ := U_mean (m' := (m.1, mx_ul m.2 249 0 (Int32.toInt64 r0))) hR (fun b j q => ⟨rfl, mx_ul_ne (fun w => q (by omega))⟩) (xs (Int32.toNatClampNeg (i + 1)))
    have f5 : r = r0 ∧ m2.1 222 0 = 0 := by
      rcases f4 with ⟨fA, f0⟩ | ⟨fT, -⟩
      · exact ⟨Option.some.inj (fA.symm.trans gA), f0⟩
      · rw [N_mean fT] at gA; cases gA
    obtain ⟨rfl, f0⟩ := f5
    have c2 : mx_Call G l MX12_mean 4 0 0 [.ref 222, .int (xs (Int32.toNatClampNeg (i + 1)))] (e, m.1, mx_ul m.2 249 0 (Int32.toInt64 r)) (fun v z => v = some (.int r) ∧ z = (e, m2)) := CX12_mean h12 f1
    have c3 : mx_Call G l MX12_thrown 1 0 0 [.ref 222] (e, m2) (fun v z => v = some (.int 0) ∧ z = (e, m2)) := CX12_thrown h12 (by unfold FX12_thrown; rw [f0])
    have hcmp : lg_cmp (m2.2 249 (Int32.toNatClampNeg 0)) (Int32.toInt64 r) = 0 := by
      have e0 : m2.2 249 (Int32.toNatClampNeg 0) = Int32.toInt64 r := by
        show m2.2 249 0 = _
        rw [f3]
        show mx_ul m.2 249 0 (Int32.toInt64 r) 249 0 = _
        exact mx_ul_self
      rw [e0]
      exact lg_cmp_rf _
    refine px_istore (L2 := [.ref 400000, .ref 0, .ref 222, .ref 249, .int i, .int 0, .float 0]) (mx_d tL_law_10 55 rfl) (by decide) rfl ?_
    refine px_aload_n (mx_d tL_law_10 56 rfl) rfl rfl ?_
    refine px_aload_n (mx_d tL_law_10 57 rfl) rfl rfl ?_
    refine px_iload (mx_d tL_law_10 58 rfl) rfl ?_
    refine px_iconst (1) (mx_d tL_law_10 59 rfl) (by decide) ?_
    refine px_iadd (mx_d tL_law_11 0 rfl) ?_
    refine px_sld (mx_d tL_law_11 1 rfl) (fun _ h => h.1) (hin 1 (by decide)) ?_
    refine rx_cV (av := [.int (xs (Int32.toNatClampNeg (i + 1)))]) (mx_d tL_law_11 2 rfl) iL_176 rfl vX12_mean ⟨_, rfl, rfl⟩ (ly12_o h12) c2 (by decide) rfl rfl (Nat.le_of_ble_eq_true rfl) ?_
    refine px_istore (L2 := [.ref 400000, .ref 0, .ref 222, .ref 249, .int i, .int 0, .int r]) (mx_d tL_law_11 3 rfl) (by decide) rfl ?_
    refine px_aload_n (mx_d tL_law_11 4 rfl) rfl rfl ?_
    refine rx_cV (av := []) (mx_d tL_law_11 5 rfl) iL_54 rfl vX12_thrown ⟨_, rfl, rfl⟩ (ly12_o h12) c3 (by decide) rfl rfl (Nat.le_of_ble_eq_true rfl) ?_
    refine px_iload (mx_d tL_law_11 6 rfl) rfl ?_
    refine px_icmp_eq (tgt := 1207) (mx_d tL_law_11 7 rfl) (by decide) (fun _ => ?_) (fun hc => absurd rfl hc)
    refine px_iload (mx_d tL_law_11 10 rfl) rfl ?_
    refine px_if_ne (tgt := 1224) (mx_d tL_law_11 11 rfl) (by decide) (fun hc => absurd rfl hc) (fun _ => ?_)
    refine px_aload_n (mx_d tL_law_11 12 rfl) rfl rfl ?_
    refine px_iconst (0) (mx_d tL_law_11 13 rfl) (by decide) ?_
    refine px_laload (mx_d tL_law_11 14 rfl) ho (fun q => by rcases q with q | q <;> revert q <;> decide) ?_
    refine px_iload (mx_d tL_law_11 15 rfl) rfl ?_
    refine px_i2l (mx_d tL_law_11 16 rfl) ?_
    refine px_lcmp (mx_d tL_law_11 17 rfl) ?_
    refine px_if_eq (tgt := 1224) (mx_d tL_law_11 18 rfl) (by decide) (fun _ => ?_) (fun hc => absurd hcmp hc)
    refine px_goto (tgt := 1526) (mx_d tL_law_11 21 rfl) (by decide) ?_
    refine px_forget (L' := [.ref 400000, .ref 0, .ref 222, .ref 249, .int i, .float 0, .float 0]) ⟨rfl, rfl, rfl, rfl, rfl, trivial⟩ ?_
    exact hnext e m2 f2 (Or.inl rfl)
  · refine px_callSW (mx_d tL_law_10 54 rfl) iW_mean rfl (fun _ h => h.2.2) (EL_mean (o := 249) hl hcap h11 gT.choose_spec.1 gT.choose_spec.2) (by decide) hkc hks rfl rfl (Nat.le_of_ble_eq_true rfl) (fun v z' hp => ?_)
    obtain ⟨rfl, n', hn1, hn2, rfl⟩ := hp
    have h12e : ly12 (mx_ej e n') 222 := ly12_ej hn1 h12
    have c2 : mx_Call G l MX12_mean 4 0 0 [.ref 222, .int (xs (Int32.toNatClampNeg (i + 1)))] (mx_ej e n', m) (fun v z => v = some (.int r0) ∧ z = (mx_ej e n', m0)) := CX12_mean h12e g1
    have c3 : mx_Call G l MX12_thrown 1 0 0 [.ref 222] (mx_ej e n', m0) (fun v z => v = some (.int 1) ∧ z = (mx_ej e n', m0)) := CX12_thrown h12e (by unfold FX12_thrown; rw [g0])
    refine px_istore (L2 := [.ref 400000, .ref 0, .ref 222, .ref 249, .int i, .int 1, .float 0]) (mx_d tL_law_10 55 rfl) (by decide) rfl ?_
    refine px_aload_n (mx_d tL_law_10 56 rfl) rfl rfl ?_
    refine px_aload_n (mx_d tL_law_10 57 rfl) rfl rfl ?_
    refine px_iload (mx_d tL_law_10 58 rfl) rfl ?_
    refine px_iconst (1) (mx_d tL_law_10 59 rfl) (by decide) ?_
    refine px_iadd (mx_d tL_law_11 0 rfl) ?_
    refine px_sld (mx_d tL_law_11 1 rfl) (fun _ h => h.1) (hin 1 (by decide)) ?_
    refine rx_cV (av := [.int (xs (Int32.toNatClampNeg (i + 1)))]) (mx_d tL_law_11 2 rfl) iL_176 rfl vX12_mean ⟨_, rfl, rfl⟩ (ly12_o h12e) c2 (by decide) rfl rfl (Nat.le_of_ble_eq_true rfl) ?_
    refine px_istore (L2 := [.ref 400000, .ref 0, .ref 222, .ref 249, .int i, .int 1, .int r0]) (mx_d tL_law_11 3 rfl) (by decide) rfl ?_
    refine px_aload_n (mx_d tL_law_11 4 rfl) rfl rfl ?_
    refine rx_cV (av := []) (mx_d tL_law_11 5 rfl) iL_54 rfl vX12_thrown ⟨_, rfl, rfl⟩ (ly12_o h12e) c3 (by decide) rfl rfl (Nat.le_of_ble_eq_true rfl) ?_
    refine px_iload (mx_d tL_law_11 6 rfl) rfl ?_
    refine px_icmp_eq (tgt := 1207) (mx_d tL_law_11 7 rfl) (by decide) (fun _ => ?_) (fun hc => absurd rfl hc)
    refine px_iload (mx_d tL_law_11 10 rfl) rfl ?_
    refine px_if_ne (tgt := 1224) (mx_d tL_law_11 11 rfl) (by decide) (fun _ => ?_) (fun hc => absurd hc (by decide))
    refine px_goto (tgt := 1526) (mx_d tL_law_11 21 rfl) (by decide) ?_
    refine px_forget (L' := [.ref 400000, .ref 0, .ref 222, .ref 249, .int i, .float 0, .float 0]) ⟨rfl, rfl, rfl, rfl, rfl, trivial⟩ ?_
    exact hnext _ m0 g2 (Or.inr ⟨n', hn1, hn2, rfl⟩)
theorem LW_tag (hin : ∀ j, j < 6 → vp_in (i + i3 j) Ls) (h11 : ly11 e 0) (h12 : ly12 e 222) (hR : RR m m) (hnext : ∀ m', RR m' m' → LF G l kc ks Ls xs 1526 [.ref 400000, .ref 0, .ref 222, .ref 249, .int i, .float 0, .float 0] [] (e, m')) : LF G l kc ks Ls xs 1227 [.ref 400000, .ref 0, .ref 222, .ref 249, .int i, .float 0, .float 0] [] (e, m) := by
  obtain ⟨r, m1, m2, e1, e2, R⟩ := U_tag hR (xs (Int32.toNatClampNeg (i + 1)))
  have c1 : mx_CallN G l MX11_tag 7 0 0 [.ref 0, .int (xs (Int32.toNatClampNeg (i + 1)))] (e, m) (fun v z => v = some (.int r) ∧ z = (e, m1)) := CX11_tag h11 e1
  have c2 : mx_Call G l MX12_tag 130 0 0 [.ref 222, .int (xs (Int32.toNatClampNeg (i + 1)))] (e, m1) (fun v z => v = some (.int r) ∧ z = (e, m2)) := CX12_tag h12 e2
  refine px_aload_n (mx_d tL_law_11 22 rfl) rfl rfl ?_
  refine px_aload_n (mx_d tL_law_11 23 rfl) rfl rfl ?_
  refine px_iload (mx_d tL_law_11 24 rfl) rfl ?_
  refine px_iconst (1) (mx_d tL_law_11 25 rfl) (by decide) ?_
  refine px_iadd (mx_d tL_law_11 26 rfl) ?_
  refine px_sld (mx_d tL_law_11 27 rfl) (fun _ h => h.1) (hin 1 (by decide)) ?_
  refine rx_cN (av := [.int (xs (Int32.toNatClampNeg (i + 1)))]) (mx_d tL_law_11 28 rfl) iL_177 rfl vX11_tag ⟨_, rfl, rfl⟩ (ly11_o h11) (fun _ h => h.2.1) c1 (by decide) rfl rfl (Nat.le_of_ble_eq_true rfl) ?_
  refine px_aload_n (mx_d tL_law_11 29 rfl) rfl rfl ?_
  refine px_aload_n (mx_d tL_law_11 30 rfl) rfl rfl ?_
  refine px_iload (mx_d tL_law_11 31 rfl) rfl ?_
  refine px_iconst (1) (mx_d tL_law_11 32 rfl) (by decide) ?_
  refine px_iadd (mx_d tL_law_11 33 rfl) ?_
  refine px_sld (mx_d tL_law_11 34 rfl) (fun _ h => h.1) (hin 1 (by decide)) ?_
  refine rx_cV (av := [.int (xs (Int32.toNatClampNeg (i + 1)))]) (mx_d tL_law_11 35 rfl) iL_180 rfl vX12_tag ⟨_, rfl, rfl⟩ (ly12_o h12) c2 (by decide) rfl rfl (Nat.le_of_ble_eq_true rfl) ?_
  exact px_icmp_eq (tgt := 1526) (mx_d tL_law_11 36 rfl) (by decide) (fun _ => hnext m2 R) (fun hc => absurd rfl hc)
theorem LW_byteAt (hin : ∀ j, j < 6 → vp_in (i + i3 j) Ls) (h11 : ly11 e 0) (h12 : ly12 e 222) (hR : RR m m) (hnext : ∀ m', RR m' m' → LF G l kc ks Ls xs 1526 [.ref 400000, .ref 0, .ref 222, .ref 249, .int i, .float 0, .float 0] [] (e, m')) : LF G l kc ks Ls xs 1252 [.ref 400000, .ref 0, .ref 222, .ref 249, .int i, .float 0, .float 0] [] (e, m) := by
  obtain ⟨r, m2, e1, e2, R⟩ := U_byteAt hR (xs (Int32.toNatClampNeg (i + 1)))
  have c1 : mx_Call G l MX11_byteAt 2 0 0 [.ref 0, .int (xs (Int32.toNatClampNeg (i + 1)))] (e, m) (fun v z => v = some (.int r) ∧ z = (e, m)) := CX11_byteAt h11 e1
  have c2 : mx_Call G l MX12_byteAt 2 0 0 [.ref 222, .int (xs (Int32.toNatClampNeg (i + 1)))] (e, m) (fun v z => v = some (.int r) ∧ z = (e, m2)) := CX12_byteAt h12 e2
  refine px_aload_n (mx_d tL_law_11 39 rfl) rfl rfl ?_
  refine px_aload_n (mx_d tL_law_11 40 rfl) rfl rfl ?_
  refine px_iload (mx_d tL_law_11 41 rfl) rfl ?_
  refine px_iconst (1) (mx_d tL_law_11 42 rfl) (by decide) ?_
  refine px_iadd (mx_d tL_law_11 43 rfl) ?_
  refine px_sld (mx_d tL_law_11 44 rfl) (fun _ h => h.1) (hin 1 (by decide)) ?_
  refine rx_cV (av := [.int (xs (Int32.toNatClampNeg (i + 1)))]) (mx_d tL_law_11 45 rfl) iL_181 rfl vX11_byteAt ⟨_, rfl, rfl⟩ (ly11_o h11) c1 (by decide) rfl rfl (Nat.le_of_ble_eq_true rfl) ?_
  refine px_aload_n (mx_d tL_law_11 46 rfl) rfl rfl ?_
  refine px_aload_n (mx_d tL_law_11 47 rfl) rfl rfl ?_
  refine px_iload (mx_d tL_law_11 48 rfl) rfl ?_
  refine px_iconst (1) (mx_d tL_law_11 49 rfl) (by decide) ?_
  refine px_iadd (mx_d tL_law_11 50 rfl) ?_
  refine px_sld (mx_d tL_law_11 51 rfl) (fun _ h => h.1) (hin 1 (by decide)) ?_
  refine rx_cV (av := [.int (xs (Int32.toNatClampNeg (i + 1)))]) (mx_d tL_law_11 52 rfl) iL_184 rfl vX12_byteAt ⟨_, rfl, rfl⟩ (ly12_o h12) c2 (by decide) rfl rfl (Nat.le_of_ble_eq_true rfl) ?_
  exact px_icmp_eq (tgt := 1526) (mx_d tL_law_11 53 rfl) (by decide) (fun _ => hnext m2 R) (fun hc => absurd rfl hc)
theorem LW_drawn (hin : ∀ j, j < 6 → vp_in (i + i3 j) Ls) (h11 : ly11 e 0) (h12 : ly12 e 222) (hR : RR m m) (hnext : ∀ m', RR m' m' → LF G l kc ks Ls xs 1526 [.ref 400000, .ref 0, .ref 222, .ref 249, .int i, .float 0, .float 0] [] (e, m')) : LF G l kc ks Ls xs 1277 [.ref 400000, .ref 0, .ref 222, .ref 249, .int i, .float 0, .float 0] [] (e, m) := by
  obtain ⟨r, m1, m2, e1, e2, R⟩ := U_drawn hR (xs (Int32.toNatClampNeg (i + 1))) (xs (Int32.toNatClampNeg (i + 2)))
  have c1 : mx_Call G l MX11_drawn 197 0 0 [.ref 0, .int (xs (Int32.toNatClampNeg (i + 1))), .int (xs (Int32.toNatClampNeg (i + 2)))] (e, m) (fun v z => v = some (.int r) ∧ z = (e, m1)) := CX11_drawn h11 e1
  have c2 : mx_Call G l MX12_drawn 262 0 0 [.ref 222, .int (xs (Int32.toNatClampNeg (i + 1))), .int (xs (Int32.toNatClampNeg (i + 2)))] (e, m1) (fun v z => v = some (.int r) ∧ z = (e, m2)) := CX12_drawn h12 e2
  refine px_aload_n (mx_d tL_law_11 56 rfl) rfl rfl ?_
  refine px_aload_n (mx_d tL_law_11 57 rfl) rfl rfl ?_
  refine px_iload (mx_d tL_law_11 58 rfl) rfl ?_
  refine px_iconst (1) (mx_d tL_law_11 59 rfl) (by decide) ?_
  refine px_iadd (mx_d tL_law_12 0 rfl) ?_
  refine px_sld (mx_d tL_law_12 1 rfl) (fun _ h => h.1) (hin 1 (by decide)) ?_
  refine px_aload_n (mx_d tL_law_12 2 rfl) rfl rfl ?_
  refine px_iload (mx_d tL_law_12 3 rfl) rfl ?_
  refine px_iconst (2) (mx_d tL_law_12 4 rfl) (by decide) ?_
  refine px_iadd (mx_d tL_law_12 5 rfl) ?_
  refine px_sld (mx_d tL_law_12 6 rfl) (fun _ h => h.1) (hin 2 (by decide)) ?_
  refine rx_cV (av := [.int (xs (Int32.toNatClampNeg (i + 1))), .int (xs (Int32.toNatClampNeg (i + 2)))]) (mx_d tL_law_12 7 rfl) iL_185 rfl vX11_drawn ⟨_, rfl, rfl⟩ (ly11_o h11) c1 (by decide) rfl rfl (Nat.le_of_ble_eq_true rfl) ?_
  refine px_aload_n (mx_d tL_law_12 8 rfl) rfl rfl ?_
  refine px_aload_n (mx_d tL_law_12 9 rfl) rfl rfl ?_
  refine px_iload (mx_d tL_law_12 10 rfl) rfl ?_
  refine px_iconst (1) (mx_d tL_law_12 11 rfl) (by decide) ?_
  refine px_iadd (mx_d tL_law_12 12 rfl) ?_
  refine px_sld (mx_d tL_law_12 13 rfl) (fun _ h => h.1) (hin 1 (by decide)) ?_
  refine px_aload_n (mx_d tL_law_12 14 rfl) rfl rfl ?_
  refine px_iload (mx_d tL_law_12 15 rfl) rfl ?_
  refine px_iconst (2) (mx_d tL_law_12 16 rfl) (by decide) ?_
  refine px_iadd (mx_d tL_law_12 17 rfl) ?_
  refine px_sld (mx_d tL_law_12 18 rfl) (fun _ h => h.1) (hin 2 (by decide)) ?_
  refine rx_cV (av := [.int (xs (Int32.toNatClampNeg (i + 1))), .int (xs (Int32.toNatClampNeg (i + 2)))]) (mx_d tL_law_12 19 rfl) iL_188 rfl vX12_drawn ⟨_, rfl, rfl⟩ (ly12_o h12) c2 (by decide) rfl rfl (Nat.le_of_ble_eq_true rfl) ?_
  exact px_icmp_eq (tgt := 1526) (mx_d tL_law_12 20 rfl) (by decide) (fun _ => hnext m2 R) (fun hc => absurd rfl hc)
theorem LW_odds (hin : ∀ j, j < 6 → vp_in (i + i3 j) Ls) (h11 : ly11 e 0) (h12 : ly12 e 222) (hR : RR m m) (hnext : ∀ m', RR m' m' → LF G l kc ks Ls xs 1526 [.ref 400000, .ref 0, .ref 222, .ref 249, .int i, .float 0, .float 0] [] (e, m')) : LF G l kc ks Ls xs 1314 [.ref 400000, .ref 0, .ref 222, .ref 249, .int i, .float 0, .float 0] [] (e, m) := by
  obtain ⟨r, m1, m2, e1, e2, R⟩ := U_odds hR (xs (Int32.toNatClampNeg (i + 1))) (xs (Int32.toNatClampNeg (i + 2))) (xs (Int32.toNatClampNeg (i + 3)))
  have c1 : mx_Call G l MX11_odds 197 0 0 [.ref 0, .int (xs (Int32.toNatClampNeg (i + 1))), .int (xs (Int32.toNatClampNeg (i + 2))), .int (xs (Int32.toNatClampNeg (i + 3)))] (e, m) (fun v z => v = some (.int r) ∧ z = (e, m1)) := CX11_odds h11 e1
  have c2 : mx_Call G l MX12_odds 262 0 0 [.ref 222, .int (xs (Int32.toNatClampNeg (i + 1))), .int (xs (Int32.toNatClampNeg (i + 2))), .int (xs (Int32.toNatClampNeg (i + 3)))] (e, m1) (fun v z => v = some (.int r) ∧ z = (e, m2)) := CX12_odds h12 e2
  refine px_aload_n (mx_d tL_law_12 23 rfl) rfl rfl ?_
  refine px_aload_n (mx_d tL_law_12 24 rfl) rfl rfl ?_
  refine px_iload (mx_d tL_law_12 25 rfl) rfl ?_
  refine px_iconst (1) (mx_d tL_law_12 26 rfl) (by decide) ?_
  refine px_iadd (mx_d tL_law_12 27 rfl) ?_
  refine px_sld (mx_d tL_law_12 28 rfl) (fun _ h => h.1) (hin 1 (by decide)) ?_
  refine px_aload_n (mx_d tL_law_12 29 rfl) rfl rfl ?_
  refine px_iload (mx_d tL_law_12 30 rfl) rfl ?_
  refine px_iconst (2) (mx_d tL_law_12 31 rfl) (by decide) ?_
  refine px_iadd (mx_d tL_law_12 32 rfl) ?_
  refine px_sld (mx_d tL_law_12 33 rfl) (fun _ h => h.1) (hin 2 (by decide)) ?_
  refine px_aload_n (mx_d tL_law_12 34 rfl) rfl rfl ?_
  refine px_iload (mx_d tL_law_12 35 rfl) rfl ?_
  refine px_iconst (3) (mx_d tL_law_12 36 rfl) (by decide) ?_
  refine px_iadd (mx_d tL_law_12 37 rfl) ?_
  refine px_sld (mx_d tL_law_12 38 rfl) (fun _ h => h.1) (hin 3 (by decide)) ?_
  refine rx_cV (av := [.int (xs (Int32.toNatClampNeg (i + 1))), .int (xs (Int32.toNatClampNeg (i + 2))), .int (xs (Int32.toNatClampNeg (i + 3)))]) (mx_d tL_law_12 39 rfl) iL_189 rfl vX11_odds ⟨_, rfl, rfl⟩ (ly11_o h11) c1 (by decide) rfl rfl (Nat.le_of_ble_eq_true rfl) ?_
  refine px_aload_n (mx_d tL_law_12 40 rfl) rfl rfl ?_
  refine px_aload_n (mx_d tL_law_12 41 rfl) rfl rfl ?_
  refine px_iload (mx_d tL_law_12 42 rfl) rfl ?_
  refine px_iconst (1) (mx_d tL_law_12 43 rfl) (by decide) ?_
  refine px_iadd (mx_d tL_law_12 44 rfl) ?_
  refine px_sld (mx_d tL_law_12 45 rfl) (fun _ h => h.1) (hin 1 (by decide)) ?_
  refine px_aload_n (mx_d tL_law_12 46 rfl) rfl rfl ?_
  refine px_iload (mx_d tL_law_12 47 rfl) rfl ?_
  refine px_iconst (2) (mx_d tL_law_12 48 rfl) (by decide) ?_
  refine px_iadd (mx_d tL_law_12 49 rfl) ?_
  refine px_sld (mx_d tL_law_12 50 rfl) (fun _ h => h.1) (hin 2 (by decide)) ?_
  refine px_aload_n (mx_d tL_law_12 51 rfl) rfl rfl ?_
  refine px_iload (mx_d tL_law_12 52 rfl) rfl ?_
  refine px_iconst (3) (mx_d tL_law_12 53 rfl) (by decide) ?_
  refine px_iadd (mx_d tL_law_12 54 rfl) ?_
  refine px_sld (mx_d tL_law_12 55 rfl) (fun _ h => h.1) (hin 3 (by decide)) ?_
  refine rx_cV (av := [.int (xs (Int32.toNatClampNeg (i + 1))), .int (xs (Int32.toNatClampNeg (i + 2))), .int (xs (Int32.toNatClampNeg (i + 3)))]) (mx_d tL_law_12 56 rfl) iL_192 rfl vX12_odds ⟨_, rfl, rfl⟩ (ly12_o h12) c2 (by decide) rfl rfl (Nat.le_of_ble_eq_true rfl) ?_
  exact px_icmp_eq (tgt := 1526) (mx_d tL_law_12 57 rfl) (by decide) (fun _ => hnext m2 R) (fun hc => absurd rfl hc)
theorem LW_book (hin : ∀ j, j < 6 → vp_in (i + i3 j) Ls) (h11 : ly11 e 0) (h12 : ly12 e 222) (hR : RR m m) (hnext : ∀ m', RR m' m' → LF G l kc ks Ls xs 1526 [.ref 400000, .ref 0, .ref 222, .ref 249, .int i, .float 0, .float 0] [] (e, m')) : LF G l kc ks Ls xs 1363 [.ref 400000, .ref 0, .ref 222, .ref 249, .int i, .float 0, .float 0] [] (e, m) := by
  obtain ⟨r, m1, m2, e1, e2, R⟩ := U_book hR (xs (Int32.toNatClampNeg (i + 1)))
  have c1 : mx_Call G l MX11_book 197 0 0 [.ref 0, .int (xs (Int32.toNatClampNeg (i + 1)))] (e, m) (fun v z => v = some (.int r) ∧ z = (e, m1)) := CX11_book h11 e1
  have c2 : mx_Call G l MX12_book 260 0 0 [.ref 222, .int (xs (Int32.toNatClampNeg (i + 1)))] (e, m1) (fun v z => v = some (.int r) ∧ z = (e, m2)) := CX12_book h12 e2
  refine px_aload_n (mx_d tL_law_13 0 rfl) rfl rfl ?_
  refine px_aload_n (mx_d tL_law_13 1 rfl) rfl rfl ?_
  refine px_iload (mx_d tL_law_13 2 rfl) rfl ?_
  refine px_iconst (1) (mx_d tL_law_13 3 rfl) (by decide) ?_
  refine px_iadd (mx_d tL_law_13 4 rfl) ?_
  refine px_sld (mx_d tL_law_13 5 rfl) (fun _ h => h.1) (hin 1 (by decide)) ?_
  refine rx_cV (av := [.int (xs (Int32.toNatClampNeg (i + 1)))]) (mx_d tL_law_13 6 rfl) iL_193 rfl vX11_book ⟨_, rfl, rfl⟩ (ly11_o h11) c1 (by decide) rfl rfl (Nat.le_of_ble_eq_true rfl) ?_
  refine px_aload_n (mx_d tL_law_13 7 rfl) rfl rfl ?_
  refine px_aload_n (mx_d tL_law_13 8 rfl) rfl rfl ?_
  refine px_iload (mx_d tL_law_13 9 rfl) rfl ?_
  refine px_iconst (1) (mx_d tL_law_13 10 rfl) (by decide) ?_
  refine px_iadd (mx_d tL_law_13 11 rfl) ?_
  refine px_sld (mx_d tL_law_13 12 rfl) (fun _ h => h.1) (hin 1 (by decide)) ?_
  refine rx_cV (av := [.int (xs (Int32.toNatClampNeg (i + 1)))]) (mx_d tL_law_13 13 rfl) iL_196 rfl vX12_book ⟨_, rfl, rfl⟩ (ly12_o h12) c2 (by decide) rfl rfl (Nat.le_of_ble_eq_true rfl) ?_
  exact px_icmp_eq (tgt := 1526) (mx_d tL_law_13 14 rfl) (by decide) (fun _ => hnext m2 R) (fun hc => absurd rfl hc)
theorem LW_told (hin : ∀ j, j < 6 → vp_in (i + i3 j) Ls) (h11 : ly11 e 0) (h12 : ly12 e 222) (hR : RR m m) (hnext : ∀ m', RR m' m' → LF G l kc ks Ls xs 1526 [.ref 400000, .ref 0, .ref 222, .ref 249, .int i, .float 0, .float 0] [] (e, m')) : LF G l kc ks Ls xs 1388 [.ref 400000, .ref 0, .ref 222, .ref 249, .int i, .float 0, .float 0] [] (e, m) := by
  obtain ⟨r, m2, e1, e2, R⟩ := U_told hR (xs (Int32.toNatClampNeg (i + 1)))
  have c1 : mx_Call G l MX11_told 2 0 0 [.ref 0, .int (xs (Int32.toNatClampNeg (i + 1)))] (e, m) (fun v z => v = some (.int r) ∧ z = (e, m)) := CX11_told h11 e1
  have c2 : mx_Call G l MX12_told 2 0 0 [.ref 222, .int (xs (Int32.toNatClampNeg (i + 1)))] (e, m) (fun v z => v = some (.int r) ∧ z = (e, m2)) := CX12_told h12 e2
  refine px_aload_n (mx_d tL_law_13 17 rfl) rfl rfl ?_
  refine px_aload_n (mx_d tL_law_13 18 rfl) rfl rfl ?_
  refine px_iload (mx_d tL_law_13 19 rfl) rfl ?_
  refine px_iconst (1) (mx_d tL_law_13 20 rfl) (by decide) ?_
  refine px_iadd (mx_d tL_law_13 21 rfl) ?_
  refine px_sld (mx_d tL_law_13 22 rfl) (fun _ h => h.1) (hin 1 (by decide)) ?_
  refine rx_cV (av := [.int (xs (Int32.toNatClampNeg (i + 1)))]) (mx_d tL_law_13 23 rfl) iL_197 rfl vX11_told ⟨_, rfl, rfl⟩ (ly11_o h11) c1 (by decide) rfl rfl (Nat.le_of_ble_eq_true rfl) ?_
  refine px_aload_n (mx_d tL_law_13 24 rfl) rfl rfl ?_
  refine px_aload_n (mx_d tL_law_13 25 rfl) rfl rfl ?_
  refine px_iload (mx_d tL_law_13 26 rfl) rfl ?_
  refine px_iconst (1) (mx_d tL_law_13 27 rfl) (by decide) ?_
  refine px_iadd (mx_d tL_law_13 28 rfl) ?_
  refine px_sld (mx_d tL_law_13 29 rfl) (fun _ h => h.1) (hin 1 (by decide)) ?_
  refine rx_cV (av := [.int (xs (Int32.toNatClampNeg (i + 1)))]) (mx_d tL_law_13 30 rfl) iL_200 rfl vX12_told ⟨_, rfl, rfl⟩ (ly12_o h12) c2 (by decide) rfl rfl (Nat.le_of_ble_eq_true rfl) ?_
  exact px_icmp_eq (tgt := 1526) (mx_d tL_law_13 31 rfl) (by decide) (fun _ => hnext m2 R) (fun hc => absurd rfl hc)
theorem LW_sentence (hin : ∀ j, j < 6 → vp_in (i + i3 j) Ls) (h11 : ly11 e 0) (h12 : ly12 e 222) (hR : RR m m) (hnext : ∀ m', RR m' m' → LF G l kc ks Ls xs 1526 [.ref 400000, .ref 0, .ref 222, .ref 249, .int i, .float 0, .float 0] [] (e, m')) : LF G l kc ks Ls xs 1413 [.ref 400000, .ref 0, .ref 222, .ref 249, .int i, .float 0, .float 0] [] (e, m) := by
  obtain ⟨r, m1, m2, e1, e2, R⟩ := U_sentence hR
  have c1 : mx_Call G l MX11_sentence 326 0 0 [.ref 0] (e, m) (fun v z => v = some (.int r) ∧ z = (e, m1)) := CX11_sentence h11 e1
  have c2 : mx_Call G l MX12_sentence 454 0 0 [.ref 222] (e, m1) (fun v z => v = some (.int r) ∧ z = (e, m2)) := CX12_sentence h12 e2
  refine px_aload_n (mx_d tL_law_13 34 rfl) rfl rfl ?_
  refine rx_cV (av := []) (mx_d tL_law_13 35 rfl) iL_201 rfl vX11_sentence ⟨_, rfl, rfl⟩ (ly11_o h11) c1 (by decide) rfl rfl (Nat.le_of_ble_eq_true rfl) ?_
  refine px_aload_n (mx_d tL_law_13 36 rfl) rfl rfl ?_
  refine rx_cV (av := []) (mx_d tL_law_13 37 rfl) iL_204 rfl vX12_sentence ⟨_, rfl, rfl⟩ (ly12_o h12) c2 (by decide) rfl rfl (Nat.le_of_ble_eq_true rfl) ?_
  exact px_icmp_eq (tgt := 1526) (mx_d tL_law_13 38 rfl) (by decide) (fun _ => hnext m2 R) (fun hc => absurd rfl hc)
theorem LW_said (hin : ∀ j, j < 6 → vp_in (i + i3 j) Ls) (h11 : ly11 e 0) (h12 : ly12 e 222) (hR : RR m m) (hnext : ∀ m', RR m' m' → LF G l kc ks Ls xs 1526 [.ref 400000, .ref 0, .ref 222, .ref 249, .int i, .float 0, .float 0] [] (e, m')) : LF G l kc ks Ls xs 1426 [.ref 400000, .ref 0, .ref 222, .ref 249, .int i, .float 0, .float 0] [] (e, m) := by
  obtain ⟨r, m1, m2, e1, e2, R⟩ := U_said hR (xs (Int32.toNatClampNeg (i + 1)))
  have c1 : mx_Call G l MX11_said 8 0 0 [.ref 0, .int (xs (Int32.toNatClampNeg (i + 1)))] (e, m) (fun v z => v = some (.int r) ∧ z = (e, m1)) := CX11_said h11 e1
  have c2 : mx_Call G l MX12_said 257 0 0 [.ref 222, .int (xs (Int32.toNatClampNeg (i + 1)))] (e, m1) (fun v z => v = some (.int r) ∧ z = (e, m2)) := CX12_said h12 e2
  refine px_aload_n (mx_d tL_law_13 41 rfl) rfl rfl ?_
  refine px_aload_n (mx_d tL_law_13 42 rfl) rfl rfl ?_
  refine px_iload (mx_d tL_law_13 43 rfl) rfl ?_
  refine px_iconst (1) (mx_d tL_law_13 44 rfl) (by decide) ?_
  refine px_iadd (mx_d tL_law_13 45 rfl) ?_
  refine px_sld (mx_d tL_law_13 46 rfl) (fun _ h => h.1) (hin 1 (by decide)) ?_
  refine rx_cV (av := [.int (xs (Int32.toNatClampNeg (i + 1)))]) (mx_d tL_law_13 47 rfl) iL_205 rfl vX11_said ⟨_, rfl, rfl⟩ (ly11_o h11) c1 (by decide) rfl rfl (Nat.le_of_ble_eq_true rfl) ?_
  refine px_aload_n (mx_d tL_law_13 48 rfl) rfl rfl ?_
  refine px_aload_n (mx_d tL_law_13 49 rfl) rfl rfl ?_
  refine px_iload (mx_d tL_law_13 50 rfl) rfl ?_
  refine px_iconst (1) (mx_d tL_law_13 51 rfl) (by decide) ?_
  refine px_iadd (mx_d tL_law_13 52 rfl) ?_
  refine px_sld (mx_d tL_law_13 53 rfl) (fun _ h => h.1) (hin 1 (by decide)) ?_
  refine rx_cV (av := [.int (xs (Int32.toNatClampNeg (i + 1)))]) (mx_d tL_law_13 54 rfl) iL_208 rfl vX12_said ⟨_, rfl, rfl⟩ (ly12_o h12) c2 (by decide) rfl rfl (Nat.le_of_ble_eq_true rfl) ?_
  exact px_icmp_eq (tgt := 1526) (mx_d tL_law_13 55 rfl) (by decide) (fun _ => hnext m2 R) (fun hc => absurd rfl hc)
theorem LW_image (hin : ∀ j, j < 6 → vp_in (i + i3 j) Ls) (h11 : ly11 e 0) (h12 : ly12 e 222) (hR : RR m m) (hnext : ∀ m', RR m' m' → LF G l kc ks Ls xs 1526 [.ref 400000, .ref 0, .ref 222, .ref 249, .int i, .float 0, .float 0] [] (e, m')) : LF G l kc ks Ls xs 1451 [.ref 400000, .ref 0, .ref 222, .ref 249, .int i, .float 0, .float 0] [] (e, m) := by
  obtain ⟨r, m1, m2, e1, e2, R⟩ := U_image hR (xs (Int32.toNatClampNeg (i + 1)))
  have c1 : mx_Call G l MX11_image 4 0 0 [.ref 0, .int (xs (Int32.toNatClampNeg (i + 1)))] (e, m) (fun v z => v = some (.int r) ∧ z = (e, m1)) := CX11_image h11 e1
  have c2 : mx_Call G l MX12_image 2 0 0 [.ref 222, .int (xs (Int32.toNatClampNeg (i + 1)))] (e, m1) (fun v z => v = some (.int r) ∧ z = (e, m2)) := CX12_image h12 e2
  refine px_aload_n (mx_d tL_law_13 58 rfl) rfl rfl ?_
  refine px_aload_n (mx_d tL_law_13 59 rfl) rfl rfl ?_
  refine px_iload (mx_d tL_law_14 0 rfl) rfl ?_
  refine px_iconst (1) (mx_d tL_law_14 1 rfl) (by decide) ?_
  refine px_iadd (mx_d tL_law_14 2 rfl) ?_
  refine px_sld (mx_d tL_law_14 3 rfl) (fun _ h => h.1) (hin 1 (by decide)) ?_
  refine rx_cV (av := [.int (xs (Int32.toNatClampNeg (i + 1)))]) (mx_d tL_law_14 4 rfl) iL_209 rfl vX11_image ⟨_, rfl, rfl⟩ (ly11_o h11) c1 (by decide) rfl rfl (Nat.le_of_ble_eq_true rfl) ?_
  refine px_aload_n (mx_d tL_law_14 5 rfl) rfl rfl ?_
  refine px_aload_n (mx_d tL_law_14 6 rfl) rfl rfl ?_
  refine px_iload (mx_d tL_law_14 7 rfl) rfl ?_
  refine px_iconst (1) (mx_d tL_law_14 8 rfl) (by decide) ?_
  refine px_iadd (mx_d tL_law_14 9 rfl) ?_
  refine px_sld (mx_d tL_law_14 10 rfl) (fun _ h => h.1) (hin 1 (by decide)) ?_
  refine rx_cV (av := [.int (xs (Int32.toNatClampNeg (i + 1)))]) (mx_d tL_law_14 11 rfl) iL_212 rfl vX12_image ⟨_, rfl, rfl⟩ (ly12_o h12) c2 (by decide) rfl rfl (Nat.le_of_ble_eq_true rfl) ?_
  exact px_icmp_eq (tgt := 1526) (mx_d tL_law_14 12 rfl) (by decide) (fun _ => hnext m2 R) (fun hc => absurd rfl hc)
theorem LW_restore (hin : ∀ j, j < 6 → vp_in (i + i3 j) Ls) (h11 : ly11 e 0) (h12 : ly12 e 222) (hR : RR m m) (hnext : ∀ m', RR m' m' → LF G l kc ks Ls xs 1526 [.ref 400000, .ref 0, .ref 222, .ref 249, .int i, .float 0, .float 0] [] (e, m')) : LF G l kc ks Ls xs 1476 [.ref 400000, .ref 0, .ref 222, .ref 249, .int i, .float 0, .float 0] [] (e, m) := by
  obtain ⟨r, m1, m2, e1, e2, R⟩ := U_restore hR (xs (Int32.toNatClampNeg (i + 1)))
  have c1 : mx_Call G l MX11_restore 4 0 0 [.ref 0, .int (xs (Int32.toNatClampNeg (i + 1)))] (e, m) (fun v z => v = some (.int r) ∧ z = (e, m1)) := CX11_restore h11 e1
  have c2 : mx_Call G l MX12_restore 2 0 0 [.ref 222, .int (xs (Int32.toNatClampNeg (i + 1)))] (e, m1) (fun v z => v = some (.int r) ∧ z = (e, m2)) := CX12_restore h12 e2
  refine px_aload_n (mx_d tL_law_14 15 rfl) rfl rfl ?_
  refine px_aload_n (mx_d tL_law_14 16 rfl) rfl rfl ?_
  refine px_iload (mx_d tL_law_14 17 rfl) rfl ?_
  refine px_iconst (1) (mx_d tL_law_14 18 rfl) (by decide) ?_
  refine px_iadd (mx_d tL_law_14 19 rfl) ?_
  refine px_sld (mx_d tL_law_14 20 rfl) (fun _ h => h.1) (hin 1 (by decide)) ?_
  refine rx_cV (av := [.int (xs (Int32.toNatClampNeg (i + 1)))]) (mx_d tL_law_14 21 rfl) iL_213 rfl vX11_restore ⟨_, rfl, rfl⟩ (ly11_o h11) c1 (by decide) rfl rfl (Nat.le_of_ble_eq_true rfl) ?_
  refine px_aload_n (mx_d tL_law_14 22 rfl) rfl rfl ?_
  refine px_aload_n (mx_d tL_law_14 23 rfl) rfl rfl ?_
  refine px_iload (mx_d tL_law_14 24 rfl) rfl ?_
  refine px_iconst (1) (mx_d tL_law_14 25 rfl) (by decide) ?_
  refine px_iadd (mx_d tL_law_14 26 rfl) ?_
  refine px_sld (mx_d tL_law_14 27 rfl) (fun _ h => h.1) (hin 1 (by decide)) ?_
  refine rx_cV (av := [.int (xs (Int32.toNatClampNeg (i + 1)))]) (mx_d tL_law_14 28 rfl) iL_216 rfl vX12_restore ⟨_, rfl, rfl⟩ (ly12_o h12) c2 (by decide) rfl rfl (Nat.le_of_ble_eq_true rfl) ?_
  exact px_icmp_eq (tgt := 1526) (mx_d tL_law_14 29 rfl) (by decide) (fun _ => hnext m2 R) (fun hc => absurd rfl hc)
theorem LW_count (hin : ∀ j, j < 6 → vp_in (i + i3 j) Ls) (h11 : ly11 e 0) (h12 : ly12 e 222) (hR : RR m m) (hnext : ∀ m', RR m' m' → LF G l kc ks Ls xs 1526 [.ref 400000, .ref 0, .ref 222, .ref 249, .int i, .float 0, .float 0] [] (e, m')) : LF G l kc ks Ls xs 1501 [.ref 400000, .ref 0, .ref 222, .ref 249, .int i, .float 0, .float 0] [] (e, m) := by
  obtain ⟨r, m2, e1, e2, R⟩ := U_count hR (xs (Int32.toNatClampNeg (i + 1)))
  have c1 : mx_Call G l MX11_count 2 0 0 [.ref 0, .int (xs (Int32.toNatClampNeg (i + 1)))] (e, m) (fun v z => v = some (.int r) ∧ z = (e, m)) := CX11_count h11 e1
  have c2 : mx_Call G l MX12_count 1 0 0 [.ref 222, .int (xs (Int32.toNatClampNeg (i + 1)))] (e, m) (fun v z => v = some (.int r) ∧ z = (e, m2)) := CX12_count h12 e2
  refine px_aload_n (mx_d tL_law_14 32 rfl) rfl rfl ?_
  refine px_aload_n (mx_d tL_law_14 33 rfl) rfl rfl ?_
  refine px_iload (mx_d tL_law_14 34 rfl) rfl ?_
  refine px_iconst (1) (mx_d tL_law_14 35 rfl) (by decide) ?_
  refine px_iadd (mx_d tL_law_14 36 rfl) ?_
  refine px_sld (mx_d tL_law_14 37 rfl) (fun _ h => h.1) (hin 1 (by decide)) ?_
  refine rx_cV (av := [.int (xs (Int32.toNatClampNeg (i + 1)))]) (mx_d tL_law_14 38 rfl) iL_217 rfl vX11_count ⟨_, rfl, rfl⟩ (ly11_o h11) c1 (by decide) rfl rfl (Nat.le_of_ble_eq_true rfl) ?_
  refine px_aload_n (mx_d tL_law_14 39 rfl) rfl rfl ?_
  refine px_aload_n (mx_d tL_law_14 40 rfl) rfl rfl ?_
  refine px_iload (mx_d tL_law_14 41 rfl) rfl ?_
  refine px_iconst (1) (mx_d tL_law_14 42 rfl) (by decide) ?_
  refine px_iadd (mx_d tL_law_14 43 rfl) ?_
  refine px_sld (mx_d tL_law_14 44 rfl) (fun _ h => h.1) (hin 1 (by decide)) ?_
  refine rx_cV (av := [.int (xs (Int32.toNatClampNeg (i + 1)))]) (mx_d tL_law_14 45 rfl) iL_220 rfl vX12_count ⟨_, rfl, rfl⟩ (ly12_o h12) c2 (by decide) rfl rfl (Nat.le_of_ble_eq_true rfl) ?_
  exact px_icmp_eq (tgt := 1526) (mx_d tL_law_14 46 rfl) (by decide) (fun _ => hnext m2 R) (fun hc => absurd rfl hc)
end LWC
