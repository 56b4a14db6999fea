/-! ===== the law: its loop ===== -/
theorem law_neg : ∀ n, n < 6 → (i3 n - 6 : Int32) < 0 := by decide
theorem law_cmp {Ls k : Nat} (hL : Ls ≤ 3072) (hk : 6 * k ≤ 6000) (h : ¬ (Int32.ofNat Ls - 6 < i3 (6 * k))) : 6 * k + 6 ≤ Ls := by
  have h2 : ¬ (i3 Ls - 6 < i3 (6 * k)) := h
  by_cases q : 6 ≤ Ls
  · rw [i3_subL (by omega), i3_lt (by omega) (by omega)] at h2
    omega
  · have h3 := law_neg Ls (by omega)
    rw [Int32.lt_iff_toInt_lt] at h3 h2
    have h4 : (i3 (6 * k)).toInt = ((6 * k : Nat) : Int) := i3_toInt (by omega)
    have h5 : (0 : Int32).toInt = 0 := rfl
    omega
theorem law_in {Ls k : Nat} (hL : Ls ≤ 3072) (h : 6 * k + 6 ≤ Ls) : ∀ j, j < 6 → vp_in (i3 (6 * k) + i3 j) Ls := by
  intro j hj q
  rw [i3_add] at q
  rcases q with q | q
  · rw [i3_neg (by omega)] at q; exact q
  · rw [i3_toNat (by omega)] at q; omega
theorem law_loop {G : mG} {l : Launch} {Ls : Nat} {xs : Nat → Int32} (hl : l.stackTraces = false) (hL : Ls ≤ 3072) : ∀ (N k : Nat) (e : mE) (m : mB), Ls < 6 * k + 6 + 6 * N → 6 * k ≤ 6000 → e.1 + N < 100000 → 250 ≤ e.1 → ly11 e 0 → ly12 e 222 → mx_is e 249 101 1 → RR m m →
    LF G l N (6 * N) Ls xs 23 [.ref 400000, .ref 0, .ref 222, .ref 249, .int (i3 (6 * k)), .float 0, .float 0] [] (e, m) := by
  intro N
  induction N with
  | zero =>
    intro k e m h1 h2 h3 h4 h11 h12 ho hR
    refine px_iload (mx_d tL_law_0 13 rfl) rfl ?_
    refine px_aload_n (mx_d tL_law_0 14 rfl) rfl rfl ?_
    refine px_sclen (mx_d tL_law_0 15 rfl) (fun _ h => h.1) ?_
    refine px_bipush (6) (mx_d tL_law_0 16 rfl) (by decide) ?_
    refine px_isub (mx_d tL_law_0 17 rfl) ?_
    refine px_icmp_gt (tgt := 1532) (mx_d tL_law_0 18 rfl) (by decide) (fun _ => ?_) (fun hc => ?_)
    · refine px_iconst (1) (mx_d tL_law_14 51 rfl) (by decide) ?_
      exact px_zreturn (mx_d tL_law_14 52 rfl) rfl rfl rfl
    · have := law_cmp hL h2 hc
      omega
  | succ N ih =>
    intro k e m h1 h2 h3 h4 h11 h12 ho hR
    refine px_iload (mx_d tL_law_0 13 rfl) rfl ?_
    refine px_aload_n (mx_d tL_law_0 14 rfl) rfl rfl ?_
    refine px_sclen (mx_d tL_law_0 15 rfl) (fun _ h => h.1) ?_
    refine px_bipush (6) (mx_d tL_law_0 16 rfl) (by decide) ?_
    refine px_isub (mx_d tL_law_0 17 rfl) ?_
    refine px_icmp_gt (tgt := 1532) (mx_d tL_law_0 18 rfl) (by decide) (fun _ => ?_) (fun hc => ?_)
    · refine px_iconst (1) (mx_d tL_law_14 51 rfl) (by decide) ?_
      exact px_zreturn (mx_d tL_law_14 52 rfl) rfl rfl rfl
    have hk := law_cmp hL h2 hc
    have hin := law_in hL hk
    have nx : ∀ e' m', RR m' m' → (e' = e ∨ ∃ n, e.1 ≤ n ∧ n ≤ e.1 + 1 ∧ e' = mx_ej e n) → LF G l N (6 * N) Ls xs 1526 [.ref 400000, .ref 0, .ref 222, .ref 249, .int (i3 (6 * k)), .float 0, .float 0] [] (e', m') := by
      intro e' m' hR' he
      have key : e'.1 + N < 100000 ∧ 250 ≤ e'.1 ∧ ly11 e' 0 ∧ ly12 e' 222 ∧ mx_is e' 249 101 1 := by
        rcases he with rfl | ⟨n, q1, q2, rfl⟩
        · exact ⟨by omega, h4, h11, h12, ho⟩
        · have q3 : (mx_ej e n).1 = n := rfl
          exact ⟨by rw [q3]; omega, by rw [q3]; omega, ly11_ej q1 (by omega) h11, ly12_ej q1 h12, mx_is_ext ho q1 (if_pos (by omega))⟩
      obtain ⟨k1, k2, k3, k4, k5⟩ := key
      refine px_iinc (i3 (6 * (k + 1))) (L2 := [.ref 400000, .ref 0, .ref 222, .ref 249, .int (i3 (6 * (k + 1))), .float 0, .float 0]) (mx_d tL_law_14 49 rfl) rfl (by show i3 (6 * k) + i3 6 = _; rw [i3_add]; rfl) (by decide) rfl ?_
      refine px_goto (tgt := 23) (mx_d tL_law_14 50 rfl) (by decide) ?_
      exact ih (k + 1) e' m' (by omega) (by omega) k1 k2 k3 k4 k5 hR'
    have nx1 : ∀ m', RR m' m' → LF G l (N + 1) (6 * (N + 1)) Ls xs 1526 [.ref 400000, .ref 0, .ref 222, .ref 249, .int (i3 (6 * k)), .float 0, .float 0] [] (e, m') := fun m' h => px_less (Nat.le_refl _) (by omega) (by omega) (nx e m' h (Or.inl rfl))
    have nx2 : ∀ e' m', RR m' m' → (e' = e ∨ ∃ n, e.1 ≤ n ∧ n ≤ e.1 + 1 ∧ e' = mx_ej e n) → LF G l (N + 1 - 1) (6 * (N + 1) - 6) Ls xs 1526 [.ref 400000, .ref 0, .ref 222, .ref 249, .int (i3 (6 * k)), .float 0, .float 0] [] (e', m') := fun e' m' h he => px_less (Nat.le_refl _) (by omega) (by omega) (nx e' m' h he)
    refine px_aload_n (mx_d tL_law_0 19 rfl) rfl rfl ?_
    refine px_iload (mx_d tL_law_0 20 rfl) rfl ?_
    refine px_sld (mx_d tL_law_0 21 rfl) (fun _ h => h.1) (by have := hin 0 (by decide); rw [i3_add] at this; exact this) ?_
    refine px_bipush (63) (mx_d tL_law_0 22 rfl) (by decide) ?_
    refine px_iand (mx_d tL_law_0 23 rfl) ?_
    generalize xs (Int32.toNatClampNeg (i3 (6 * k))) &&& 63 = v
    rcases i3_cases v 46 (by omega) with ⟨j, hj, rfl⟩ | ⟨hout, -⟩
    · rcases (show j = 0 ∨ j = 1 ∨ j = 2 ∨ j = 3 ∨ j = 4 ∨ j = 5 ∨ j = 6 ∨ j = 7 ∨ j = 8 ∨ j = 9 ∨ j = 10 ∨ j = 11 ∨ j = 12 ∨ j = 13 ∨ j = 14 ∨ j = 15 ∨ j = 16 ∨ j = 17 ∨ j = 18 ∨ j = 19 ∨ j = 20 ∨ j = 21 ∨ j = 22 ∨ j = 23 ∨ j = 24 ∨ j = 25 ∨ j = 26 ∨ j = 27 ∨ j = 28 ∨ j = 29 ∨ j = 30 ∨ j = 31 ∨ j = 32 ∨ j = 33 ∨ j = 34 ∨ j = 35 ∨ j = 36 ∨ j = 37 ∨ j = 38 ∨ j = 39 ∨ j = 40 ∨ j = 41 ∨ j = 42 ∨ j = 43 ∨ j = 44 ∨ j = 45 by omega) with rfl | rfl | rfl | rfl | rfl | rfl | rfl | rfl | rfl | rfl | rfl | rfl | rfl | rfl | rfl | rfl | rfl | rfl | rfl | rfl | rfl | rfl | rfl | rfl | rfl | rfl | rfl | rfl | rfl | rfl | rfl | rfl | rfl | rfl | rfl | rfl | rfl | rfl | rfl | rfl | rfl | rfl | rfl | rfl | rfl | rfl
      · exact px_tableIn (tgt := 240) (mx_d tL_law_0 24 rfl) (by decide) (by decide) (by rfl) (by decide) (LW_feed hin h11 h12 hR nx1)
      · exact px_tableIn (tgt := 313) (mx_d tL_law_0 24 rfl) (by decide) (by decide) (by rfl) (by decide) (LW_end hin h11 h12 hR nx1)
      · exact px_tableIn (tgt := 338) (mx_d tL_law_0 24 rfl) (by decide) (by decide) (by rfl) (by decide) (LW_network hin h11 h12 hR nx1)
      · exact px_tableIn (tgt := 351) (mx_d tL_law_0 24 rfl) (by decide) (by decide) (by rfl) (by decide) (LW_fault hin h11 h12 hR nx1)
      · exact px_tableIn (tgt := 364) (mx_d tL_law_0 24 rfl) (by decide) (by decide) (by rfl) (by decide) (LW_point hl hin h11 h12 ho (by omega) (by omega) (by omega) hR nx2)
      · exact px_tableIn (tgt := 432) (mx_d tL_law_0 24 rfl) (by decide) (by decide) (by rfl) (by decide) (LW_link hin h11 h12 hR nx1)
      · exact px_tableIn (tgt := 469) (mx_d tL_law_0 24 rfl) (by decide) (by decide) (by rfl) (by decide) (LW_slack hl hin h11 h12 ho (by omega) (by omega) (by omega) hR nx2)
      · exact px_tableIn (tgt := 525) (mx_d tL_law_0 24 rfl) (by decide) (by decide) (by rfl) (by decide) (LW_odd hin h11 h12 hR nx1)
      · exact px_tableIn (tgt := 562) (mx_d tL_law_0 24 rfl) (by decide) (by decide) (by rfl) (by decide) (LW_now hin h11 h12 hR nx1)
      · exact px_tableIn (tgt := 587) (mx_d tL_law_0 24 rfl) (by decide) (by decide) (by rfl) (by decide) (LW_pair hin h11 h12 hR nx1)
      · exact px_tableIn (tgt := 624) (mx_d tL_law_0 24 rfl) (by decide) (by decide) (by rfl) (by decide) (LW_part hin h11 h12 hR nx1)
      · exact px_tableIn (tgt := 649) (mx_d tL_law_0 24 rfl) (by decide) (by decide) (by rfl) (by decide) (LW_weigh hin h11 h12 hR nx1)
      · exact px_tableIn (tgt := 698) (mx_d tL_law_0 24 rfl) (by decide) (by decide) (by rfl) (by decide) (LW_price hin h11 h12 hR nx1)
      · exact px_tableIn (tgt := 735) (mx_d tL_law_0 24 rfl) (by decide) (by decide) (by rfl) (by decide) (LW_crown hin h11 h12 hR nx1)
      · exact px_tableIn (tgt := 772) (mx_d tL_law_0 24 rfl) (by decide) (by decide) (by rfl) (by decide) (LW_open hin h11 h12 hR nx1)
      · exact px_tableIn (tgt := 797) (mx_d tL_law_0 24 rfl) (by decide) (by decide) (by rfl) (by decide) (LW_grow hin h11 h12 hR nx1)
      · exact px_tableIn (tgt := 822) (mx_d tL_law_0 24 rfl) (by decide) (by decide) (by rfl) (by decide) (LW_growAt hin h11 h12 hR nx1)
      · exact px_tableIn (tgt := 847) (mx_d tL_law_0 24 rfl) (by decide) (by decide) (by rfl) (by decide) (LW_turn hin h11 h12 hR nx1)
      · exact px_tableIn (tgt := 860) (mx_d tL_law_0 24 rfl) (by decide) (by decide) (by rfl) (by decide) (LW_flower hin h11 h12 hR nx1)
      · exact px_tableIn (tgt := 885) (mx_d tL_law_0 24 rfl) (by decide) (by decide) (by rfl) (by decide) (LW_flowerAt hin h11 h12 hR nx1)
      · exact px_tableIn (tgt := 910) (mx_d tL_law_0 24 rfl) (by decide) (by decide) (by rfl) (by decide) (LW_shrink hin h11 h12 hR nx1)
      · exact px_tableIn (tgt := 923) (mx_d tL_law_0 24 rfl) (by decide) (by decide) (by rfl) (by decide) (LW_undo hin h11 h12 hR nx1)
      · exact px_tableIn (tgt := 936) (mx_d tL_law_0 24 rfl) (by decide) (by decide) (by rfl) (by decide) (LW_proof hin h11 h12 hR nx1)
      · exact px_tableIn (tgt := 949) (mx_d tL_law_0 24 rfl) (by decide) (by decide) (by rfl) (by decide) (LW_proofAt hin h11 h12 hR nx1)
      · exact px_tableIn (tgt := 962) (mx_d tL_law_0 24 rfl) (by decide) (by decide) (by rfl) (by decide) (LW_proofBy hl hin h11 h12 ho (by omega) (by omega) (by omega) hR nx2)
      · exact px_tableIn (tgt := 1006) (mx_d tL_law_0 24 rfl) (by decide) (by decide) (by rfl) (by decide) (LW_room hin h11 h12 hR nx1)
      · exact px_tableIn (tgt := 1031) (mx_d tL_law_0 24 rfl) (by decide) (by decide) (by rfl) (by decide) (LW_best hin h11 h12 hR nx1)
      · exact px_tableIn (tgt := 1044) (mx_d tL_law_0 24 rfl) (by decide) (by decide) (by rfl) (by decide) (LW_bestOf hin h11 h12 hR nx1)
      · exact px_tableIn (tgt := 1069) (mx_d tL_law_0 24 rfl) (by decide) (by decide) (by rfl) (by decide) (LW_next hin h11 h12 hR nx1)
      · exact px_tableIn (tgt := 1082) (mx_d tL_law_0 24 rfl) (by decide) (by decide) (by rfl) (by decide) (LW_heavy hin h11 h12 hR nx1)
      · exact px_tableIn (tgt := 1107) (mx_d tL_law_0 24 rfl) (by decide) (by decide) (by rfl) (by decide) (LW_ways hin h11 h12 hR nx1)
      · exact px_tableIn (tgt := 1132) (mx_d tL_law_0 24 rfl) (by decide) (by decide) (by rfl) (by decide) (LW_gain hin h11 h12 hR nx1)
      · exact px_tableIn (tgt := 1145) (mx_d tL_law_0 24 rfl) (by decide) (by decide) (by rfl) (by decide) (LW_who hin h11 h12 hR nx1)
      · exact px_tableIn (tgt := 1158) (mx_d tL_law_0 24 rfl) (by decide) (by decide) (by rfl) (by decide) (LW_ask hin h11 h12 hR nx1)
      · exact px_tableIn (tgt := 1171) (mx_d tL_law_0 24 rfl) (by decide) (by decide) (by rfl) (by decide) (LW_mean hl hin h11 h12 ho (by omega) (by omega) (by omega) hR nx2)
      · exact px_tableIn (tgt := 1227) (mx_d tL_law_0 24 rfl) (by decide) (by decide) (by rfl) (by decide) (LW_tag hin h11 h12 hR nx1)
      · exact px_tableIn (tgt := 1252) (mx_d tL_law_0 24 rfl) (by decide) (by decide) (by rfl) (by decide) (LW_byteAt hin h11 h12 hR nx1)
      · exact px_tableIn (tgt := 1277) (mx_d tL_law_0 24 rfl) (by decide) (by decide) (by rfl) (by decide) (LW_drawn hin h11 h12 hR nx1)
      · exact px_tableIn (tgt := 1314) (mx_d tL_law_0 24 rfl) (by decide) (by decide) (by rfl) (by decide) (LW_odds hin h11 h12 hR nx1)
      · exact px_tableIn (tgt := 1363) (mx_d tL_law_0 24 rfl) (by decide) (by decide) (by rfl) (by decide) (LW_book hin h11 h12 hR nx1)
      · exact px_tableIn (tgt := 1388) (mx_d tL_law_0 24 rfl) (by decide) (by decide) (by rfl) (by decide) (LW_told hin h11 h12 hR nx1)
      · exact px_tableIn (tgt := 1413) (mx_d tL_law_0 24 rfl) (by decide) (by decide) (by rfl) (by decide) (LW_sentence hin h11 h12 hR nx1)
      · exact px_tableIn (tgt := 1426) (mx_d tL_law_0 24 rfl) (by decide) (by decide) (by rfl) (by decide) (LW_said hin h11 h12 hR nx1)
      · exact px_tableIn (tgt := 1451) (mx_d tL_law_0 24 rfl) (by decide) (by decide) (by rfl) (by decide) (LW_image hin h11 h12 hR nx1)
      · exact px_tableIn (tgt := 1476) (mx_d tL_law_0 24 rfl) (by decide) (by decide) (by rfl) (by decide) (LW_restore hin h11 h12 hR nx1)
      · exact px_tableIn (tgt := 1501) (mx_d tL_law_0 24 rfl) (by decide) (by decide) (by rfl) (by decide) (LW_count hin h11 h12 hR nx1)
    · refine px_tableOut (tgt := 1526) (mx_d tL_law_0 24 rfl) ?_ (by decide) (nx1 m hR)
      rcases hout with h | h
      · left; rw [Int32.lt_iff_toInt_lt] at h; exact h
      · right; rw [Int32.le_iff_toInt_le] at h
        have h5 : (i3 46).toInt = 46 := rfl
        omega
