/-! ===== the law from its entry ===== -/
def e00s : mE := (0, fun _ => (0, 0), fun _ _ => none)
set_option maxRecDepth 20000 in
theorem law_start {G : mG} {l : Launch} {Ls : Nat} {xs : Nat → Int32} (hl : l.stackTraces = false) (hL : Ls ≤ 3072) :
    LF G l 601024 7293034 Ls xs 0 [.ref 400000, .float 0, .float 0, .float 0, .float 0, .float 0, .float 0] [] (e00s, mI0, mJ0) := by
  have hz0 : mx_zr e00s mI0 mJ0 := fun i _ j => ⟨rfl, rfl, rfl⟩
  refine cx_new (fun _ => True) 0 0 (mx_d tL_law_0 0 rfl) kL_8 rfl rfl (by decide) hz0 (by decide) (by decide) (fun e1 n1 s1 r1 z1 i1 => ?_)
  refine px_dup (mx_d tL_law_0 1 rfl) rfl ?_
  have c11 : mx_CallN G l MX11_init 11 221 8999 [.ref 0] (e1, mI0, mJ0) (mx_made ly11 0 222 e1 mI0 mJ0 mI1 mJ1) := K11_init (TW := fun mj => mx_tw (0 + 1 + 2) (mx_sl.getD 0 0) 0 0 0 mj) (fun h1 h2 h3 h4 => K10_init h1 h2 h3 h4) (by decide) (by decide) (by decide) (by decide) (by decide) (by decide) n1 i1 z1
  refine px_callI (av := []) (mx_d tL_law_0 2 rfl) iL_26 rfl rfl rfl mX11_init (fun _ h => h.2.1) c11 (by decide) (by decide) (by decide) rfl rfl (Nat.le_of_ble_eq_true rfl) (fun v z' hp => ?_)
  obtain ⟨rfl, e2, rfl, n2, k2, z2, y2⟩ := hp
  refine px_astore_n (L2 := [.ref 400000, .ref 0, .float 0, .float 0, .float 0, .float 0, .float 0]) (mx_d tL_law_0 3 rfl) rfl (by decide) rfl ?_
  refine cx_new (fun _ => False) 0 222 (mx_d tL_law_0 4 rfl) kL_27 rfl n2 (by decide) z2 (by decide) (by decide) (fun e3 n3 s3 r3 z3 i3' => ?_)
  refine px_dup (mx_d tL_law_0 5 rfl) rfl ?_
  obtain ⟨r, hS, hrz, hR⟩ := R_start
  have c12 : mx_CallN G l MX12_init 2 26 3727 [.ref 222] (e3, mI1, mJ1) (mx_made ly12 222 27 e3 mI1 mJ1 r.1 r.2) := K12_init hS hrz (by decide) n3 i3' z3
  refine px_callI (av := []) (mx_d tL_law_0 6 rfl) iL_29 rfl rfl rfl mX12_init (fun _ h => h.2.1) c12 (by decide) (by decide) (by decide) rfl rfl (Nat.le_of_ble_eq_true rfl) (fun v z' hp => ?_)
  obtain ⟨rfl, e4, rfl, n4, k4, z4, y4⟩ := hp
  refine px_astore_n (L2 := [.ref 400000, .ref 0, .ref 222, .float 0, .float 0, .float 0, .float 0]) (mx_d tL_law_0 7 rfl) rfl (by decide) rfl ?_
  refine px_iconst (1) (mx_d tL_law_0 8 rfl) (by decide) ?_
  refine cx_newJ 1 (fun _ => False) 0 249 (mx_d tL_law_0 9 rfl) w_arrJ rfl (by decide) n4 (by decide) z4 (by decide) (by decide) (fun e5 n5 s5 r5 z5 i5 => ?_)
  refine px_astore_n (L2 := [.ref 400000, .ref 0, .ref 222, .ref 249, .float 0, .float 0, .float 0]) (mx_d tL_law_0 10 rfl) rfl (by decide) rfl ?_
  refine px_iconst (0) (mx_d tL_law_0 11 rfl) (by decide) ?_
  refine px_istore (L2 := [.ref 400000, .ref 0, .ref 222, .ref 249, .int (i3 (6 * 0)), .float 0, .float 0]) (mx_d tL_law_0 12 rfl) (by decide) rfl ?_
  have y3 : ly11 e3 0 := ly11_ext (by rw [n2, n3]; decide) (s3.kp (x := 0) (b := 222) (fun _ _ _ h => h) (by rw [n2]; decide)) y2
  have y5 : ly11 e4 0 := ly11_ext (by rw [n3, n4]; decide) (fun i h1 h2 => k4 i (by omega)) y3
  have y6 : ly11 e5 0 := ly11_ext (by rw [n4, n5]; decide) (s5.kp (x := 0) (b := 222) (fun _ _ _ h => h) (by rw [n4]; decide)) y5
  have y7 : ly12 e5 222 := ly12_ext (by rw [n4, n5]; decide) (s5.kp (x := 222) (b := 27) (fun _ _ _ h => h) (by rw [n4]; decide)) y4
  exact px_less (Nat.le_refl _) (by decide) (by decide) (law_loop hl hL 600 0 e5 r (by omega) (by omega) (by rw [n5]; decide) (by rw [n5]; decide) y6 y7 i5 hR)
