set_option maxRecDepth 20000 in
theorem CX11_pictureAt_no {G : mG} {l : Launch} {e : mE} {a : Nat} {x0 : Int32} {m : mB} (h0 : ly11 e a) (h : x0 < 0 ∨ 2 ≤ x0) : mx_Call G l MX11_pictureAt 1 0 0 [.ref a, .int x0] (e, m) (fun v z => v = some .null ∧ z = (e, m)) := by
  refine mx_entry (L := [.ref a, .int x0]) (by decide +kernel) (Nat.le_of_ble_eq_true rfl) rfl ?_
  refine mx_iload_n (mx_d tX11_pictureAt_0 0 rfl) rfl rfl ?_
  refine mx_if_lt (tgt := 18) (mx_d tX11_pictureAt_0 1 rfl) (by decide) (fun hc => ?_) (fun hc => ?_)
  · refine mx_null (mx_d tX11_pictureAt_0 10 rfl) ?_
    exact mx_areturnN (mx_d tX11_pictureAt_0 11 rfl) rfl ⟨rfl, rfl⟩
  · refine mx_iload_n (mx_d tX11_pictureAt_0 2 rfl) rfl rfl ?_
    refine mx_iconst (2) (mx_d tX11_pictureAt_0 3 rfl) (by decide) ?_
    refine mx_icmp_ge (tgt := 18) (mx_d tX11_pictureAt_0 4 rfl) (by decide) (fun hd => ?_) (fun hd => ?_)
    · refine mx_null (mx_d tX11_pictureAt_0 10 rfl) ?_
      exact mx_areturnN (mx_d tX11_pictureAt_0 11 rfl) rfl ⟨rfl, rfl⟩
    · exact absurd h (fun q => q.elim hc hd)
set_option maxRecDepth 20000 in
theorem CX11_pictureAt_yes {G : mG} {l : Launch} {e : mE} {a : Nat} {x0 : Int32} {m : mB} (h0 : ly11 e a) (h : ¬ x0 < 0) (h2 : ¬ 2 ≤ x0) (hi : mx_inb x0 2 = true) : mx_Call G l MX11_pictureAt 1 0 0 [.ref a, .int x0] (e, m) (fun v z => v = some (.ref (a + 188 + 17 * (Int32.toNatClampNeg x0))) ∧ z = (e, m)) := by
  refine mx_entry (L := [.ref a, .int x0]) (by decide +kernel) (Nat.le_of_ble_eq_true rfl) rfl ?_
  refine mx_iload_n (mx_d tX11_pictureAt_0 0 rfl) rfl rfl ?_
  refine mx_if_lt (tgt := 18) (mx_d tX11_pictureAt_0 1 rfl) (by decide) (fun hc => absurd hc h) (fun hc => ?_)
  refine mx_iload_n (mx_d tX11_pictureAt_0 2 rfl) rfl rfl ?_
  refine mx_iconst (2) (mx_d tX11_pictureAt_0 3 rfl) (by decide) ?_
  refine mx_icmp_ge (tgt := 18) (mx_d tX11_pictureAt_0 4 rfl) (by decide) (fun hd => absurd hd h2) (fun hd => ?_)
  refine mx_aload_n (mx_d tX11_pictureAt_0 5 rfl) rfl rfl ?_
  refine mx_getR (mx_d tX11_pictureAt_0 6 rfl) fX11_88 rfl rfl (ly11_o h0) (ly11_r13 h0) ?_
  refine mx_iload_n (mx_d tX11_pictureAt_0 7 rfl) rfl rfl ?_
  refine mx_aaload (mx_d tX11_pictureAt_0 8 rfl) (ly11_s13 h0) (Or.inr rfl) (mx_inbE hi) (ly11_e13 h0 (Nat.not_le.mp fun q => mx_inbE hi (Or.inr q))).1 ?_
  refine mx_goto (tgt := 19) (mx_d tX11_pictureAt_0 9 rfl) (by decide) ?_
  exact mx_areturn (mx_d tX11_pictureAt_0 11 rfl) rfl ⟨rfl, rfl⟩
def FX11_image (a : Nat) (x0 : Int32) (m : mB) : Option (Int32 × mB) := if x0 < 0 then some (0, m) else if 2 ≤ x0 then some (0, m) else mx_chk (mx_inb x0 2) (Option.bind (FX6_take (a + 188 + 17 * (Int32.toNatClampNeg x0)) (a + 4) (a + 174) m) (fun r1 => some (1, r1)))
set_option maxRecDepth 20000 in
theorem CX11_image {G : mG} {l : Launch} {e : mE} {a : Nat} {x0 : Int32} {m : mB} {r : Int32 × mB} (h0 : ly11 e a) (h : FX11_image a x0 m = some r) : mx_Call G l MX11_image 4 0 0 [.ref a, .int x0] (e, m) (fun v z => v = some (.int r.1) ∧ z = (e, r.2)) := by
  refine mx_entry (L := [.ref a, .int x0, .float 0]) (by decide +kernel) (Nat.le_of_ble_eq_true rfl) rfl ?_
  unfold FX11_image at h
  refine mx_aload_n (mx_d tX11_image_0 0 rfl) rfl rfl ?_
  refine mx_iload_n (mx_d tX11_image_0 1 rfl) rfl rfl ?_
  have hno : (x0 < 0 ∨ 2 ≤ x0) → some ((0 : Int32), m) = some r → mx_Fr G l MX11_image 4 0 0 (fun v z => v = some (.int r.1) ∧ z = (e, r.2)) 2 [.ref a, .int x0, .float 0] [.int x0, .ref a] (e, m) := by
    intro hq h
    obtain rfl := Option.some.inj h
    refine mx_callV (mx_d tX11_image_0 2 rfl) iX11_421 rfl vX11_pictureAt ⟨_, rfl, rfl⟩ (ly11_o h0) (CX11_pictureAt_no h0 hq) (by decide) (Nat.le_refl _) (Nat.le_refl _) rfl rfl (Nat.le_of_ble_eq_true rfl) (fun v z hv => ?_)
    obtain ⟨rfl, rfl⟩ := hv
    refine mx_astore_nN (L2 := [.ref a, .int x0, .null]) (mx_d tX11_image_0 3 rfl) rfl (by decide) rfl ?_
    refine mx_aload_nN (mx_d tX11_image_0 4 rfl) rfl rfl ?_
    refine mx_ifnonnullN (mx_d tX11_image_0 5 rfl) ?_
    refine mx_iconst (0) (mx_d tX11_image_0 6 rfl) (by decide) ?_
    exact mx_zreturn (mx_d tX11_image_0 7 rfl) rfl rfl ⟨rfl, rfl⟩
  by_cases h1 : x0 < 0
  · rw [if_pos h1] at h
    exact hno (Or.inl h1) h
  rw [if_neg h1] at h
  by_cases h2 : 2 ≤ x0
  · rw [if_pos h2] at h
    exact hno (Or.inr h2) h
  rw [if_neg h2] at h
  obtain ⟨hi, h⟩ := mx_chkE h
  obtain ⟨r1, h_r1, h⟩ := Option.bind_eq_some_iff.mp h
  obtain rfl := Option.some.inj h
  have hl := (ly11_e13 h0 (Nat.not_le.mp fun q => mx_inbE hi (Or.inr q))).2
  refine mx_callV (mx_d tX11_image_0 2 rfl) iX11_421 rfl vX11_pictureAt ⟨_, rfl, rfl⟩ (ly11_o h0) (CX11_pictureAt_yes h0 h1 h2 hi) (by decide) (Nat.le_refl _) (Nat.le_refl _) rfl rfl (Nat.le_of_ble_eq_true rfl) (fun v z hv => ?_)
  obtain ⟨rfl, rfl⟩ := hv
  refine mx_astore_n (L2 := [.ref a, .int x0, .ref (a + 188 + 17 * (Int32.toNatClampNeg x0))]) (mx_d tX11_image_0 3 rfl) rfl (by decide) rfl ?_
  refine mx_aload_n (mx_d tX11_image_0 4 rfl) rfl rfl ?_
  refine mx_ifnonnull (tgt := 12) (mx_d tX11_image_0 5 rfl) (by decide) ?_
  refine mx_aload_n (mx_d tX11_image_0 8 rfl) rfl rfl ?_
  refine mx_aload_n (mx_d tX11_image_0 9 rfl) rfl rfl ?_
  refine mx_getR (mx_d tX11_image_0 10 rfl) fX11_19 rfl rfl (ly11_o h0) (ly11_r1 h0) ?_
  refine mx_aload_n (mx_d tX11_image_0 11 rfl) rfl rfl ?_
  refine mx_getR (mx_d tX11_image_0 12 rfl) fX11_79 rfl rfl (ly11_o h0) (ly11_r11 h0) ?_
  refine mx_cVv (mx_d tX11_image_0 13 rfl) iX11_425 rfl vX6_take ⟨_, rfl, rfl⟩ (ly6_o hl) (CX6_take hl (ly11_s1 h0) (ly11_s11 h0) h_r1) (by decide) rfl rfl (Nat.le_of_ble_eq_true rfl) ?_
  refine mx_iconst (1) (mx_d tX11_image_0 14 rfl) (by decide) ?_
  exact mx_zreturn (mx_d tX11_image_0 15 rfl) rfl rfl ⟨rfl, rfl⟩
def FX11_restore (a : Nat) (x0 : Int32) (m : mB) : Option (Int32 × mB) := if x0 < 0 then some (0, m) else if 2 ≤ x0 then some (0, m) else mx_chk (mx_inb x0 2) (Option.bind (FX6_giveBack (a + 188 + 17 * (Int32.toNatClampNeg x0)) (a + 4) (a + 174) m) (fun r1 => if r1.1 = 0 then some (0, r1.2) else Option.bind (FX3_forget (a + 68) r1.2) (fun r2 => some (1, r2))))
set_option maxRecDepth 20000 in
theorem CX11_restore {G : mG} {l : Launch} {e : mE} {a : Nat} {x0 : Int32} {m : mB} {r : Int32 × mB} (h0 : ly11 e a) (h : FX11_restore a x0 m = some r) : mx_Call G l MX11_restore 4 0 0 [.ref a, .int x0] (e, m) (fun v z => v = some (.int r.1) ∧ z = (e, r.2)) := by
  refine mx_entry (L := [.ref a, .int x0, .float 0]) (by decide +kernel) (Nat.le_of_ble_eq_true rfl) rfl ?_
  unfold FX11_restore at h
  refine mx_aload_n (mx_d tX11_restore_0 0 rfl) rfl rfl ?_
  refine mx_iload_n (mx_d tX11_restore_0 1 rfl) rfl rfl ?_
  have hno : (x0 < 0 ∨ 2 ≤ x0) → some ((0 : Int32), m) = some r → mx_Fr G l MX11_restore 4 0 0 (fun v z => v = some (.int r.1) ∧ z = (e, r.2)) 2 [.ref a, .int x0, .float 0] [.int x0, .ref a] (e, m) := by
    intro hq h
    obtain rfl := Option.some.inj h
    refine mx_callV (mx_d tX11_restore_0 2 rfl) iX11_421 rfl vX11_pictureAt ⟨_, rfl, rfl⟩ (ly11_o h0) (CX11_pictureAt_no h0 hq) (by decide) (Nat.le_refl _) (Nat.le_refl _) rfl rfl (Nat.le_of_ble_eq_true rfl) (fun v z hv => ?_)
    obtain ⟨rfl, rfl⟩ := hv
    refine mx_astore_nN (L2 := [.ref a, .int x0, .null]) (mx_d tX11_restore_0 3 rfl) rfl (by decide) rfl ?_
    refine mx_aload_nN (mx_d tX11_restore_0 4 rfl) rfl rfl ?_
    refine mx_ifnullN (tgt := 25) (mx_d tX11_restore_0 5 rfl) (by decide) ?_
    refine mx_iconst (0) (mx_d tX11_restore_0 13 rfl) (by decide) ?_
    exact mx_zreturn (mx_d tX11_restore_0 14 rfl) rfl rfl ⟨rfl, rfl⟩
  by_cases h1 : x0 < 0
  · rw [if_pos h1] at h
    exact hno (Or.inl h1) h
  rw [if_neg h1] at h
  by_cases h2 : 2 ≤ x0
  · rw [if_pos h2] at h
    exact hno (Or.inr h2) h
  rw [if_neg h2] at h
  obtain ⟨hi, h⟩ := mx_chkE h
  obtain ⟨r1, h_r1, h⟩ := Option.bind_eq_some_iff.mp h
  have hl := (ly11_e13 h0 (Nat.not_le.mp fun q => mx_inbE hi (Or.inr q))).2
  refine mx_callV (mx_d tX11_restore_0 2 rfl) iX11_421 rfl vX11_pictureAt ⟨_, rfl, rfl⟩ (ly11_o h0) (CX11_pictureAt_yes h0 h1 h2 hi) (by decide) (Nat.le_refl _) (Nat.le_refl _) rfl rfl (Nat.le_of_ble_eq_true rfl) (fun v z hv => ?_)
  obtain ⟨rfl, rfl⟩ := hv
  refine mx_astore_n (L2 := [.ref a, .int x0, .ref (a + 188 + 17 * (Int32.toNatClampNeg x0))]) (mx_d tX11_restore_0 3 rfl) rfl (by decide) rfl ?_
  refine mx_aload_n (mx_d tX11_restore_0 4 rfl) rfl rfl ?_
  refine mx_ifnull (mx_d tX11_restore_0 5 rfl) ?_
  refine mx_aload_n (mx_d tX11_restore_0 6 rfl) rfl rfl ?_
  refine mx_aload_n (mx_d tX11_restore_0 7 rfl) rfl rfl ?_
  refine mx_getR (mx_d tX11_restore_0 8 rfl) fX11_19 rfl rfl (ly11_o h0) (ly11_r1 h0) ?_
  refine mx_aload_n (mx_d tX11_restore_0 9 rfl) rfl rfl ?_
  refine mx_getR (mx_d tX11_restore_0 10 rfl) fX11_79 rfl rfl (ly11_o h0) (ly11_r11 h0) ?_
  refine mx_cVi (mx_d tX11_restore_0 11 rfl) iX11_429 rfl vX6_giveBack ⟨_, rfl, rfl⟩ (ly6_o hl) (CX6_giveBack hl (ly11_s1 h0) (ly11_s11 h0) h_r1) (by decide) rfl rfl (Nat.le_of_ble_eq_true rfl) ?_
  refine mx_if_ne (tgt := 27) (mx_d tX11_restore_0 12 rfl) (by decide) (fun hc => ?_) (fun hc => ?_)
  · rw [if_neg hc] at h
    obtain ⟨r2, h_r2, h⟩ := Option.bind_eq_some_iff.mp h
    obtain rfl := Option.some.inj h
    refine mx_aload_n (mx_d tX11_restore_0 15 rfl) rfl rfl ?_
    refine mx_getR (mx_d tX11_restore_0 16 rfl) fX11_65 rfl rfl (ly11_o h0) (ly11_r9 h0) ?_
    refine mx_cVv (mx_d tX11_restore_0 17 rfl) iX11_138 rfl vX3_forget ⟨_, rfl, rfl⟩ (ly3_o (ly11_s9 h0)) (CX3_forget (ly11_s9 h0) h_r2) (by decide) rfl rfl (Nat.le_of_ble_eq_true rfl) ?_
    refine mx_iconst (1) (mx_d tX11_restore_0 18 rfl) (by decide) ?_
    exact mx_zreturn (mx_d tX11_restore_0 19 rfl) rfl rfl ⟨rfl, rfl⟩
  · rw [if_pos hc] at h
    obtain rfl := Option.some.inj h
    refine mx_iconst (0) (mx_d tX11_restore_0 13 rfl) (by decide) ?_
    exact mx_zreturn (mx_d tX11_restore_0 14 rfl) rfl rfl ⟨rfl, rfl⟩
