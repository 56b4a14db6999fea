theorem mx_is_ext {e e' : mE} {i c n : Nat} (h : mx_is e i c n) (hn : e.1 ≤ e'.1) (hs : e'.2.1 i = e.2.1 i) : mx_is e' i c n := ⟨Nat.lt_of_lt_of_le h.1 hn, hs.trans h.2⟩
/-- e' has all that e has in the cells from a on, b of them -/
def mx_kp (e e' : mE) (a b : Nat) : Prop := ∀ i, a ≤ i → i < a + b → e'.2.1 i = e.2.1 i ∧ ∀ j, e'.2.2 i j = e.2.2 i j
theorem ly7_ext {e e' : mE} {a : Nat} (hn : e.1 ≤ e'.1) (hc : mx_kp e e' a 2) (h : ly7 e a) : ly7 e' a := ⟨mx_is_ext (ly7_o h) hn (hc a (Nat.le_refl _) (by omega)).1, ⟨((hc a (Nat.le_refl _) (by omega)).2 0).trans (ly7_r0 h), mx_is_ext (ly7_s0 h) hn (hc (a + 1) (by omega) (by omega)).1⟩⟩
theorem ly4_ext {e e' : mE} {a : Nat} (hn : e.1 ≤ e'.1) (hc : mx_kp e e' a 11) (h : ly4 e a) : ly4 e' a := ⟨mx_is_ext (ly4_o h) hn (hc a (Nat.le_refl _) (by omega)).1, ⟨((hc a (Nat.le_refl _) (by omega)).2 5).trans (ly4_r5 h), mx_is_ext (ly4_s5 h) hn (hc (a + 1) (by omega) (by omega)).1⟩, ⟨((hc a (Nat.le_refl _) (by omega)).2 6).trans (ly4_r6 h), mx_is_ext (ly4_s6 h) hn (hc (a + 2) (by omega) (by omega)).1⟩, ⟨((hc a (Nat.le_refl _) (by omega)).2 7).trans (ly4_r7 h), mx_is_ext (ly4_s7 h) hn (hc (a + 3) (by omega) (by omega)).1⟩, ⟨((hc a (Nat.le_refl _) (by omega)).2 8).trans (ly4_r8 h), mx_is_ext (ly4_s8 h) hn (hc (a + 4) (by omega) (by omega)).1⟩, ⟨((hc a (Nat.le_refl _) (by omega)).2 9).trans (ly4_r9 h), mx_is_ext (ly4_s9 h) hn (hc (a + 5) (by omega) (by omega)).1⟩, ⟨((hc a (Nat.le_refl _) (by omega)).2 10).trans (ly4_r10 h), mx_is_ext (ly4_s10 h) hn (hc (a + 6) (by omega) (by omega)).1⟩, ⟨((hc a (Nat.le_refl _) (by omega)).2 11).trans (ly4_r11 h), mx_is_ext (ly4_s11 h) hn (hc (a + 7) (by omega) (by omega)).1⟩, ⟨((hc a (Nat.le_refl _) (by omega)).2 12).trans (ly4_r12 h), mx_is_ext (ly4_s12 h) hn (hc (a + 8) (by omega) (by omega)).1⟩, ⟨((hc a (Nat.le_refl _) (by omega)).2 13).trans (ly4_r13 h), mx_is_ext (ly4_s13 h) hn (hc (a + 9) (by omega) (by omega)).1⟩, ⟨((hc a (Nat.le_refl _) (by omega)).2 14).trans (ly4_r14 h), mx_is_ext (ly4_s14 h) hn (hc (a + 10) (by omega) (by omega)).1⟩⟩
theorem ly10_ext {e e' : mE} {a : Nat} (hn : e.1 ≤ e'.1) (hc : mx_kp e e' a 3) (h : ly10 e a) : ly10 e' a := ⟨mx_is_ext (ly10_o h) hn (hc a (Nat.le_refl _) (by omega)).1, ⟨((hc a (Nat.le_refl _) (by omega)).2 0).trans (ly10_r0 h), mx_is_ext (ly10_s0 h) hn (hc (a + 1) (by omega) (by omega)).1⟩, ⟨((hc a (Nat.le_refl _) (by omega)).2 1).trans (ly10_r1 h), mx_is_ext (ly10_s1 h) hn (hc (a + 2) (by omega) (by omega)).1⟩⟩
theorem ly5_ext {e e' : mE} {a : Nat} (hn : e.1 ≤ e'.1) (hc : mx_kp e e' a 12) (h : ly5 e a) : ly5 e' a := ⟨mx_is_ext (ly5_o h) hn (hc a (Nat.le_refl _) (by omega)).1, ⟨((hc a (Nat.le_refl _) (by omega)).2 0).trans (ly5_r0 h), ly4_ext hn (fun i h1 h2 => hc i (by omega) (by omega)) (ly5_s0 h)⟩⟩
theorem ly9_ext {e e' : mE} {a : Nat} (hn : e.1 ≤ e'.1) (hc : mx_kp e e' a 3) (h : ly9 e a) : ly9 e' a := ⟨mx_is_ext (ly9_o h) hn (hc a (Nat.le_refl _) (by omega)).1, ⟨((hc a (Nat.le_refl _) (by omega)).2 0).trans (ly9_r0 h), ly7_ext hn (fun i h1 h2 => hc i (by omega) (by omega)) (ly9_s0 h)⟩⟩
theorem ly2_ext {e e' : mE} {a : Nat} (hn : e.1 ≤ e'.1) (hc : mx_kp e e' a 21) (h : ly2 e a) : ly2 e' a := ⟨mx_is_ext (ly2_o h) hn (hc a (Nat.le_refl _) (by omega)).1, ⟨((hc a (Nat.le_refl _) (by omega)).2 0).trans (ly2_r0 h), ly4_ext hn (fun i h1 h2 => hc i (by omega) (by omega)) (ly2_s0 h)⟩, ⟨((hc a (Nat.le_refl _) (by omega)).2 4).trans (ly2_r4 h), mx_is_ext (ly2_s4 h) hn (hc (a + 12) (by omega) (by omega)).1⟩, ⟨((hc a (Nat.le_refl _) (by omega)).2 6).trans (ly2_r6 h), mx_is_ext (ly2_s6 h) hn (hc (a + 13) (by omega) (by omega)).1⟩, ⟨((hc a (Nat.le_refl _) (by omega)).2 7).trans (ly2_r7 h), mx_is_ext (ly2_s7 h) hn (hc (a + 14) (by omega) (by omega)).1⟩, ⟨((hc a (Nat.le_refl _) (by omega)).2 8).trans (ly2_r8 h), mx_is_ext (ly2_s8 h) hn (hc (a + 15) (by omega) (by omega)).1⟩, ⟨((hc a (Nat.le_refl _) (by omega)).2 9).trans (ly2_r9 h), mx_is_ext (ly2_s9 h) hn (hc (a + 16) (by omega) (by omega)).1⟩, ⟨((hc a (Nat.le_refl _) (by omega)).2 10).trans (ly2_r10 h), mx_is_ext (ly2_s10 h) hn (hc (a + 17) (by omega) (by omega)).1⟩, ⟨((hc a (Nat.le_refl _) (by omega)).2 12).trans (ly2_r12 h), mx_is_ext (ly2_s12 h) hn (hc (a + 18) (by omega) (by omega)).1⟩, ⟨((hc a (Nat.le_refl _) (by omega)).2 13).trans (ly2_r13 h), mx_is_ext (ly2_s13 h) hn (hc (a + 19) (by omega) (by omega)).1⟩, ⟨((hc a (Nat.le_refl _) (by omega)).2 14).trans (ly2_r14 h), mx_is_ext (ly2_s14 h) hn (hc (a + 20) (by omega) (by omega)).1⟩⟩
theorem ly3_ext {e e' : mE} {a : Nat} (hn : e.1 ≤ e'.1) (hc : mx_kp e e' a 101) (h : ly3 e a) : ly3 e' a := ⟨mx_is_ext (ly3_o h) hn (hc a (Nat.le_refl _) (by omega)).1, ⟨((hc a (Nat.le_refl _) (by omega)).2 0).trans (ly3_r0 h), mx_is_ext (ly3_s0 h) hn (hc (a + 1) (by omega) (by omega)).1, fun i hi => ⟨((hc (a + 1) (by omega) (by omega)).2 i).trans (ly3_e0 h hi).1, ly4_ext hn (fun q h1 h2 => hc q (by omega) (by omega)) (ly3_e0 h hi).2⟩⟩⟩
theorem ly0_ext {e e' : mE} {a : Nat} (hn : e.1 ≤ e'.1) (hc : mx_kp e e' a 5) (h : ly0 e a) : ly0 e' a := ⟨mx_is_ext (ly0_o h) hn (hc a (Nat.le_refl _) (by omega)).1, ⟨((hc a (Nat.le_refl _) (by omega)).2 0).trans (ly0_r0 h), mx_is_ext (ly0_s0 h) hn (hc (a + 1) (by omega) (by omega)).1⟩, ⟨((hc a (Nat.le_refl _) (by omega)).2 1).trans (ly0_r1 h), mx_is_ext (ly0_s1 h) hn (hc (a + 2) (by omega) (by omega)).1⟩, ⟨((hc a (Nat.le_refl _) (by omega)).2 2).trans (ly0_r2 h), mx_is_ext (ly0_s2 h) hn (hc (a + 3) (by omega) (by omega)).1⟩, ⟨((hc a (Nat.le_refl _) (by omega)).2 3).trans (ly0_r3 h), mx_is_ext (ly0_s3 h) hn (hc (a + 4) (by omega) (by omega)).1⟩⟩
theorem ly8_ext {e e' : mE} {a : Nat} (hn : e.1 ≤ e'.1) (hc : mx_kp e e' a 5) (h : ly8 e a) : ly8 e' a := ⟨mx_is_ext (ly8_o h) hn (hc a (Nat.le_refl _) (by omega)).1, ⟨((hc a (Nat.le_refl _) (by omega)).2 0).trans (ly8_r0 h), mx_is_ext (ly8_s0 h) hn (hc (a + 1) (by omega) (by omega)).1⟩, ⟨((hc a (Nat.le_refl _) (by omega)).2 1).trans (ly8_r1 h), mx_is_ext (ly8_s1 h) hn (hc (a + 2) (by omega) (by omega)).1⟩, ⟨((hc a (Nat.le_refl _) (by omega)).2 2).trans (ly8_r2 h), mx_is_ext (ly8_s2 h) hn (hc (a + 3) (by omega) (by omega)).1⟩, ⟨((hc a (Nat.le_refl _) (by omega)).2 3).trans (ly8_r3 h), mx_is_ext (ly8_s3 h) hn (hc (a + 4) (by omega) (by omega)).1⟩⟩
theorem ly1_ext {e e' : mE} {a : Nat} (hn : e.1 ≤ e'.1) (hc : mx_kp e e' a 1) (h : ly1 e a) : ly1 e' a := mx_is_ext (ly1_o h) hn (hc a (Nat.le_refl _) (by omega)).1
theorem ly6_ext {e e' : mE} {a : Nat} (hn : e.1 ≤ e'.1) (hc : mx_kp e e' a 17) (h : ly6 e a) : ly6 e' a := ⟨mx_is_ext (ly6_o h) hn (hc a (Nat.le_refl _) (by omega)).1, ⟨((hc a (Nat.le_refl _) (by omega)).2 0).trans (ly6_r0 h), ly4_ext hn (fun i h1 h2 => hc i (by omega) (by omega)) (ly6_s0 h)⟩, ⟨((hc a (Nat.le_refl _) (by omega)).2 1).trans (ly6_r1 h), ly8_ext hn (fun i h1 h2 => hc i (by omega) (by omega)) (ly6_s1 h)⟩⟩
theorem ly11_ext {e e' : mE} {a : Nat} (hn : e.1 ≤ e'.1) (hc : mx_kp e e' a 222) (h : ly11 e a) : ly11 e' a := ⟨mx_is_ext (ly11_o h) hn (hc a (Nat.le_refl _) (by omega)).1, ⟨((hc a (Nat.le_refl _) (by omega)).2 0).trans (ly11_r0 h), ly10_ext hn (fun i h1 h2 => hc i (by omega) (by omega)) (ly11_s0 h)⟩, ⟨((hc a (Nat.le_refl _) (by omega)).2 1).trans (ly11_r1 h), ly4_ext hn (fun i h1 h2 => hc i (by omega) (by omega)) (ly11_s1 h)⟩, ⟨((hc a (Nat.le_refl _) (by omega)).2 2).trans (ly11_r2 h), ly4_ext hn (fun i h1 h2 => hc i (by omega) (by omega)) (ly11_s2 h)⟩, ⟨((hc a (Nat.le_refl _) (by omega)).2 3).trans (ly11_r3 h), ly5_ext hn (fun i h1 h2 => hc i (by omega) (by omega)) (ly11_s3 h)⟩, ⟨((hc a (Nat.le_refl _) (by omega)).2 4).trans (ly11_r4 h), ly9_ext hn (fun i h1 h2 => hc i (by omega) (by omega)) (ly11_s4 h)⟩, ⟨((hc a (Nat.le_refl _) (by omega)).2 5).trans (ly11_r5 h), ly7_ext hn (fun i h1 h2 => hc i (by omega) (by omega)) (ly11_s5 h)⟩, ⟨((hc a (Nat.le_refl _) (by omega)).2 6).trans (ly11_r6 h), ly7_ext hn (fun i h1 h2 => hc i (by omega) (by omega)) (ly11_s6 h)⟩, ⟨((hc a (Nat.le_refl _) (by omega)).2 7).trans (ly11_r7 h), ly2_ext hn (fun i h1 h2 => hc i (by omega) (by omega)) (ly11_s7 h)⟩, ⟨((hc a (Nat.le_refl _) (by omega)).2 8).trans (ly11_r8 h), ly7_ext hn (fun i h1 h2 => hc i (by omega) (by omega)) (ly11_s8 h)⟩, ⟨((hc a (Nat.le_refl _) (by omega)).2 9).trans (ly11_r9 h), ly3_ext hn (fun i h1 h2 => hc i (by omega) (by omega)) (ly11_s9 h)⟩, ⟨((hc a (Nat.le_refl _) (by omega)).2 10).trans (ly11_r10 h), ly0_ext hn (fun i h1 h2 => hc i (by omega) (by omega)) (ly11_s10 h)⟩, ⟨((hc a (Nat.le_refl _) (by omega)).2 11).trans (ly11_r11 h), ly8_ext hn (fun i h1 h2 => hc i (by omega) (by omega)) (ly11_s11 h)⟩, ⟨((hc a (Nat.le_refl _) (by omega)).2 12).trans (ly11_r12 h), ly8_ext hn (fun i h1 h2 => hc i (by omega) (by omega)) (ly11_s12 h)⟩, ⟨((hc a (Nat.le_refl _) (by omega)).2 13).trans (ly11_r13 h), mx_is_ext (ly11_s13 h) hn (hc (a + 184) (by omega) (by omega)).1, fun i hi => ⟨((hc (a + 184) (by omega) (by omega)).2 i).trans (ly11_e13 h hi).1, ly6_ext hn (fun q h1 h2 => hc q (by omega) (by omega)) (ly11_e13 h hi).2⟩⟩, ⟨((hc a (Nat.le_refl _) (by omega)).2 14).trans (ly11_r14 h), ly1_ext hn (fun i h1 h2 => hc i (by omega) (by omega)) (ly11_s14 h)⟩, ⟨((hc a (Nat.le_refl _) (by omega)).2 15).trans (ly11_r15 h), ly7_ext hn (fun i h1 h2 => hc i (by omega) (by omega)) (ly11_s15 h)⟩⟩
theorem ly12_ext {e e' : mE} {a : Nat} (hn : e.1 ≤ e'.1) (hc : mx_kp e e' a 27) (h : ly12 e a) : ly12 e' a := ⟨mx_is_ext (ly12_o h) hn (hc a (Nat.le_refl _) (by omega)).1, ⟨((hc a (Nat.le_refl _) (by omega)).2 1).trans (ly12_r1 h), mx_is_ext (ly12_s1 h) hn (hc (a + 1) (by omega) (by omega)).1⟩, ⟨((hc a (Nat.le_refl _) (by omega)).2 14).trans (ly12_r14 h), mx_is_ext (ly12_s14 h) hn (hc (a + 2) (by omega) (by omega)).1⟩, ⟨((hc a (Nat.le_refl _) (by omega)).2 15).trans (ly12_r15 h), mx_is_ext (ly12_s15 h) hn (hc (a + 3) (by omega) (by omega)).1⟩, ⟨((hc a (Nat.le_refl _) (by omega)).2 16).trans (ly12_r16 h), mx_is_ext (ly12_s16 h) hn (hc (a + 4) (by omega) (by omega)).1⟩, ⟨((hc a (Nat.le_refl _) (by omega)).2 17).trans (ly12_r17 h), mx_is_ext (ly12_s17 h) hn (hc (a + 5) (by omega) (by omega)).1⟩, ⟨((hc a (Nat.le_refl _) (by omega)).2 18).trans (ly12_r18 h), mx_is_ext (ly12_s18 h) hn (hc (a + 6) (by omega) (by omega)).1⟩, ⟨((hc a (Nat.le_refl _) (by omega)).2 19).trans (ly12_r19 h), mx_is_ext (ly12_s19 h) hn (hc (a + 7) (by omega) (by omega)).1⟩, ⟨((hc a (Nat.le_refl _) (by omega)).2 20).trans (ly12_r20 h), mx_is_ext (ly12_s20 h) hn (hc (a + 8) (by omega) (by omega)).1⟩, ⟨((hc a (Nat.le_refl _) (by omega)).2 21).trans (ly12_r21 h), mx_is_ext (ly12_s21 h) hn (hc (a + 9) (by omega) (by omega)).1⟩, ⟨((hc a (Nat.le_refl _) (by omega)).2 22).trans (ly12_r22 h), mx_is_ext (ly12_s22 h) hn (hc (a + 10) (by omega) (by omega)).1⟩, ⟨((hc a (Nat.le_refl _) (by omega)).2 23).trans (ly12_r23 h), mx_is_ext (ly12_s23 h) hn (hc (a + 11) (by omega) (by omega)).1⟩, ⟨((hc a (Nat.le_refl _) (by omega)).2 24).trans (ly12_r24 h), mx_is_ext (ly12_s24 h) hn (hc (a + 12) (by omega) (by omega)).1⟩, ⟨((hc a (Nat.le_refl _) (by omega)).2 26).trans (ly12_r26 h), mx_is_ext (ly12_s26 h) hn (hc (a + 13) (by omega) (by omega)).1⟩, ⟨((hc a (Nat.le_refl _) (by omega)).2 27).trans (ly12_r27 h), mx_is_ext (ly12_s27 h) hn (hc (a + 14) (by omega) (by omega)).1⟩, ⟨((hc a (Nat.le_refl _) (by omega)).2 28).trans (ly12_r28 h), mx_is_ext (ly12_s28 h) hn (hc (a + 15) (by omega) (by omega)).1⟩, ⟨((hc a (Nat.le_refl _) (by omega)).2 34).trans (ly12_r34 h), mx_is_ext (ly12_s34 h) hn (hc (a + 16) (by omega) (by omega)).1⟩, ⟨((hc a (Nat.le_refl _) (by omega)).2 35).trans (ly12_r35 h), mx_is_ext (ly12_s35 h) hn (hc (a + 17) (by omega) (by omega)).1⟩, ⟨((hc a (Nat.le_refl _) (by omega)).2 36).trans (ly12_r36 h), mx_is_ext (ly12_s36 h) hn (hc (a + 18) (by omega) (by omega)).1⟩, ⟨((hc a (Nat.le_refl _) (by omega)).2 37).trans (ly12_r37 h), mx_is_ext (ly12_s37 h) hn (hc (a + 19) (by omega) (by omega)).1⟩, ⟨((hc a (Nat.le_refl _) (by omega)).2 38).trans (ly12_r38 h), mx_is_ext (ly12_s38 h) hn (hc (a + 20) (by omega) (by omega)).1⟩, ⟨((hc a (Nat.le_refl _) (by omega)).2 39).trans (ly12_r39 h), mx_is_ext (ly12_s39 h) hn (hc (a + 21) (by omega) (by omega)).1⟩, ⟨((hc a (Nat.le_refl _) (by omega)).2 40).trans (ly12_r40 h), mx_is_ext (ly12_s40 h) hn (hc (a + 22) (by omega) (by omega)).1⟩, ⟨((hc a (Nat.le_refl _) (by omega)).2 50).trans (ly12_r50 h), mx_is_ext (ly12_s50 h) hn (hc (a + 23) (by omega) (by omega)).1⟩, ⟨((hc a (Nat.le_refl _) (by omega)).2 53).trans (ly12_r53 h), mx_is_ext (ly12_s53 h) hn (hc (a + 24) (by omega) (by omega)).1⟩, ⟨((hc a (Nat.le_refl _) (by omega)).2 54).trans (ly12_r54 h), mx_is_ext (ly12_s54 h) hn (hc (a + 25) (by omega) (by omega)).1⟩, ⟨((hc a (Nat.le_refl _) (by omega)).2 57).trans (ly12_r57 h), mx_is_ext (ly12_s57 h) hn (hc (a + 26) (by omega) (by omega)).1⟩⟩
/-- all cells from the count on are unwritten -/
def mx_zr (e : mE) (mi : mI) (mj : mJ) : Prop := ∀ i, e.1 ≤ i → ∀ j, mi i j = 0 ∧ mj i j = 0 ∧ e.2.2 i j = none
/-- e' is e with more cells; object a may have got references -/
def mx_st (a : Nat → Prop) (e e' : mE) : Prop := e.1 ≤ e'.1 ∧ (∀ i, i < e.1 → e'.2.1 i = e.2.1 i) ∧ ∀ i, i < e.1 → ¬ a i → ∀ j, e'.2.2 i j = e.2.2 i j
theorem mx_st.rf {a : Nat → Prop} {e : mE} : mx_st a e e := ⟨Nat.le_refl _, fun _ _ => rfl, fun _ _ _ _ => rfl⟩
theorem mx_st.tr {a : Nat → Prop} {e e' e'' : mE} (h : mx_st a e e') (h' : mx_st a e' e'') : mx_st a e e'' :=
  ⟨Nat.le_trans h.1 h'.1, fun i hi => (h'.2.1 i (Nat.lt_of_lt_of_le hi h.1)).trans (h.2.1 i hi), fun i hi hn j => (h'.2.2 i (Nat.lt_of_lt_of_le hi h.1) hn j).trans (h.2.2 i hi hn j)⟩
theorem mx_st.kp {a : Nat → Prop} {b : Nat} {e e' : mE} (h : mx_st a e e') {x : Nat} (hx : ∀ i, x ≤ i → i < x + b → ¬ a i) (hb : x + b ≤ e.1) : mx_kp e e' x b := fun i h1 h2 => ⟨h.2.1 i (by omega), h.2.2 i (by omega) (hx i h1 h2)⟩
theorem mx_lt {a b c : Nat} (h : a + c < 100000) (hb : b ≤ c) : a + b < 100000 := Nat.lt_of_le_of_lt (Nat.add_le_add_left hb a) h
theorem mx_ap {a b : Nat} (h : 0 < b) : a < a + b := Nat.lt_add_of_pos_right h
theorem mx_al2 {a b c : Nat} (h : b < c) : a + b < a + c := Nat.add_lt_add_left h a
theorem mx_st.kp1 {a b : Nat} {e e' : mE} (h : mx_st (fun q => q = a) e e') {x : Nat} (hx : a < x) (hb : e.1 = x + b) : mx_kp e e' x b := h.kp (fun i h1 _ q => by omega) (Nat.le_of_eq hb.symm)
theorem mx_st.kp2 {a b t : Nat} {e e' : mE} (h : mx_st (fun q => q = a ∨ q = a + t) e e') {x : Nat} (hx : a < x) (hx2 : x + b ≤ a + t ∨ a + t < x) (hb : e.1 = x + b) : mx_kp e e' x b := h.kp (fun i h1 h2 q => by omega) (Nat.le_of_eq hb.symm)
theorem mx_x1 {a : Nat} {e e' : mE} (hn : e.1 = a + 1) (h : mx_st (fun q => q = a) e e') : ∀ i, i < a → e'.2.1 i = e.2.1 i ∧ ∀ j, e'.2.2 i j = e.2.2 i j := fun i hi => ⟨h.2.1 i (by omega), h.2.2 i (by omega) (fun q => by omega)⟩
theorem mx_x2 {a t : Nat} {e e' : mE} (hn : e.1 = a + 1) (h : mx_st (fun q => q = a ∨ q = a + t) e e') : ∀ i, i < a → e'.2.1 i = e.2.1 i ∧ ∀ j, e'.2.2 i j = e.2.2 i j := fun i hi => ⟨h.2.1 i (by omega), h.2.2 i (by omega) (fun q => by omega)⟩
theorem mx_st.is {a : Nat → Prop} {i c n : Nat} {e e' : mE} (h : mx_st a e e') (hi : mx_is e i c n) : mx_is e' i c n := mx_is_ext hi h.1 (h.2.1 i hi.1)
/-- what object a refers to, but for one field, is as it was -/
def mx_sa (a f : Nat) (e e' : mE) : Prop := ∀ j, j ≠ f → e'.2.2 a j = e.2.2 a j
section MCT
variable {Y : State → Prop} {G : mG} {l : Launch} {M : mM} {d kc ks : Nat} {Post : Option Value → mS → Prop} {pc : Nat} {L st : List Value} {e : mE} {mi : mI} {mj : mJ}
theorem px_iastoreC {i x : Int32} {a n : Nat} (k : Nat) (hd : decode M.2.2.1 pc = .ok (.iastore, 1)) (ho : mx_is e a 100 n) (hk : i.toNatClampNeg = k) (hin : vp_in i n)
    (kk : mx_FP Y G l M d kc ks Post (pc + 1) L st (e, mx_up mi a k x, mj)) : mx_FP Y G l M d kc ks Post pc L (.int x :: .int i :: .ref a :: st) (e, mi, mj) := px_iastore hd ho hin (by rw [hk]; exact kk)
theorem mx_st_ea {a : Nat → Prop} {c n : Nat} : mx_st a e (mx_ea e c n) := ⟨Nat.le_succ _, fun i hi => if_neg (Nat.ne_of_lt hi), fun _ _ _ _ => rfl⟩
theorem mx_zr_ea {c n : Nat} (h : mx_zr e mi mj) : mx_zr (mx_ea e c n) mi mj := fun i hi j => h i (Nat.le_of_succ_le hi) j
theorem mx_zr_er {a k b : Nat} (ha : a < e.1) (h : mx_zr e mi mj) : mx_zr (mx_er e a k b) mi mj := fun i hi j => ⟨(h i hi j).1, (h i hi j).2.1, by
  show (if i = a ∧ j = k then some b else e.2.2 i j) = none
  have hi' : e.1 ≤ i := hi
  rw [if_neg (fun q => by omega)]
  exact (h i hi j).2.2⟩
theorem mx_st_er {p : Nat → Prop} {a k b : Nat} (hp : p a) : mx_st p e (mx_er e a k b) := ⟨Nat.le_refl _, fun _ _ => rfl, fun i _ hn j => if_neg (fun (q : i = a ∧ j = k) => hn (q.1.symm ▸ hp))⟩
theorem mx_sa_er2 {x a k b : Nat} (h : x ≠ a) : mx_sa x 999 e (mx_er e a k b) := fun j _ => if_neg (fun q => h q.1)
theorem mx_zr_up {a k : Nat} {x : Int32} (ha : a < e.1) (h : mx_zr e mi mj) : mx_zr e (mx_up mi a k x) mj := fun i hi j => ⟨by rw [mx_up_ne _ _ (fun q => by omega)]; exact (h i hi j).1, (h i hi j).2⟩
theorem mx_sa_er {a k b : Nat} : mx_sa a k e (mx_er e a k b) := fun j hj => if_neg (fun q => hj q.2)
theorem mx_er_eq {a k b : Nat} : (mx_er e a k b).2.2 a k = some b := if_pos ⟨rfl, rfl⟩
theorem cx_newI {n : Int32} (N : Nat) (p : Nat → Prop) (a x : Nat) (hd : decode M.2.2.1 pc = .ok (.newarray .int, 2)) (hw : Cond.arrayClass .int ∈ mx_TB) (hn : n = nI N) (hN : N < 100000) (hx : e.1 = x) (hcap : x < 100000) (hz : mx_zr e mi mj) (h1 : 1 ≤ kc) (h2 : N ≤ ks)
    (kk : ∀ e', e'.1 = x + 1 → mx_st p e e' → (∀ i j, e'.2.2 i j = e.2.2 i j) → mx_zr e' mi mj → mx_is e' x 100 N → mx_FP Y G l M d (kc - 1) (ks - N) Post (pc + 2) L (.ref x :: st) (e', mi, mj)) : mx_FP Y G l M d kc ks Post pc L (.int n :: st) (e, mi, mj) := by
  subst hx
  exact px_newI N hd hw hn hN hcap (fun j => (hz _ (Nat.le_refl _) j).1) h1 h2 (kk _ rfl mx_st_ea (fun _ _ => rfl) (mx_zr_ea hz) mx_is_ea)
theorem cx_newJ {n : Int32} (N : Nat) (p : Nat → Prop) (a x : Nat) (hd : decode M.2.2.1 pc = .ok (.newarray .long, 2)) (hw : Cond.arrayClass .long ∈ mx_TB) (hn : n = nI N) (hN : N < 100000) (hx : e.1 = x) (hcap : x < 100000) (hz : mx_zr e mi mj) (h1 : 1 ≤ kc) (h2 : N ≤ ks)
    (kk : ∀ e', e'.1 = x + 1 → mx_st p e e' → (∀ i j, e'.2.2 i j = e.2.2 i j) → mx_zr e' mi mj → mx_is e' x 101 N → mx_FP Y G l M d (kc - 1) (ks - N) Post (pc + 2) L (.ref x :: st) (e', mi, mj)) : mx_FP Y G l M d kc ks Post pc L (.int n :: st) (e, mi, mj) := by
  subst hx
  exact px_newJ N hd hw hn hN hcap (fun j => (hz _ (Nat.le_refl _) j).2.1) h1 h2 (kk _ rfl mx_st_ea (fun _ _ => rfl) (mx_zr_ea hz) mx_is_ea)
theorem cx_newZ {n : Int32} (N : Nat) (p : Nat → Prop) (a x : Nat) (hd : decode M.2.2.1 pc = .ok (.newarray .boolean, 2)) (hw : Cond.arrayClass .boolean ∈ mx_TB) (hn : n = nI N) (hN : N < 100000) (hx : e.1 = x) (hcap : x < 100000) (hz : mx_zr e mi mj) (h1 : 1 ≤ kc) (h2 : N ≤ ks)
    (kk : ∀ e', e'.1 = x + 1 → mx_st p e e' → (∀ i j, e'.2.2 i j = e.2.2 i j) → mx_zr e' mi mj → mx_is e' x 102 N → mx_FP Y G l M d (kc - 1) (ks - N) Post (pc + 2) L (.ref x :: st) (e', mi, mj)) : mx_FP Y G l M d kc ks Post pc L (.int n :: st) (e, mi, mj) := by
  subst hx
  exact px_newZ N hd hw hn hN hcap (fun j => (hz _ (Nat.le_refl _) j).1) h1 h2 (kk _ rfl mx_st_ea (fun _ _ => rfl) (mx_zr_ea hz) mx_is_ea)
theorem cx_new {own : String} {idx c N : Nat} (p : Nat → Prop) (a x : Nat) (hd : decode M.2.2.1 pc = .ok (.new idx, 3)) (hw : mx_cls own idx c N) (hM : M.1 = own) (hx : e.1 = x) (hcap : x < 100000) (hz : mx_zr e mi mj) (h1 : 1 ≤ kc) (h2 : N ≤ ks)
    (kk : ∀ e', e'.1 = x + 1 → mx_st p e e' → (∀ i j, e'.2.2 i j = e.2.2 i j) → mx_zr e' mi mj → mx_is e' x c 0 → mx_FP Y G l M d (kc - 1) (ks - N) Post (pc + 3) L (.ref x :: st) (e', mi, mj)) : mx_FP Y G l M d kc ks Post pc L st (e, mi, mj) := by
  subst hx
  exact px_new hd hw hM hcap (hz _ (Nat.le_refl _)) h1 h2 (kk _ rfl mx_st_ea (fun _ _ => rfl) (mx_zr_ea hz) mx_is_ea)
theorem cx_putR {own : String} {idx c k i n a : Nat} (hd : decode M.2.2.1 pc = .ok (.putfield idx, 3)) (hf : mx_fld own idx c k) (hM : M.1 = own) (hfin : ∃ r : vw_C, vwCl[c]? = some r ∧ (r.2.1 k).2.2.2 = true ∧ (r.2.1 k).1 = own) (hin : M.2.1.name = "<init>") (ht : mx_isR (mx_ty c k) = true) (p : Nat → Prop) (hp : p i) (ho : mx_is e i c n) (hz : mx_zr e mi mj)
    (kk : ∀ e', e'.1 = e.1 → mx_st p e e' → mx_sa i k e e' → mx_zr e' mi mj → e'.2.2 i k = some a → (∀ q, q ≠ i → ∀ j, e'.2.2 q j = e.2.2 q j) → mx_FP Y G l M d kc ks Post (pc + 3) L st (e', mi, mj)) : mx_FP Y G l M d kc ks Post pc L (.ref a :: .ref i :: st) (e, mi, mj) :=
  px_putR hd hf hM hfin hin ht ho (kk _ rfl (mx_st_er hp) mx_sa_er (mx_zr_er ho.1 hz) mx_er_eq (fun q hq j => if_neg (fun w => hq w.1)))
theorem cx_newR {n : Int32} {own C : String} {idx : Nat} (N k : Nat) (p : Nat → Prop) (a x : Nat) (hk : (k = 3 ∧ C = RX4) ∨ (k = 4 ∧ C = RX6)) (hd : decode M.2.2.1 pc = .ok (.anewarray idx, 3)) (hM : M.1 = own) (hw : Cond.classLink own idx C ∈ mx_TB) (hw2 : ∀ s, Y s → va_AO C s) (hn : n = nI N) (hN : N < 100000) (hx : e.1 = x) (hcap : x < 100000) (hz : mx_zr e mi mj) (h1 : 1 ≤ kc) (h2 : N ≤ ks)
    (kk : ∀ e', e'.1 = x + 1 → mx_st p e e' → (∀ i j, e'.2.2 i j = e.2.2 i j) → mx_zr e' mi mj → mx_is e' x (100 + k) N → mx_FP Y G l M d (kc - 1) (ks - N) Post (pc + 3) L (.ref x :: st) (e', mi, mj)) : mx_FP Y G l M d kc ks Post pc L (.int n :: st) (e, mi, mj) := by
  subst hx
  exact px_newR N k hk hd hM hw hw2 hn hN hcap (fun j => (hz _ (Nat.le_refl _) j).2.2) h1 h2 (kk _ rfl mx_st_ea (fun _ _ => rfl) (mx_zr_ea hz) mx_is_ea)
theorem cx_aastore {i : Int32} {a b n k c0 n0 : Nat} {C : String} (p : Nat → Prop) (x t : Nat) (hp : p a) (hxa : x ≠ a) (ht : i.toNatClampNeg = t) (hk : (k = 3 ∧ C = RX4 ∧ c0 = 4) ∨ (k = 4 ∧ C = RX6 ∧ c0 = 6)) (hd : decode M.2.2.1 pc = .ok (.aastore, 1)) (ho : mx_is e a (100 + k) n) (hv : mx_is e b c0 n0) (hin : vp_in i n) (hz : mx_zr e mi mj)
    (kk : ∀ e', e'.1 = e.1 → mx_st p e e' → mx_sa x 999 e e' → mx_zr e' mi mj → mx_sa a t e e' → e'.2.2 a t = some b → mx_FP Y G l M d kc ks Post (pc + 1) L st (e', mi, mj)) : mx_FP Y G l M d kc ks Post pc L (.ref b :: .int i :: .ref a :: st) (e, mi, mj) := by
  subst ht
  exact px_aastore hk hd ho hv hin (kk _ rfl (mx_st_er hp) (mx_sa_er2 hxa) (mx_zr_er ho.1 hz) mx_sa_er mx_er_eq)
end MCT
/-- what a constructor of class-size b at a leaves: more cells, those ahead of a as they were, the layout ly -/
def mx_made (ly : mE → Nat → Prop) (a b : Nat) (e : mE) (mi : mI) (mj : mJ) (mi' : mI) (mj' : mJ) : Option Value → mS → Prop := fun v z => v = none ∧ ∃ e' : mE, z = (e', mi', mj') ∧ e'.1 = a + b ∧ (∀ i, i < a → e'.2.1 i = e.2.1 i ∧ ∀ j, e'.2.2 i j = e.2.2 i j) ∧ mx_zr e' mi' mj' ∧ ly e' a
/-- from before 'new' to behind the constructor -/
theorem mx_made_st {a : Nat → Prop} {x b : Nat} {e0 e e' : mE} (h1 : mx_st a e0 e) (hx : e0.1 = x) (hb : e'.1 = x + b) (h : ∀ i, i < x → e'.2.1 i = e.2.1 i ∧ ∀ j, e'.2.2 i j = e.2.2 i j) : mx_st a e0 e' :=
  ⟨by omega, fun i hi => (h i (by omega)).1.trans (h1.2.1 i hi), fun i hi hn j => ((h i (by omega)).2 j).trans (h1.2.2 i hi hn j)⟩
theorem mx_made_sa {a x f : Nat} {e0 e e' : mE} (h1 : mx_sa a f e0 e) (ha : a < x) (h : ∀ i, i < x → e'.2.1 i = e.2.1 i ∧ ∀ j, e'.2.2 i j = e.2.2 i j) : mx_sa a f e0 e' := fun j hj => ((h a ha).2 j).trans (h1 j hj)
set_option maxRecDepth 20000 in
/-- Row(most) -/
theorem K7_init {G : mG} {l : Launch} (N : Nat) {a : Nat} {e : mE} {mi : mI} {mj : mJ} (hcap : a + 2 < 100000) (hN : N < 1000) (hr : FJ9_max_7cf53 0 (nI N) (mi, mj) = some (nI N)) (hl : mx_rl (a + 1) = N) (hn : e.1 = a + 1) (h0 : mx_is e a 7 0) (hz : mx_zr e mi mj) :
    mx_CallN G l MX7_init 3 1 N [.ref a, .int (nI N)] (e, mi, mj) (mx_made ly7 a 2 e mi mj mi mj) := by
  refine px_entryN (L := [.ref a, .int (nI N)]) (by decide +kernel) (Nat.le_of_ble_eq_true rfl) rfl ?_
  refine px_aload_n (mx_d tX7_init_0 0 rfl) rfl rfl ?_
  refine px_objInit (mx_d tX7_init_0 1 rfl) rfl oX7_3 w_obj1 w_obj2 (by decide) (Nat.le_of_ble_eq_true rfl) ?_
  refine px_aload_n (mx_d tX7_init_0 2 rfl) rfl rfl ?_
  refine px_iconst (0) (mx_d tX7_init_0 3 rfl) (by decide) ?_
  refine px_iload_n (mx_d tX7_init_0 4 rfl) rfl rfl ?_
  refine px_callS (mx_d tX7_init_0 5 rfl) iX7_9 rfl sJ9_max_7cf53 (CJ9_max_7cf53 hr) (by decide) (Nat.zero_le _) (Nat.zero_le _) rfl rfl (Nat.le_of_ble_eq_true rfl) (fun v z hv => ?_)
  obtain ⟨rfl, rfl⟩ := hv
  refine cx_newI (st := [.ref a]) N (fun q => q = a) a (a + 1) (mx_d tX7_init_0 6 rfl) w_arrI rfl (by omega) hn (by omega) hz (by decide) (Nat.le_refl _) (fun e1 n1 x1 y1 z1 s1 => ?_)
  refine cx_putR (mx_d tX7_init_0 7 rfl) fX7_15 rfl ⟨_, rfl, rfl, rfl⟩ rfl rfl (fun q => q = a) rfl (x1.is h0) z1 (fun e2 n2 x2 y2 z2 r2 _ => ?_)
  exact px_return (mx_d tX7_init_0 8 rfl) rfl ⟨rfl, e2, rfl, by omega, fun i hi => ⟨((x1.tr x2).2.1 i (by omega)), (x1.tr x2).2.2 i (by omega) (fun q => by omega)⟩, z2, (x1.tr x2).is h0, r2, hl ▸ x2.is s1⟩
set_option maxRecDepth 20000 in
set_option maxHeartbeats 8000000 in
theorem K4_init {G : mG} {l : Launch} {a : Nat} {e : mE} {mi : mI} {mj : mJ}  (hcap : a + 11 < 100000) (hn : e.1 = a + 1) (h0 : mx_is e a 4 0) (hz : mx_zr e mi mj) :
    mx_CallN G l MX4_init 1 10 242 [.ref a] (e, mi, mj) (mx_made ly4 a 11 e mi mj mi mj) := by
  refine px_entryN (L := [.ref a]) (by decide +kernel) (Nat.le_of_ble_eq_true rfl) rfl ?_
  refine px_aload_n (mx_d tX4_init_0 0 rfl) rfl rfl ?_
  refine px_objInit (mx_d tX4_init_0 1 rfl) rfl oX4_3 w_obj1 w_obj2 (by decide) (Nat.le_of_ble_eq_true rfl) ?_
  refine px_aload_n (mx_d tX4_init_0 2 rfl) rfl rfl ?_
  refine px_bipush (10) (mx_d tX4_init_0 3 rfl) (by decide) ?_
  refine cx_newJ 10 (fun q => q = a) a (a + 1) (mx_d tX4_init_0 4 rfl) w_arrJ (by decide) (by decide) hn (mx_lt hcap (by decide)) hz (by decide) (by decide) (fun e1 n1 x1 y1 z1 s1 => ?_)
  have oo1 := x1.is h0
  have o2 := oo1
  refine cx_putR (mx_d tX4_init_0 5 rfl) fX4_9 rfl ⟨_, rfl, rfl, rfl⟩ rfl rfl (fun q => q = a) rfl o2 z1 (fun e2 n2 x2 y2 z2 r2 v2 => ?_)
  refine px_aload_n (mx_d tX4_init_0 6 rfl) rfl rfl ?_
  refine px_bipush (10) (mx_d tX4_init_0 7 rfl) (by decide) ?_
  refine cx_newI 10 (fun q => q = a) a (a + 2) (mx_d tX4_init_0 8 rfl) w_arrI (by decide) (by decide) (n2.trans n1) (mx_lt hcap (by decide)) z2 (by decide) (by decide) (fun e3 n3 x3 y3 z3 s3 => ?_)
  have oo2 := x2.is oo1
  have oo3 := x3.is oo2
  have o4 := oo3
  refine cx_putR (mx_d tX4_init_0 9 rfl) fX4_15 rfl ⟨_, rfl, rfl, rfl⟩ rfl rfl (fun q => q = a) rfl o4 z3 (fun e4 n4 x4 y4 z4 r4 v4 => ?_)
  refine px_aload_n (mx_d tX4_init_0 10 rfl) rfl rfl ?_
  refine px_bipush (10) (mx_d tX4_init_0 11 rfl) (by decide) ?_
  refine cx_newI 10 (fun q => q = a) a (a + 3) (mx_d tX4_init_0 12 rfl) w_arrI (by decide) (by decide) (n4.trans n3) (mx_lt hcap (by decide)) z4 (by decide) (by decide) (fun e5 n5 x5 y5 z5 s5 => ?_)
  have oo4 := x4.is oo3
  have oo5 := x5.is oo4
  have o6 := oo5
  refine cx_putR (mx_d tX4_init_0 13 rfl) fX4_19 rfl ⟨_, rfl, rfl, rfl⟩ rfl rfl (fun q => q = a) rfl o6 z5 (fun e6 n6 x6 y6 z6 r6 v6 => ?_)
  refine px_aload_n (mx_d tX4_init_0 14 rfl) rfl rfl ?_
  refine px_bipush (10) (mx_d tX4_init_0 15 rfl) (by decide) ?_
  refine cx_newI 10 (fun q => q = a) a (a + 4) (mx_d tX4_init_0 16 rfl) w_arrI (by decide) (by decide) (n6.trans n5) (mx_lt hcap (by decide)) z6 (by decide) (by decide) (fun e7 n7 x7 y7 z7 s7 => ?_)
  have oo6 := x6.is oo5
  have oo7 := x7.is oo6
  have o8 := oo7
  refine cx_putR (mx_d tX4_init_0 17 rfl) fX4_22 rfl ⟨_, rfl, rfl, rfl⟩ rfl rfl (fun q => q = a) rfl o8 z7 (fun e8 n8 x8 y8 z8 r8 v8 => ?_)
  refine px_aload_n (mx_d tX4_init_0 18 rfl) rfl rfl ?_
  refine px_bipush (30) (mx_d tX4_init_0 19 rfl) (by decide) ?_
  refine cx_newI 30 (fun q => q = a) a (a + 5) (mx_d tX4_init_0 20 rfl) w_arrI (by decide) (by decide) (n8.trans n7) (mx_lt hcap (by decide)) z8 (by decide) (by decide) (fun e9 n9 x9 y9 z9 s9 => ?_)
  have oo8 := x8.is oo7
  have oo9 := x9.is oo8
  have o10 := oo9
  refine cx_putR (mx_d tX4_init_0 21 rfl) fX4_25 rfl ⟨_, rfl, rfl, rfl⟩ rfl rfl (fun q => q = a) rfl o10 z9 (fun e10 n10 x10 y10 z10 r10 v10 => ?_)
  refine px_aload_n (mx_d tX4_init_0 22 rfl) rfl rfl ?_
  refine px_bipush (30) (mx_d tX4_init_0 23 rfl) (by decide) ?_
  refine cx_newI 30 (fun q => q = a) a (a + 6) (mx_d tX4_init_0 24 rfl) w_arrI (by decide) (by decide) (n10.trans n9) (mx_lt hcap (by decide)) z10 (by decide) (by decide) (fun e11 n11 x11 y11 z11 s11 => ?_)
  have oo10 := x10.is oo9
  have oo11 := x11.is oo10
  have o12 := oo11
  refine cx_putR (mx_d tX4_init_0 25 rfl) fX4_28 rfl ⟨_, rfl, rfl, rfl⟩ rfl rfl (fun q => q = a) rfl o12 z11 (fun e12 n12 x12 y12 z12 r12 v12 => ?_)
  refine px_aload_n (mx_d tX4_init_0 26 rfl) rfl rfl ?_
  refine px_bipush (30) (mx_d tX4_init_0 27 rfl) (by decide) ?_
  refine cx_newI 30 (fun q => q = a) a (a + 7) (mx_d tX4_init_0 28 rfl) w_arrI (by decide) (by decide) (n12.trans n11) (mx_lt hcap (by decide)) z12 (by decide) (by decide) (fun e13 n13 x13 y13 z13 s13 => ?_)
  have oo12 := x12.is oo11
  have oo13 := x13.is oo12
  have o14 := oo13
  refine cx_putR (mx_d tX4_init_0 29 rfl) fX4_31 rfl ⟨_, rfl, rfl, rfl⟩ rfl rfl (fun q => q = a) rfl o14 z13 (fun e14 n14 x14 y14 z14 r14 v14 => ?_)
  refine px_aload_n (mx_d tX4_init_0 30 rfl) rfl rfl ?_
  refine px_bipush (100) (mx_d tX4_init_0 31 rfl) (by decide) ?_
  refine cx_newI 100 (fun q => q = a) a (a + 8) (mx_d tX4_init_0 32 rfl) w_arrI (by decide) (by decide) (n14.trans n13) (mx_lt hcap (by decide)) z14 (by decide) (by decide) (fun e15 n15 x15 y15 z15 s15 => ?_)
  have oo14 := x14.is oo13
  have oo15 := x15.is oo14
  have o16 := oo15
  refine cx_putR (mx_d tX4_init_0 33 rfl) fX4_34 rfl ⟨_, rfl, rfl, rfl⟩ rfl rfl (fun q => q = a) rfl o16 z15 (fun e16 n16 x16 y16 z16 r16 v16 => ?_)
  refine px_aload_n (mx_d tX4_init_0 34 rfl) rfl rfl ?_
  refine px_bipush (6) (mx_d tX4_init_0 35 rfl) (by decide) ?_
  refine cx_newI 6 (fun q => q = a) a (a + 9) (mx_d tX4_init_0 36 rfl) w_arrI (by decide) (by decide) (n16.trans n15) (mx_lt hcap (by decide)) z16 (by decide) (by decide) (fun e17 n17 x17 y17 z17 s17 => ?_)
  have oo16 := x16.is oo15
  have oo17 := x17.is oo16
  have o18 := oo17
  refine cx_putR (mx_d tX4_init_0 37 rfl) fX4_37 rfl ⟨_, rfl, rfl, rfl⟩ rfl rfl (fun q => q = a) rfl o18 z17 (fun e18 n18 x18 y18 z18 r18 v18 => ?_)
  refine px_aload_n (mx_d tX4_init_0 38 rfl) rfl rfl ?_
  refine px_bipush (6) (mx_d tX4_init_0 39 rfl) (by decide) ?_
  refine cx_newI 6 (fun q => q = a) a (a + 10) (mx_d tX4_init_0 40 rfl) w_arrI (by decide) (by decide) (n18.trans n17) (mx_lt hcap (by decide)) z18 (by decide) (by decide) (fun e19 n19 x19 y19 z19 s19 => ?_)
  have oo18 := x18.is oo17
  have oo19 := x19.is oo18
  have o20 := oo19
  refine cx_putR (mx_d tX4_init_0 41 rfl) fX4_40 rfl ⟨_, rfl, rfl, rfl⟩ rfl rfl (fun q => q = a) rfl o20 z19 (fun e20 n20 x20 y20 z20 r20 v20 => ?_)
  have X20 := @mx_st.rf (fun q => q = a) e20
  have X19 := x20.tr X20
  have X18 := x19.tr X19
  have X17 := x18.tr X18
  have X16 := x17.tr X17
  have X15 := x16.tr X16
  have X14 := x15.tr X15
  have X13 := x14.tr X14
  have X12 := x13.tr X13
  have X11 := x12.tr X12
  have X10 := x11.tr X11
  have X9 := x10.tr X10
  have X8 := x9.tr X9
  have X7 := x8.tr X8
  have X6 := x7.tr X7
  have X5 := x6.tr X6
  have X4 := x5.tr X5
  have X3 := x4.tr X4
  have X2 := x3.tr X3
  have X1 := x2.tr X2
  have X0 := x1.tr X1
  have LY : ly4 e20 a := ⟨X0.is h0, ⟨((y20 5 (by decide)).trans ((y19 a 5).trans ((y18 5 (by decide)).trans ((y17 a 5).trans ((y16 5 (by decide)).trans ((y15 a 5).trans ((y14 5 (by decide)).trans ((y13 a 5).trans ((y12 5 (by decide)).trans ((y11 a 5).trans ((y10 5 (by decide)).trans ((y9 a 5).trans ((y8 5 (by decide)).trans ((y7 a 5).trans ((y6 5 (by decide)).trans ((y5 a 5).trans ((y4 5 (by decide)).trans ((y3 a 5).trans r2)))))))))))))))))), X1.is s1⟩, ⟨((y20 6 (by decide)).trans ((y19 a 6).trans ((y18 6 (by decide)).trans ((y17 a 6).trans ((y16 6 (by decide)).trans ((y15 a 6).trans ((y14 6 (by decide)).trans ((y13 a 6).trans ((y12 6 (by decide)).trans ((y11 a 6).trans ((y10 6 (by decide)).trans ((y9 a 6).trans ((y8 6 (by decide)).trans ((y7 a 6).trans ((y6 6 (by decide)).trans ((y5 a 6).trans r4)))))))))))))))), X3.is s3⟩, ⟨((y20 7 (by decide)).trans ((y19 a 7).trans ((y18 7 (by decide)).trans ((y17 a 7).trans ((y16 7 (by decide)).trans ((y15 a 7).trans ((y14 7 (by decide)).trans ((y13 a 7).trans ((y12 7 (by decide)).trans ((y11 a 7).trans ((y10 7 (by decide)).trans ((y9 a 7).trans ((y8 7 (by decide)).trans ((y7 a 7).trans r6)))))))))))))), X5.is s5⟩, ⟨((y20 8 (by decide)).trans ((y19 a 8).trans ((y18 8 (by decide)).trans ((y17 a 8).trans ((y16 8 (by decide)).trans ((y15 a 8).trans ((y14 8 (by decide)).trans ((y13 a 8).trans ((y12 8 (by decide)).trans ((y11 a 8).trans ((y10 8 (by decide)).trans ((y9 a 8).trans r8)))))))))))), X7.is s7⟩, ⟨((y20 9 (by decide)).trans ((y19 a 9).trans ((y18 9 (by decide)).trans ((y17 a 9).trans ((y16 9 (by decide)).trans ((y15 a 9).trans ((y14 9 (by decide)).trans ((y13 a 9).trans ((y12 9 (by decide)).trans ((y11 a 9).trans r10)))))))))), X9.is s9⟩, ⟨((y20 10 (by decide)).trans ((y19 a 10).trans ((y18 10 (by decide)).trans ((y17 a 10).trans ((y16 10 (by decide)).trans ((y15 a 10).trans ((y14 10 (by decide)).trans ((y13 a 10).trans r12)))))))), X11.is s11⟩, ⟨((y20 11 (by decide)).trans ((y19 a 11).trans ((y18 11 (by decide)).trans ((y17 a 11).trans ((y16 11 (by decide)).trans ((y15 a 11).trans r14)))))), X13.is s13⟩, ⟨((y20 12 (by decide)).trans ((y19 a 12).trans ((y18 12 (by decide)).trans ((y17 a 12).trans r16)))), X15.is s15⟩, ⟨((y20 13 (by decide)).trans ((y19 a 13).trans r18)), X17.is s17⟩, ⟨r20, X19.is s19⟩⟩
  exact px_return (mx_d tX4_init_0 42 rfl) rfl ⟨rfl, e20, rfl, (n20.trans n19), mx_x1 hn X0, z20, LY⟩
set_option maxRecDepth 20000 in
set_option maxHeartbeats 8000000 in
theorem K0_init {G : mG} {l : Launch} {a : Nat} {e : mE} {mi : mI} {mj : mJ}  (hcap : a + 5 < 100000) (hn : e.1 = a + 1) (h0 : mx_is e a 0 0) (hz : mx_zr e mi mj) :
    mx_CallN G l MX0_init 1 4 160 [.ref a] (e, mi, mj) (mx_made ly0 a 5 e mi mj mi mj) := by
  refine px_entryN (L := [.ref a]) (by decide +kernel) (Nat.le_of_ble_eq_true rfl) rfl ?_
  refine px_aload_n (mx_d tX0_init_0 0 rfl) rfl rfl ?_
  refine px_objInit (mx_d tX0_init_0 1 rfl) rfl oX0_3 w_obj1 w_obj2 (by decide) (Nat.le_of_ble_eq_true rfl) ?_
  refine px_aload_n (mx_d tX0_init_0 2 rfl) rfl rfl ?_
  refine px_bipush (40) (mx_d tX0_init_0 3 rfl) (by decide) ?_
  refine cx_newI 40 (fun q => q = a) a (a + 1) (mx_d tX0_init_0 4 rfl) w_arrI (by decide) (by decide) hn (mx_lt hcap (by decide)) hz (by decide) (by decide) (fun e1 n1 x1 y1 z1 s1 => ?_)
  have oo1 := x1.is h0
  have o2 := oo1
  refine cx_putR (mx_d tX0_init_0 5 rfl) fX0_9 rfl ⟨_, rfl, rfl, rfl⟩ rfl rfl (fun q => q = a) rfl o2 z1 (fun e2 n2 x2 y2 z2 r2 v2 => ?_)
  refine px_aload_n (mx_d tX0_init_0 6 rfl) rfl rfl ?_
  refine px_bipush (40) (mx_d tX0_init_0 7 rfl) (by decide) ?_
  refine cx_newI 40 (fun q => q = a) a (a + 2) (mx_d tX0_init_0 8 rfl) w_arrI (by decide) (by decide) (n2.trans n1) (mx_lt hcap (by decide)) z2 (by decide) (by decide) (fun e3 n3 x3 y3 z3 s3 => ?_)
  have oo2 := x2.is oo1
  have oo3 := x3.is oo2
  have o4 := oo3
  refine cx_putR (mx_d tX0_init_0 9 rfl) fX0_15 rfl ⟨_, rfl, rfl, rfl⟩ rfl rfl (fun q => q = a) rfl o4 z3 (fun e4 n4 x4 y4 z4 r4 v4 => ?_)
  refine px_aload_n (mx_d tX0_init_0 10 rfl) rfl rfl ?_
  refine px_bipush (40) (mx_d tX0_init_0 11 rfl) (by decide) ?_
  refine cx_newI 40 (fun q => q = a) a (a + 3) (mx_d tX0_init_0 12 rfl) w_arrI (by decide) (by decide) (n4.trans n3) (mx_lt hcap (by decide)) z4 (by decide) (by decide) (fun e5 n5 x5 y5 z5 s5 => ?_)
  have oo4 := x4.is oo3
  have oo5 := x5.is oo4
  have o6 := oo5
  refine cx_putR (mx_d tX0_init_0 13 rfl) fX0_18 rfl ⟨_, rfl, rfl, rfl⟩ rfl rfl (fun q => q = a) rfl o6 z5 (fun e6 n6 x6 y6 z6 r6 v6 => ?_)
  refine px_aload_n (mx_d tX0_init_0 14 rfl) rfl rfl ?_
  refine px_bipush (40) (mx_d tX0_init_0 15 rfl) (by decide) ?_
  refine cx_newI 40 (fun q => q = a) a (a + 4) (mx_d tX0_init_0 16 rfl) w_arrI (by decide) (by decide) (n6.trans n5) (mx_lt hcap (by decide)) z6 (by decide) (by decide) (fun e7 n7 x7 y7 z7 s7 => ?_)
  have oo6 := x6.is oo5
  have oo7 := x7.is oo6
  have o8 := oo7
  refine cx_putR (mx_d tX0_init_0 17 rfl) fX0_21 rfl ⟨_, rfl, rfl, rfl⟩ rfl rfl (fun q => q = a) rfl o8 z7 (fun e8 n8 x8 y8 z8 r8 v8 => ?_)
  have X8 := @mx_st.rf (fun q => q = a) e8
  have X7 := x8.tr X8
  have X6 := x7.tr X7
  have X5 := x6.tr X6
  have X4 := x5.tr X5
  have X3 := x4.tr X4
  have X2 := x3.tr X3
  have X1 := x2.tr X2
  have X0 := x1.tr X1
  have LY : ly0 e8 a := ⟨X0.is h0, ⟨((y8 0 (by decide)).trans ((y7 a 0).trans ((y6 0 (by decide)).trans ((y5 a 0).trans ((y4 0 (by decide)).trans ((y3 a 0).trans r2)))))), X1.is s1⟩, ⟨((y8 1 (by decide)).trans ((y7 a 1).trans ((y6 1 (by decide)).trans ((y5 a 1).trans r4)))), X3.is s3⟩, ⟨((y8 2 (by decide)).trans ((y7 a 2).trans r6)), X5.is s5⟩, ⟨r8, X7.is s7⟩⟩
  exact px_return (mx_d tX0_init_0 18 rfl) rfl ⟨rfl, e8, rfl, (n8.trans n7), mx_x1 hn X0, z8, LY⟩
set_option maxRecDepth 20000 in
set_option maxHeartbeats 8000000 in
theorem K8_init {G : mG} {l : Launch} {a : Nat} {e : mE} {mi : mI} {mj : mJ}  (hcap : a + 5 < 100000) (hn : e.1 = a + 1) (h0 : mx_is e a 8 0) (hz : mx_zr e mi mj) :
    mx_CallN G l MX8_init 1 4 160 [.ref a] (e, mi, mj) (mx_made ly8 a 5 e mi mj mi mj) := by
  refine px_entryN (L := [.ref a]) (by decide +kernel) (Nat.le_of_ble_eq_true rfl) rfl ?_
  refine px_aload_n (mx_d tX8_init_0 0 rfl) rfl rfl ?_
  refine px_objInit (mx_d tX8_init_0 1 rfl) rfl oX8_3 w_obj1 w_obj2 (by decide) (Nat.le_of_ble_eq_true rfl) ?_
  refine px_aload_n (mx_d tX8_init_0 2 rfl) rfl rfl ?_
  refine px_bipush (40) (mx_d tX8_init_0 3 rfl) (by decide) ?_
  refine cx_newI 40 (fun q => q = a) a (a + 1) (mx_d tX8_init_0 4 rfl) w_arrI (by decide) (by decide) hn (mx_lt hcap (by decide)) hz (by decide) (by decide) (fun e1 n1 x1 y1 z1 s1 => ?_)
  have oo1 := x1.is h0
  have o2 := oo1
  refine cx_putR (mx_d tX8_init_0 5 rfl) fX8_9 rfl ⟨_, rfl, rfl, rfl⟩ rfl rfl (fun q => q = a) rfl o2 z1 (fun e2 n2 x2 y2 z2 r2 v2 => ?_)
  refine px_aload_n (mx_d tX8_init_0 6 rfl) rfl rfl ?_
  refine px_bipush (40) (mx_d tX8_init_0 7 rfl) (by decide) ?_
  refine cx_newI 40 (fun q => q = a) a (a + 2) (mx_d tX8_init_0 8 rfl) w_arrI (by decide) (by decide) (n2.trans n1) (mx_lt hcap (by decide)) z2 (by decide) (by decide) (fun e3 n3 x3 y3 z3 s3 => ?_)
  have oo2 := x2.is oo1
  have oo3 := x3.is oo2
  have o4 := oo3
  refine cx_putR (mx_d tX8_init_0 9 rfl) fX8_15 rfl ⟨_, rfl, rfl, rfl⟩ rfl rfl (fun q => q = a) rfl o4 z3 (fun e4 n4 x4 y4 z4 r4 v4 => ?_)
  refine px_aload_n (mx_d tX8_init_0 10 rfl) rfl rfl ?_
  refine px_bipush (40) (mx_d tX8_init_0 11 rfl) (by decide) ?_
  refine cx_newI 40 (fun q => q = a) a (a + 3) (mx_d tX8_init_0 12 rfl) w_arrI (by decide) (by decide) (n4.trans n3) (mx_lt hcap (by decide)) z4 (by decide) (by decide) (fun e5 n5 x5 y5 z5 s5 => ?_)
  have oo4 := x4.is oo3
  have oo5 := x5.is oo4
  have o6 := oo5
  refine cx_putR (mx_d tX8_init_0 13 rfl) fX8_18 rfl ⟨_, rfl, rfl, rfl⟩ rfl rfl (fun q => q = a) rfl o6 z5 (fun e6 n6 x6 y6 z6 r6 v6 => ?_)
  refine px_aload_n (mx_d tX8_init_0 14 rfl) rfl rfl ?_
  refine px_bipush (40) (mx_d tX8_init_0 15 rfl) (by decide) ?_
  refine cx_newI 40 (fun q => q = a) a (a + 4) (mx_d tX8_init_0 16 rfl) w_arrI (by decide) (by decide) (n6.trans n5) (mx_lt hcap (by decide)) z6 (by decide) (by decide) (fun e7 n7 x7 y7 z7 s7 => ?_)
  have oo6 := x6.is oo5
  have oo7 := x7.is oo6
  have o8 := oo7
  refine cx_putR (mx_d tX8_init_0 17 rfl) fX8_21 rfl ⟨_, rfl, rfl, rfl⟩ rfl rfl (fun q => q = a) rfl o8 z7 (fun e8 n8 x8 y8 z8 r8 v8 => ?_)
  have X8 := @mx_st.rf (fun q => q = a) e8
  have X7 := x8.tr X8
  have X6 := x7.tr X7
  have X5 := x6.tr X6
  have X4 := x5.tr X5
  have X3 := x4.tr X4
  have X2 := x3.tr X3
  have X1 := x2.tr X2
  have X0 := x1.tr X1
  have LY : ly8 e8 a := ⟨X0.is h0, ⟨((y8 0 (by decide)).trans ((y7 a 0).trans ((y6 0 (by decide)).trans ((y5 a 0).trans ((y4 0 (by decide)).trans ((y3 a 0).trans r2)))))), X1.is s1⟩, ⟨((y8 1 (by decide)).trans ((y7 a 1).trans ((y6 1 (by decide)).trans ((y5 a 1).trans r4)))), X3.is s3⟩, ⟨((y8 2 (by decide)).trans ((y7 a 2).trans r6)), X5.is s5⟩, ⟨r8, X7.is s7⟩⟩
  exact px_return (mx_d tX8_init_0 18 rfl) rfl ⟨rfl, e8, rfl, (n8.trans n7), mx_x1 hn X0, z8, LY⟩
set_option maxRecDepth 20000 in
set_option maxHeartbeats 8000000 in
theorem K1_init {G : mG} {l : Launch} {a : Nat} {e : mE} {mi : mI} {mj : mJ}  (hcap : a + 1 < 100000) (hn : e.1 = a + 1) (h0 : mx_is e a 1 0) (hz : mx_zr e mi mj) :
    mx_CallN G l MX1_init 1 0 0 [.ref a] (e, mi, mj) (mx_made ly1 a 1 e mi mj mi mj) := by
  refine px_entryN (L := [.ref a]) (by decide +kernel) (Nat.le_of_ble_eq_true rfl) rfl ?_
  refine px_aload_n (mx_d tX1_init_0 0 rfl) rfl rfl ?_
  refine px_objInit (mx_d tX1_init_0 1 rfl) rfl oX1_1 w_obj1 w_obj2 (by decide) (Nat.le_of_ble_eq_true rfl) ?_
  have LY : ly1 e a := h0
  exact px_return (mx_d tX1_init_0 2 rfl) rfl ⟨rfl, e, rfl, hn, fun i hi => ⟨rfl, fun _ => rfl⟩, hz, LY⟩
set_option maxRecDepth 20000 in
set_option maxHeartbeats 8000000 in
theorem K5_init {G : mG} {l : Launch} {a : Nat} {e : mE} {mi : mI} {mj : mJ}  (hcap : a + 12 < 100000) (hn : e.1 = a + 1) (h0 : mx_is e a 5 0) (hz : mx_zr e mi mj) :
    mx_CallN G l MX5_init 2 11 257 [.ref a] (e, mi, mj) (mx_made ly5 a 12 e mi mj mi mj) := by
  refine px_entryN (L := [.ref a]) (by decide +kernel) (Nat.le_of_ble_eq_true rfl) rfl ?_
  refine px_aload_n (mx_d tX5_init_0 0 rfl) rfl rfl ?_
  refine px_objInit (mx_d tX5_init_0 1 rfl) rfl oX5_3 w_obj1 w_obj2 (by decide) (Nat.le_of_ble_eq_true rfl) ?_
  refine px_aload_n (mx_d tX5_init_0 2 rfl) rfl rfl ?_
  refine cx_new (fun q => q = a) a (a + 1) (mx_d tX5_init_0 3 rfl) kX5_9 rfl hn (mx_lt hcap (by decide)) hz (by decide) (by decide) (fun e1o n1o x1o y1o z1o s1o => ?_)
  refine px_dup (mx_d tX5_init_0 4 rfl) rfl ?_
  refine px_callIN (mx_d tX5_init_0 5 rfl) nX5_11 rfl rfl rfl mX4_init (fun _ h => h) (K4_init (a := a + 1) (show a + 12 < 100000 from mx_lt hcap (by decide)) n1o s1o z1o) (by decide) (by decide) (by decide) rfl rfl (Nat.le_of_ble_eq_true rfl) (fun v z hv => ?_)
  obtain ⟨rfl, e1, rfl, n1, w1, z1, s1⟩ := hv
  have x1 := mx_made_st x1o hn n1 w1
  have y1 := mx_made_sa (f := 999) (fun j _ => y1o a j) (mx_ap (by decide)) w1
  have oo1 := x1.is h0
  have o2 := oo1
  refine cx_putR (mx_d tX5_init_0 6 rfl) fX5_12 rfl ⟨_, rfl, rfl, rfl⟩ rfl rfl (fun q => q = a) rfl o2 z1 (fun e2 n2 x2 y2 z2 r2 v2 => ?_)
  have X2 := @mx_st.rf (fun q => q = a) e2
  have X1 := x2.tr X2
  have X0 := x1.tr X1
  have LY : ly5 e2 a := ⟨X0.is h0, ⟨r2, (ly4_ext X1.1 (X1.kp1 (x := a + 1) (mx_ap (by decide)) n1) s1)⟩⟩
  exact px_return (mx_d tX5_init_0 7 rfl) rfl ⟨rfl, e2, rfl, (n2.trans n1), mx_x1 hn X0, z2, LY⟩
set_option maxRecDepth 20000 in
set_option maxHeartbeats 8000000 in
theorem K9_init {G : mG} {l : Launch} {a : Nat} {e : mE} {mi : mI} {mj : mJ} (hrl1 : mx_rl (a + 1 + 1) = 10) (hcap : a + 3 < 100000) (hn : e.1 = a + 1) (h0 : mx_is e a 9 0) (hz : mx_zr e mi mj) :
    mx_CallN G l MX9_init 4 2 12 [.ref a] (e, mi, mj) (mx_made ly9 a 3 e mi mj mi mj) := by
  refine px_entryN (L := [.ref a]) (by decide +kernel) (Nat.le_of_ble_eq_true rfl) rfl ?_
  refine px_aload_n (mx_d tX9_init_0 0 rfl) rfl rfl ?_
  refine px_objInit (mx_d tX9_init_0 1 rfl) rfl oX9_3 w_obj1 w_obj2 (by decide) (Nat.le_of_ble_eq_true rfl) ?_
  refine px_aload_n (mx_d tX9_init_0 2 rfl) rfl rfl ?_
  refine cx_new (fun q => q = a) a (a + 1) (mx_d tX9_init_0 3 rfl) kX9_9 rfl hn (mx_lt hcap (by decide)) hz (by decide) (by decide) (fun e1o n1o x1o y1o z1o s1o => ?_)
  refine px_dup (mx_d tX9_init_0 4 rfl) rfl ?_
  refine px_bipush (10) (mx_d tX9_init_0 5 rfl) (by decide) ?_
  refine px_callI (mx_d tX9_init_0 6 rfl) iX9_11 rfl rfl rfl mX7_init (fun _ h => h) (K7_init 10 (a := a + 1) (show a + 3 < 100000 from mx_lt hcap (by decide)) (by decide) rfl hrl1 n1o s1o z1o) (by decide) (by decide) (by decide) rfl rfl (Nat.le_of_ble_eq_true rfl) (fun v z hv => ?_)
  obtain ⟨rfl, e1, rfl, n1, w1, z1, s1⟩ := hv
  have x1 := mx_made_st x1o hn n1 w1
  have y1 := mx_made_sa (f := 999) (fun j _ => y1o a j) (mx_ap (by decide)) w1
  have oo1 := x1.is h0
  have o2 := oo1
  refine cx_putR (mx_d tX9_init_0 7 rfl) fX9_14 rfl ⟨_, rfl, rfl, rfl⟩ rfl rfl (fun q => q = a) rfl o2 z1 (fun e2 n2 x2 y2 z2 r2 v2 => ?_)
  have X2 := @mx_st.rf (fun q => q = a) e2
  have X1 := x2.tr X2
  have X0 := x1.tr X1
  have LY : ly9 e2 a := ⟨X0.is h0, ⟨r2, (ly7_ext X1.1 (X1.kp1 (x := a + 1) (mx_ap (by decide)) n1) s1)⟩⟩
  exact px_return (mx_d tX9_init_0 8 rfl) rfl ⟨rfl, e2, rfl, (n2.trans n1), mx_x1 hn X0, z2, LY⟩
set_option maxRecDepth 20000 in
set_option maxHeartbeats 8000000 in
theorem K2_init {G : mG} {l : Launch} {a : Nat} {e : mE} {mi : mI} {mj : mJ}  (hcap : a + 21 < 100000) (hn : e.1 = a + 1) (h0 : mx_is e a 2 0) (hz : mx_zr e mi mj) :
    mx_CallN G l MX2_init 2 20 3457 [.ref a] (e, mi, mj) (mx_made ly2 a 21 e mi mj mi mj) := by
  refine px_entryN (L := [.ref a]) (by decide +kernel) (Nat.le_of_ble_eq_true rfl) rfl ?_
  refine px_aload_n (mx_d tX2_init_0 0 rfl) rfl rfl ?_
  refine px_objInit (mx_d tX2_init_0 1 rfl) rfl oX2_3 w_obj1 w_obj2 (by decide) (Nat.le_of_ble_eq_true rfl) ?_
  refine px_aload_n (mx_d tX2_init_0 2 rfl) rfl rfl ?_
  refine cx_new (fun q => q = a) a (a + 1) (mx_d tX2_init_0 3 rfl) kX2_9 rfl hn (mx_lt hcap (by decide)) hz (by decide) (by decide) (fun e1o n1o x1o y1o z1o s1o => ?_)
  refine px_dup (mx_d tX2_init_0 4 rfl) rfl ?_
  refine px_callIN (mx_d tX2_init_0 5 rfl) nX2_11 rfl rfl rfl mX4_init (fun _ h => h) (K4_init (a := a + 1) (show a + 12 < 100000 from mx_lt hcap (by decide)) n1o s1o z1o) (by decide) (by decide) (by decide) rfl rfl (Nat.le_of_ble_eq_true rfl) (fun v z hv => ?_)
  obtain ⟨rfl, e1, rfl, n1, w1, z1, s1⟩ := hv
  have x1 := mx_made_st x1o hn n1 w1
  have y1 := mx_made_sa (f := 999) (fun j _ => y1o a j) (mx_ap (by decide)) w1
  have oo1 := x1.is h0
  have o2 := oo1
  refine cx_putR (mx_d tX2_init_0 6 rfl) fX2_12 rfl ⟨_, rfl, rfl, rfl⟩ rfl rfl (fun q => q = a) rfl o2 z1 (fun e2 n2 x2 y2 z2 r2 v2 => ?_)
  refine px_aload_n (mx_d tX2_init_0 7 rfl) rfl rfl ?_
  refine px_sipush (1024) (mx_d tX2_init_0 8 rfl) (by decide) ?_
  refine cx_newI 1024 (fun q => q = a) a (a + 12) (mx_d tX2_init_0 9 rfl) w_arrI (by decide) (by decide) (n2.trans n1) (mx_lt hcap (by decide)) z2 (by decide) (by decide) (fun e3 n3 x3 y3 z3 s3 => ?_)
  have oo2 := x2.is oo1
  have oo3 := x3.is oo2
  have o4 := oo3
  refine cx_putR (mx_d tX2_init_0 10 rfl) fX2_18 rfl ⟨_, rfl, rfl, rfl⟩ rfl rfl (fun q => q = a) rfl o4 z3 (fun e4 n4 x4 y4 z4 r4 v4 => ?_)
  refine px_aload_n (mx_d tX2_init_0 11 rfl) rfl rfl ?_
  refine px_sipush (144) (mx_d tX2_init_0 12 rfl) (by decide) ?_
  refine cx_newI 144 (fun q => q = a) a (a + 13) (mx_d tX2_init_0 13 rfl) w_arrI (by decide) (by decide) (n4.trans n3) (mx_lt hcap (by decide)) z4 (by decide) (by decide) (fun e5 n5 x5 y5 z5 s5 => ?_)
  have oo4 := x4.is oo3
  have oo5 := x5.is oo4
  have o6 := oo5
  refine cx_putR (mx_d tX2_init_0 14 rfl) fX2_22 rfl ⟨_, rfl, rfl, rfl⟩ rfl rfl (fun q => q = a) rfl o6 z5 (fun e6 n6 x6 y6 z6 r6 v6 => ?_)
  refine px_aload_n (mx_d tX2_init_0 15 rfl) rfl rfl ?_
  refine px_sipush (144) (mx_d tX2_init_0 16 rfl) (by decide) ?_
  refine cx_newI 144 (fun q => q = a) a (a + 14) (mx_d tX2_init_0 17 rfl) w_arrI (by decide) (by decide) (n6.trans n5) (mx_lt hcap (by decide)) z6 (by decide) (by decide) (fun e7 n7 x7 y7 z7 s7 => ?_)
  have oo6 := x6.is oo5
  have oo7 := x7.is oo6
  have o8 := oo7
  refine cx_putR (mx_d tX2_init_0 18 rfl) fX2_25 rfl ⟨_, rfl, rfl, rfl⟩ rfl rfl (fun q => q = a) rfl o8 z7 (fun e8 n8 x8 y8 z8 r8 v8 => ?_)
  refine px_aload_n (mx_d tX2_init_0 19 rfl) rfl rfl ?_
  refine px_sipush (864) (mx_d tX2_init_0 20 rfl) (by decide) ?_
  refine cx_newI 864 (fun q => q = a) a (a + 15) (mx_d tX2_init_0 21 rfl) w_arrI (by decide) (by decide) (n8.trans n7) (mx_lt hcap (by decide)) z8 (by decide) (by decide) (fun e9 n9 x9 y9 z9 s9 => ?_)
  have oo8 := x8.is oo7
  have oo9 := x9.is oo8
  have o10 := oo9
  refine cx_putR (mx_d tX2_init_0 22 rfl) fX2_28 rfl ⟨_, rfl, rfl, rfl⟩ rfl rfl (fun q => q = a) rfl o10 z9 (fun e10 n10 x10 y10 z10 r10 v10 => ?_)
  refine px_aload_n (mx_d tX2_init_0 23 rfl) rfl rfl ?_
  refine px_sipush (864) (mx_d tX2_init_0 24 rfl) (by decide) ?_
  refine cx_newI 864 (fun q => q = a) a (a + 16) (mx_d tX2_init_0 25 rfl) w_arrI (by decide) (by decide) (n10.trans n9) (mx_lt hcap (by decide)) z10 (by decide) (by decide) (fun e11 n11 x11 y11 z11 s11 => ?_)
  have oo10 := x10.is oo9
  have oo11 := x11.is oo10
  have o12 := oo11
  refine cx_putR (mx_d tX2_init_0 26 rfl) fX2_31 rfl ⟨_, rfl, rfl, rfl⟩ rfl rfl (fun q => q = a) rfl o12 z11 (fun e12 n12 x12 y12 z12 r12 v12 => ?_)
  refine px_aload_n (mx_d tX2_init_0 27 rfl) rfl rfl ?_
  refine px_bipush (10) (mx_d tX2_init_0 28 rfl) (by decide) ?_
  refine cx_newI 10 (fun q => q = a) a (a + 17) (mx_d tX2_init_0 29 rfl) w_arrI (by decide) (by decide) (n12.trans n11) (mx_lt hcap (by decide)) z12 (by decide) (by decide) (fun e13 n13 x13 y13 z13 s13 => ?_)
  have oo12 := x12.is oo11
  have oo13 := x13.is oo12
  have o14 := oo13
  refine cx_putR (mx_d tX2_init_0 30 rfl) fX2_34 rfl ⟨_, rfl, rfl, rfl⟩ rfl rfl (fun q => q = a) rfl o14 z13 (fun e14 n14 x14 y14 z14 r14 v14 => ?_)
  refine px_aload_n (mx_d tX2_init_0 31 rfl) rfl rfl ?_
  refine px_bipush (10) (mx_d tX2_init_0 32 rfl) (by decide) ?_
  refine cx_newI 10 (fun q => q = a) a (a + 18) (mx_d tX2_init_0 33 rfl) w_arrI (by decide) (by decide) (n14.trans n13) (mx_lt hcap (by decide)) z14 (by decide) (by decide) (fun e15 n15 x15 y15 z15 s15 => ?_)
  have oo14 := x14.is oo13
  have oo15 := x15.is oo14
  have o16 := oo15
  refine cx_putR (mx_d tX2_init_0 34 rfl) fX2_37 rfl ⟨_, rfl, rfl, rfl⟩ rfl rfl (fun q => q = a) rfl o16 z15 (fun e16 n16 x16 y16 z16 r16 v16 => ?_)
  refine px_aload_n (mx_d tX2_init_0 35 rfl) rfl rfl ?_
  refine px_bipush (110) (mx_d tX2_init_0 36 rfl) (by decide) ?_
  refine cx_newI 110 (fun q => q = a) a (a + 19) (mx_d tX2_init_0 37 rfl) w_arrI (by decide) (by decide) (n16.trans n15) (mx_lt hcap (by decide)) z16 (by decide) (by decide) (fun e17 n17 x17 y17 z17 s17 => ?_)
  have oo16 := x16.is oo15
  have oo17 := x17.is oo16
  have o18 := oo17
  refine cx_putR (mx_d tX2_init_0 38 rfl) fX2_40 rfl ⟨_, rfl, rfl, rfl⟩ rfl rfl (fun q => q = a) rfl o18 z17 (fun e18 n18 x18 y18 z18 r18 v18 => ?_)
  refine px_aload_n (mx_d tX2_init_0 39 rfl) rfl rfl ?_
  refine px_bipush (30) (mx_d tX2_init_0 40 rfl) (by decide) ?_
  refine cx_newI 30 (fun q => q = a) a (a + 20) (mx_d tX2_init_0 41 rfl) w_arrI (by decide) (by decide) (n18.trans n17) (mx_lt hcap (by decide)) z18 (by decide) (by decide) (fun e19 n19 x19 y19 z19 s19 => ?_)
  have oo18 := x18.is oo17
  have oo19 := x19.is oo18
  have o20 := oo19
  refine cx_putR (mx_d tX2_init_0 42 rfl) fX2_43 rfl ⟨_, rfl, rfl, rfl⟩ rfl rfl (fun q => q = a) rfl o20 z19 (fun e20 n20 x20 y20 z20 r20 v20 => ?_)
  have X20 := @mx_st.rf (fun q => q = a) e20
  have X19 := x20.tr X20
  have X18 := x19.tr X19
  have X17 := x18.tr X18
  have X16 := x17.tr X17
  have X15 := x16.tr X16
  have X14 := x15.tr X15
  have X13 := x14.tr X14
  have X12 := x13.tr X13
  have X11 := x12.tr X12
  have X10 := x11.tr X11
  have X9 := x10.tr X10
  have X8 := x9.tr X9
  have X7 := x8.tr X8
  have X6 := x7.tr X7
  have X5 := x6.tr X6
  have X4 := x5.tr X5
  have X3 := x4.tr X4
  have X2 := x3.tr X3
  have X1 := x2.tr X2
  have X0 := x1.tr X1
  have LY : ly2 e20 a := ⟨X0.is h0, ⟨((y20 0 (by decide)).trans ((y19 a 0).trans ((y18 0 (by decide)).trans ((y17 a 0).trans ((y16 0 (by decide)).trans ((y15 a 0).trans ((y14 0 (by decide)).trans ((y13 a 0).trans ((y12 0 (by decide)).trans ((y11 a 0).trans ((y10 0 (by decide)).trans ((y9 a 0).trans ((y8 0 (by decide)).trans ((y7 a 0).trans ((y6 0 (by decide)).trans ((y5 a 0).trans ((y4 0 (by decide)).trans ((y3 a 0).trans r2)))))))))))))))))), (ly4_ext X1.1 (X1.kp1 (x := a + 1) (mx_ap (by decide)) n1) s1)⟩, ⟨((y20 4 (by decide)).trans ((y19 a 4).trans ((y18 4 (by decide)).trans ((y17 a 4).trans ((y16 4 (by decide)).trans ((y15 a 4).trans ((y14 4 (by decide)).trans ((y13 a 4).trans ((y12 4 (by decide)).trans ((y11 a 4).trans ((y10 4 (by decide)).trans ((y9 a 4).trans ((y8 4 (by decide)).trans ((y7 a 4).trans ((y6 4 (by decide)).trans ((y5 a 4).trans r4)))))))))))))))), X3.is s3⟩, ⟨((y20 6 (by decide)).trans ((y19 a 6).trans ((y18 6 (by decide)).trans ((y17 a 6).trans ((y16 6 (by decide)).trans ((y15 a 6).trans ((y14 6 (by decide)).trans ((y13 a 6).trans ((y12 6 (by decide)).trans ((y11 a 6).trans ((y10 6 (by decide)).trans ((y9 a 6).trans ((y8 6 (by decide)).trans ((y7 a 6).trans r6)))))))))))))), X5.is s5⟩, ⟨((y20 7 (by decide)).trans ((y19 a 7).trans ((y18 7 (by decide)).trans ((y17 a 7).trans ((y16 7 (by decide)).trans ((y15 a 7).trans ((y14 7 (by decide)).trans ((y13 a 7).trans ((y12 7 (by decide)).trans ((y11 a 7).trans ((y10 7 (by decide)).trans ((y9 a 7).trans r8)))))))))))), X7.is s7⟩, ⟨((y20 8 (by decide)).trans ((y19 a 8).trans ((y18 8 (by decide)).trans ((y17 a 8).trans ((y16 8 (by decide)).trans ((y15 a 8).trans ((y14 8 (by decide)).trans ((y13 a 8).trans ((y12 8 (by decide)).trans ((y11 a 8).trans r10)))))))))), X9.is s9⟩, ⟨((y20 9 (by decide)).trans ((y19 a 9).trans ((y18 9 (by decide)).trans ((y17 a 9).trans ((y16 9 (by decide)).trans ((y15 a 9).trans ((y14 9 (by decide)).trans ((y13 a 9).trans r12)))))))), X11.is s11⟩, ⟨((y20 10 (by decide)).trans ((y19 a 10).trans ((y18 10 (by decide)).trans ((y17 a 10).trans ((y16 10 (by decide)).trans ((y15 a 10).trans r14)))))), X13.is s13⟩, ⟨((y20 12 (by decide)).trans ((y19 a 12).trans ((y18 12 (by decide)).trans ((y17 a 12).trans r16)))), X15.is s15⟩, ⟨((y20 13 (by decide)).trans ((y19 a 13).trans r18)), X17.is s17⟩, ⟨r20, X19.is s19⟩⟩
  exact px_return (mx_d tX2_init_0 43 rfl) rfl ⟨rfl, e20, rfl, (n20.trans n19), mx_x1 hn X0, z20, LY⟩
set_option maxRecDepth 20000 in
set_option maxHeartbeats 8000000 in
theorem K6_init {G : mG} {l : Launch} {a : Nat} {e : mE} {mi : mI} {mj : mJ}  (hcap : a + 17 < 100000) (hn : e.1 = a + 1) (h0 : mx_is e a 6 0) (hz : mx_zr e mi mj) :
    mx_CallN G l MX6_init 2 16 424 [.ref a] (e, mi, mj) (mx_made ly6 a 17 e mi mj mi mj) := by
  refine px_entryN (L := [.ref a]) (by decide +kernel) (Nat.le_of_ble_eq_true rfl) rfl ?_
  refine px_aload_n (mx_d tX6_init_0 0 rfl) rfl rfl ?_
  refine px_objInit (mx_d tX6_init_0 1 rfl) rfl oX6_1 w_obj1 w_obj2 (by decide) (Nat.le_of_ble_eq_true rfl) ?_
  refine px_aload_n (mx_d tX6_init_0 2 rfl) rfl rfl ?_
  refine cx_new (fun q => q = a) a (a + 1) (mx_d tX6_init_0 3 rfl) kX6_7 rfl hn (mx_lt hcap (by decide)) hz (by decide) (by decide) (fun e1o n1o x1o y1o z1o s1o => ?_)
  refine px_dup (mx_d tX6_init_0 4 rfl) rfl ?_
  refine px_callIN (mx_d tX6_init_0 5 rfl) nX6_9 rfl rfl rfl mX4_init (fun _ h => h) (K4_init (a := a + 1) (show a + 12 < 100000 from mx_lt hcap (by decide)) n1o s1o z1o) (by decide) (by decide) (by decide) rfl rfl (Nat.le_of_ble_eq_true rfl) (fun v z hv => ?_)
  obtain ⟨rfl, e1, rfl, n1, w1, z1, s1⟩ := hv
  have x1 := mx_made_st x1o hn n1 w1
  have y1 := mx_made_sa (f := 999) (fun j _ => y1o a j) (mx_ap (by decide)) w1
  have oo1 := x1.is h0
  have o2 := oo1
  refine cx_putR (mx_d tX6_init_0 6 rfl) fX6_10 rfl ⟨_, rfl, rfl, rfl⟩ rfl rfl (fun q => q = a) rfl o2 z1 (fun e2 n2 x2 y2 z2 r2 v2 => ?_)
  refine px_aload_n (mx_d tX6_init_0 7 rfl) rfl rfl ?_
  refine cx_new (fun q => q = a) a (a + 12) (mx_d tX6_init_0 8 rfl) kX6_16 rfl (n2.trans n1) (mx_lt hcap (by decide)) z2 (by decide) (by decide) (fun e3o n3o x3o y3o z3o s3o => ?_)
  refine px_dup (mx_d tX6_init_0 9 rfl) rfl ?_
  refine px_callIN (mx_d tX6_init_0 10 rfl) nX6_18 rfl rfl rfl mX8_init (fun _ h => h) (K8_init (a := a + 12) (show a + 17 < 100000 from mx_lt hcap (by decide)) n3o s3o z3o) (by decide) (by decide) (by decide) rfl rfl (Nat.le_of_ble_eq_true rfl) (fun v z hv => ?_)
  obtain ⟨rfl, e3, rfl, n3, w3, z3, s3⟩ := hv
  have x3 := mx_made_st x3o (n2.trans n1) n3 w3
  have y3 := mx_made_sa (f := 999) (fun j _ => y3o a j) (mx_ap (by decide)) w3
  have oo2 := x2.is oo1
  have oo3 := x3.is oo2
  have o4 := oo3
  refine cx_putR (mx_d tX6_init_0 11 rfl) fX6_19 rfl ⟨_, rfl, rfl, rfl⟩ rfl rfl (fun q => q = a) rfl o4 z3 (fun e4 n4 x4 y4 z4 r4 v4 => ?_)
  have X4 := @mx_st.rf (fun q => q = a) e4
  have X3 := x4.tr X4
  have X2 := x3.tr X3
  have X1 := x2.tr X2
  have X0 := x1.tr X1
  have LY : ly6 e4 a := ⟨X0.is h0, ⟨((y4 0 (by decide)).trans ((y3 0 (by decide)).trans r2)), (ly4_ext X1.1 (X1.kp1 (x := a + 1) (mx_ap (by decide)) n1) s1)⟩, ⟨r4, (ly8_ext X3.1 (X3.kp1 (x := a + 12) (mx_ap (by decide)) n3) s3)⟩⟩
  exact px_return (mx_d tX6_init_0 12 rfl) rfl ⟨rfl, e4, rfl, (n4.trans n3), mx_x1 hn X0, z4, LY⟩
