set_option maxRecDepth 20000 in
set_option maxHeartbeats 8000000 in
theorem K11_init {G : mG} {l : Launch} {a : Nat} {e : mE} {mi : mI} {mj : mJ} {TW : mJ → mJ} (hT : ∀ {e : mE} {mi : mI} {mj : mJ}, a + 1 + 3 < 100000 → e.1 = a + 1 + 1 → mx_is e (a + 1) 10 0 → mx_zr e mi mj → mx_CallN G l MX10_init 10 2 962 [.ref (a + 1)] (e, mi, mj) (mx_made ly10 (a + 1) 3 e mi mj mi (TW mj))) (hrl38 : mx_rl (a + 38 + 1 + 1) = 10) (hrl41 : mx_rl (a + 41 + 1) = 10) (hrl43 : mx_rl (a + 43 + 1) = 10) (hrl66 : mx_rl (a + 66 + 1) = 10) (hrl186 : mx_rl (a + 186 + 1) = 40) (hcap : a + 222 < 100000) (hn : e.1 = a + 1) (h0 : mx_is e a 11 0) (hz : mx_zr e mi mj) :
    mx_CallN G l MX11_init 11 221 8999 [.ref a] (e, mi, mj) (mx_made ly11 a 222 e mi mj (mx_up (mx_up mi a 16 (-1)) a 18 (-1)) (TW mj)) := by
  refine px_entryN (L := [.ref a, .float 0]) (by decide +kernel) (Nat.le_of_ble_eq_true rfl) rfl ?_
  refine px_aload_n (mx_d tX11_init_0 0 rfl) rfl rfl ?_
  refine px_objInit (mx_d tX11_init_0 1 rfl) rfl oX11_1 w_obj1 w_obj2 (by decide) (Nat.le_of_ble_eq_true rfl) ?_
  refine px_aload_n (mx_d tX11_init_0 2 rfl) rfl rfl ?_
  refine cx_new (fun q => q = a ∨ q = a + 184) a (a + 1) (mx_d tX11_init_0 3 rfl) kX11_7 rfl hn (mx_lt hcap (by decide)) hz (by decide) (by decide) (fun e1o n1o x1o y1o z1o s1o => ?_)
  refine px_dup (mx_d tX11_init_0 4 rfl) rfl ?_
  refine px_callI (mx_d tX11_init_0 5 rfl) iX11_9 rfl rfl rfl mX10_init (fun _ h => h) (hT (show a + 4 < 100000 from mx_lt hcap (by decide)) n1o s1o z1o) (by decide) (by decide) (by decide) rfl rfl (Nat.le_of_ble_eq_true rfl) (fun v z hv => ?_)
  obtain ⟨rfl, e1, rfl, n1, w1, z1, s1⟩ := hv
  have x1 := mx_made_st x1o hn n1 w1
  have y1 := mx_made_sa (f := 999) (fun j _ => y1o a j) (mx_ap (by decide)) w1
  have oo1 := x1.is h0
  have o2 := oo1
  refine cx_putR (mx_d tX11_init_0 6 rfl) fX11_10 rfl ⟨_, rfl, rfl, rfl⟩ rfl rfl (fun q => q = a ∨ q = a + 184) (Or.inl rfl) o2 z1 (fun e2 n2 x2 y2 z2 r2 v2 => ?_)
  refine px_aload_n (mx_d tX11_init_0 7 rfl) rfl rfl ?_
  refine cx_new (fun q => q = a ∨ q = a + 184) a (a + 4) (mx_d tX11_init_0 8 rfl) kX11_16 rfl (n2.trans n1) (mx_lt hcap (by decide)) z2 (by decide) (by decide) (fun e3o n3o x3o y3o z3o s3o => ?_)
  refine px_dup (mx_d tX11_init_0 9 rfl) rfl ?_
  refine px_callIN (mx_d tX11_init_0 10 rfl) nX11_18 rfl rfl rfl mX4_init (fun _ h => h) (K4_init (a := a + 4) (show a + 15 < 100000 from mx_lt hcap (by decide)) n3o s3o z3o) (by decide) (by decide) (by decide) rfl rfl (Nat.le_of_ble_eq_true rfl) (fun v z hv => ?_)
  obtain ⟨rfl, e3, rfl, n3, w3, z3, s3⟩ := hv
  have x3 := mx_made_st x3o (n2.trans n1) n3 w3
  have y3 := mx_made_sa (f := 999) (fun j _ => y3o a j) (mx_ap (by decide)) w3
  have oo2 := x2.is oo1
  have oo3 := x3.is oo2
  have o4 := oo3
  refine cx_putR (mx_d tX11_init_0 11 rfl) fX11_19 rfl ⟨_, rfl, rfl, rfl⟩ rfl rfl (fun q => q = a ∨ q = a + 184) (Or.inl rfl) o4 z3 (fun e4 n4 x4 y4 z4 r4 v4 => ?_)
  refine px_aload_n (mx_d tX11_init_0 12 rfl) rfl rfl ?_
  refine cx_new (fun q => q = a ∨ q = a + 184) a (a + 15) (mx_d tX11_init_0 13 rfl) kX11_16 rfl (n4.trans n3) (mx_lt hcap (by decide)) z4 (by decide) (by decide) (fun e5o n5o x5o y5o z5o s5o => ?_)
  refine px_dup (mx_d tX11_init_0 14 rfl) rfl ?_
  refine px_callIN (mx_d tX11_init_0 15 rfl) nX11_18 rfl rfl rfl mX4_init (fun _ h => h) (K4_init (a := a + 15) (show a + 26 < 100000 from mx_lt hcap (by decide)) n5o s5o z5o) (by decide) (by decide) (by decide) rfl rfl (Nat.le_of_ble_eq_true rfl) (fun v z hv => ?_)
  obtain ⟨rfl, e5, rfl, n5, w5, z5, s5⟩ := hv
  have x5 := mx_made_st x5o (n4.trans n3) n5 w5
  have y5 := mx_made_sa (f := 999) (fun j _ => y5o a j) (mx_ap (by decide)) w5
  have oo4 := x4.is oo3
  have oo5 := x5.is oo4
  have o6 := oo5
  refine cx_putR (mx_d tX11_init_0 16 rfl) fX11_23 rfl ⟨_, rfl, rfl, rfl⟩ rfl rfl (fun q => q = a ∨ q = a + 184) (Or.inl rfl) o6 z5 (fun e6 n6 x6 y6 z6 r6 v6 => ?_)
  refine px_aload_n (mx_d tX11_init_0 17 rfl) rfl rfl ?_
  refine cx_new (fun q => q = a ∨ q = a + 184) a (a + 26) (mx_d tX11_init_0 18 rfl) kX11_26 rfl (n6.trans n5) (mx_lt hcap (by decide)) z6 (by decide) (by decide) (fun e7o n7o x7o y7o z7o s7o => ?_)
  refine px_dup (mx_d tX11_init_0 19 rfl) rfl ?_
  refine px_callIN (mx_d tX11_init_0 20 rfl) nX11_28 rfl rfl rfl mX5_init (fun _ h => h) (K5_init (a := a + 26) (show a + 38 < 100000 from mx_lt hcap (by decide)) n7o s7o z7o) (by decide) (by decide) (by decide) rfl rfl (Nat.le_of_ble_eq_true rfl) (fun v z hv => ?_)
  obtain ⟨rfl, e7, rfl, n7, w7, z7, s7⟩ := hv
  have x7 := mx_made_st x7o (n6.trans n5) n7 w7
  have y7 := mx_made_sa (f := 999) (fun j _ => y7o a j) (mx_ap (by decide)) w7
  have oo6 := x6.is oo5
  have oo7 := x7.is oo6
  have o8 := oo7
  refine cx_putR (mx_d tX11_init_0 21 rfl) fX11_29 rfl ⟨_, rfl, rfl, rfl⟩ rfl rfl (fun q => q = a ∨ q = a + 184) (Or.inl rfl) o8 z7 (fun e8 n8 x8 y8 z8 r8 v8 => ?_)
  refine px_aload_n (mx_d tX11_init_0 22 rfl) rfl rfl ?_
  refine cx_new (fun q => q = a ∨ q = a + 184) a (a + 38) (mx_d tX11_init_0 23 rfl) kX11_33 rfl (n8.trans n7) (mx_lt hcap (by decide)) z8 (by decide) (by decide) (fun e9o n9o x9o y9o z9o s9o => ?_)
  refine px_dup (mx_d tX11_init_0 24 rfl) rfl ?_
  refine px_callIN (mx_d tX11_init_0 25 rfl) nX11_35 rfl rfl rfl mX9_init (fun _ h => h) (K9_init (a := a + 38) hrl38 (show a + 41 < 100000 from mx_lt hcap (by decide)) n9o s9o z9o) (by decide) (by decide) (by decide) rfl rfl (Nat.le_of_ble_eq_true rfl) (fun v z hv => ?_)
  obtain ⟨rfl, e9, rfl, n9, w9, z9, s9⟩ := hv
  have x9 := mx_made_st x9o (n8.trans n7) n9 w9
  have y9 := mx_made_sa (f := 999) (fun j _ => y9o a j) (mx_ap (by decide)) w9
  have oo8 := x8.is oo7
  have oo9 := x9.is oo8
  have o10 := oo9
  refine cx_putR (mx_d tX11_init_0 26 rfl) fX11_36 rfl ⟨_, rfl, rfl, rfl⟩ rfl rfl (fun q => q = a ∨ q = a + 184) (Or.inl rfl) o10 z9 (fun e10 n10 x10 y10 z10 r10 v10 => ?_)
  refine px_aload_n (mx_d tX11_init_0 27 rfl) rfl rfl ?_
  refine cx_new (fun q => q = a ∨ q = a + 184) a (a + 41) (mx_d tX11_init_0 28 rfl) kX11_40 rfl (n10.trans n9) (mx_lt hcap (by decide)) z10 (by decide) (by decide) (fun e11o n11o x11o y11o z11o s11o => ?_)
  refine px_dup (mx_d tX11_init_0 29 rfl) rfl ?_
  refine px_bipush (10) (mx_d tX11_init_0 30 rfl) (by decide) ?_
  refine px_callI (mx_d tX11_init_0 31 rfl) iX11_42 rfl rfl rfl mX7_init (fun _ h => h) (K7_init 10 (a := a + 41) (show a + 43 < 100000 from mx_lt hcap (by decide)) (by decide) rfl hrl41 n11o s11o z11o) (by decide) (by decide) (by decide) rfl rfl (Nat.le_of_ble_eq_true rfl) (fun v z hv => ?_)
  obtain ⟨rfl, e11, rfl, n11, w11, z11, s11⟩ := hv
  have x11 := mx_made_st x11o (n10.trans n9) n11 w11
  have y11 := mx_made_sa (f := 999) (fun j _ => y11o a j) (mx_ap (by decide)) w11
  have oo10 := x10.is oo9
  have oo11 := x11.is oo10
  have o12 := oo11
  refine cx_putR (mx_d tX11_init_0 32 rfl) fX11_45 rfl ⟨_, rfl, rfl, rfl⟩ rfl rfl (fun q => q = a ∨ q = a + 184) (Or.inl rfl) o12 z11 (fun e12 n12 x12 y12 z12 r12 v12 => ?_)
  refine px_aload_n (mx_d tX11_init_0 33 rfl) rfl rfl ?_
  refine cx_new (fun q => q = a ∨ q = a + 184) a (a + 43) (mx_d tX11_init_0 34 rfl) kX11_40 rfl (n12.trans n11) (mx_lt hcap (by decide)) z12 (by decide) (by decide) (fun e13o n13o x13o y13o z13o s13o => ?_)
  refine px_dup (mx_d tX11_init_0 35 rfl) rfl ?_
  refine px_bipush (10) (mx_d tX11_init_0 36 rfl) (by decide) ?_
  refine px_callI (mx_d tX11_init_0 37 rfl) iX11_42 rfl rfl rfl mX7_init (fun _ h => h) (K7_init 10 (a := a + 43) (show a + 45 < 100000 from mx_lt hcap (by decide)) (by decide) rfl hrl43 n13o s13o z13o) (by decide) (by decide) (by decide) rfl rfl (Nat.le_of_ble_eq_true rfl) (fun v z hv => ?_)
  obtain ⟨rfl, e13, rfl, n13, w13, z13, s13⟩ := hv
  have x13 := mx_made_st x13o (n12.trans n11) n13 w13
  have y13 := mx_made_sa (f := 999) (fun j _ => y13o a j) (mx_ap (by decide)) w13
  have oo12 := x12.is oo11
  have oo13 := x13.is oo12
  have o14 := oo13
  refine cx_putR (mx_d tX11_init_0 38 rfl) fX11_49 rfl ⟨_, rfl, rfl, rfl⟩ rfl rfl (fun q => q = a ∨ q = a + 184) (Or.inl rfl) o14 z13 (fun e14 n14 x14 y14 z14 r14 v14 => ?_)
  refine px_aload_n (mx_d tX11_init_0 39 rfl) rfl rfl ?_
  refine cx_new (fun q => q = a ∨ q = a + 184) a (a + 45) (mx_d tX11_init_0 40 rfl) kX11_52 rfl (n14.trans n13) (mx_lt hcap (by decide)) z14 (by decide) (by decide) (fun e15o n15o x15o y15o z15o s15o => ?_)
  refine px_dup (mx_d tX11_init_0 41 rfl) rfl ?_
  refine px_callIN (mx_d tX11_init_0 42 rfl) nX11_54 rfl rfl rfl mX2_init (fun _ h => h) (K2_init (a := a + 45) (show a + 66 < 100000 from mx_lt hcap (by decide)) n15o s15o z15o) (by decide) (by decide) (by decide) rfl rfl (Nat.le_of_ble_eq_true rfl) (fun v z hv => ?_)
  obtain ⟨rfl, e15, rfl, n15, w15, z15, s15⟩ := hv
  have x15 := mx_made_st x15o (n14.trans n13) n15 w15
  have y15 := mx_made_sa (f := 999) (fun j _ => y15o a j) (mx_ap (by decide)) w15
  have oo14 := x14.is oo13
  have oo15 := x15.is oo14
  have o16 := oo15
  refine cx_putR (mx_d tX11_init_0 43 rfl) fX11_55 rfl ⟨_, rfl, rfl, rfl⟩ rfl rfl (fun q => q = a ∨ q = a + 184) (Or.inl rfl) o16 z15 (fun e16 n16 x16 y16 z16 r16 v16 => ?_)
  refine px_aload_n (mx_d tX11_init_0 44 rfl) rfl rfl ?_
  refine cx_new (fun q => q = a ∨ q = a + 184) a (a + 66) (mx_d tX11_init_0 45 rfl) kX11_40 rfl (n16.trans n15) (mx_lt hcap (by decide)) z16 (by decide) (by decide) (fun e17o n17o x17o y17o z17o s17o => ?_)
  refine px_dup (mx_d tX11_init_0 46 rfl) rfl ?_
  refine px_bipush (10) (mx_d tX11_init_0 47 rfl) (by decide) ?_
  refine px_callI (mx_d tX11_init_0 48 rfl) iX11_42 rfl rfl rfl mX7_init (fun _ h => h) (K7_init 10 (a := a + 66) (show a + 68 < 100000 from mx_lt hcap (by decide)) (by decide) rfl hrl66 n17o s17o z17o) (by decide) (by decide) (by decide) rfl rfl (Nat.le_of_ble_eq_true rfl) (fun v z hv => ?_)
  obtain ⟨rfl, e17, rfl, n17, w17, z17, s17⟩ := hv
  have x17 := mx_made_st x17o (n16.trans n15) n17 w17
  have y17 := mx_made_sa (f := 999) (fun j _ => y17o a j) (mx_ap (by decide)) w17
  have oo16 := x16.is oo15
  have oo17 := x17.is oo16
  have o18 := oo17
  refine cx_putR (mx_d tX11_init_0 49 rfl) fX11_59 rfl ⟨_, rfl, rfl, rfl⟩ rfl rfl (fun q => q = a ∨ q = a + 184) (Or.inl rfl) o18 z17 (fun e18 n18 x18 y18 z18 r18 v18 => ?_)
  refine px_aload_n (mx_d tX11_init_0 50 rfl) rfl rfl ?_
  refine cx_new (fun q => q = a ∨ q = a + 184) a (a + 68) (mx_d tX11_init_0 51 rfl) kX11_62 rfl (n18.trans n17) (mx_lt hcap (by decide)) z18 (by decide) (by decide) (fun e19o n19o x19o y19o z19o s19o => ?_)
  refine px_dup (mx_d tX11_init_0 52 rfl) rfl ?_
  refine px_callI (mx_d tX11_init_0 53 rfl) iX11_64 rfl rfl rfl mX3_init (fun _ h => h) (K3_init (a := a + 68) (show a + 169 < 100000 from mx_lt hcap (by decide)) n19o s19o z19o) (by decide) (by decide) (by decide) rfl rfl (Nat.le_of_ble_eq_true rfl) (fun v z hv => ?_)
  obtain ⟨rfl, e19, rfl, n19, w19, z19, s19⟩ := hv
  have x19 := mx_made_st x19o (n18.trans n17) n19 w19
  have y19 := mx_made_sa (f := 999) (fun j _ => y19o a j) (mx_ap (by decide)) w19
  have oo18 := x18.is oo17
  have oo19 := x19.is oo18
  have o20 := oo19
  refine cx_putR (mx_d tX11_init_0 54 rfl) fX11_65 rfl ⟨_, rfl, rfl, rfl⟩ rfl rfl (fun q => q = a ∨ q = a + 184) (Or.inl rfl) o20 z19 (fun e20 n20 x20 y20 z20 r20 v20 => ?_)
  refine px_aload_n (mx_d tX11_init_0 55 rfl) rfl rfl ?_
  refine cx_new (fun q => q = a ∨ q = a + 184) a (a + 169) (mx_d tX11_init_0 56 rfl) kX11_69 rfl (n20.trans n19) (mx_lt hcap (by decide)) z20 (by decide) (by decide) (fun e21o n21o x21o y21o z21o s21o => ?_)
  refine px_dup (mx_d tX11_init_0 57 rfl) rfl ?_
  refine px_callIN (mx_d tX11_init_0 58 rfl) nX11_71 rfl rfl rfl mX0_init (fun _ h => h) (K0_init (a := a + 169) (show a + 174 < 100000 from mx_lt hcap (by decide)) n21o s21o z21o) (by decide) (by decide) (by decide) rfl rfl (Nat.le_of_ble_eq_true rfl) (fun v z hv => ?_)
  obtain ⟨rfl, e21, rfl, n21, w21, z21, s21⟩ := hv
  have x21 := mx_made_st x21o (n20.trans n19) n21 w21
  have y21 := mx_made_sa (f := 999) (fun j _ => y21o a j) (mx_ap (by decide)) w21
  have oo20 := x20.is oo19
  have oo21 := x21.is oo20
  have o22 := oo21
  refine cx_putR (mx_d tX11_init_0 59 rfl) fX11_72 rfl ⟨_, rfl, rfl, rfl⟩ rfl rfl (fun q => q = a ∨ q = a + 184) (Or.inl rfl) o22 z21 (fun e22 n22 x22 y22 z22 r22 v22 => ?_)
  refine px_aload_n (mx_d tX11_init_1 0 rfl) rfl rfl ?_
  refine cx_new (fun q => q = a ∨ q = a + 184) a (a + 174) (mx_d tX11_init_1 1 rfl) kX11_76 rfl (n22.trans n21) (mx_lt hcap (by decide)) z22 (by decide) (by decide) (fun e23o n23o x23o y23o z23o s23o => ?_)
  refine px_dup (mx_d tX11_init_1 2 rfl) rfl ?_
  refine px_callIN (mx_d tX11_init_1 3 rfl) nX11_78 rfl rfl rfl mX8_init (fun _ h => h) (K8_init (a := a + 174) (show a + 179 < 100000 from mx_lt hcap (by decide)) n23o s23o z23o) (by decide) (by decide) (by decide) rfl rfl (Nat.le_of_ble_eq_true rfl) (fun v z hv => ?_)
  obtain ⟨rfl, e23, rfl, n23, w23, z23, s23⟩ := hv
  have x23 := mx_made_st x23o (n22.trans n21) n23 w23
  have y23 := mx_made_sa (f := 999) (fun j _ => y23o a j) (mx_ap (by decide)) w23
  have oo22 := x22.is oo21
  have oo23 := x23.is oo22
  have o24 := oo23
  refine cx_putR (mx_d tX11_init_1 4 rfl) fX11_79 rfl ⟨_, rfl, rfl, rfl⟩ rfl rfl (fun q => q = a ∨ q = a + 184) (Or.inl rfl) o24 z23 (fun e24 n24 x24 y24 z24 r24 v24 => ?_)
  refine px_aload_n (mx_d tX11_init_1 5 rfl) rfl rfl ?_
  refine cx_new (fun q => q = a ∨ q = a + 184) a (a + 179) (mx_d tX11_init_1 6 rfl) kX11_76 rfl (n24.trans n23) (mx_lt hcap (by decide)) z24 (by decide) (by decide) (fun e25o n25o x25o y25o z25o s25o => ?_)
  refine px_dup (mx_d tX11_init_1 7 rfl) rfl ?_
  refine px_callIN (mx_d tX11_init_1 8 rfl) nX11_78 rfl rfl rfl mX8_init (fun _ h => h) (K8_init (a := a + 179) (show a + 184 < 100000 from mx_lt hcap (by decide)) n25o s25o z25o) (by decide) (by decide) (by decide) rfl rfl (Nat.le_of_ble_eq_true rfl) (fun v z hv => ?_)
  obtain ⟨rfl, e25, rfl, n25, w25, z25, s25⟩ := hv
  have x25 := mx_made_st x25o (n24.trans n23) n25 w25
  have y25 := mx_made_sa (f := 999) (fun j _ => y25o a j) (mx_ap (by decide)) w25
  have oo24 := x24.is oo23
  have oo25 := x25.is oo24
  have o26 := oo25
  refine cx_putR (mx_d tX11_init_1 9 rfl) fX11_83 rfl ⟨_, rfl, rfl, rfl⟩ rfl rfl (fun q => q = a ∨ q = a + 184) (Or.inl rfl) o26 z25 (fun e26 n26 x26 y26 z26 r26 v26 => ?_)
  refine px_aload_n (mx_d tX11_init_1 10 rfl) rfl rfl ?_
  refine px_iconst (2) (mx_d tX11_init_1 11 rfl) (by decide) ?_
  refine cx_newR 2 4 (fun q => q = a ∨ q = a + 184) a (a + 184) (Or.inr ⟨rfl, rfl⟩) (mx_d tX11_init_1 12 rfl) rfl qX11_86 (fun _ h => h.2.2.1) (by decide) (by decide) (n26.trans n25) (mx_lt hcap (by decide)) z26 (by decide) (by decide) (fun e27 n27 x27 y27 z27 s27 => ?_)
  have oo26 := x26.is oo25
  have oo27 := x27.is oo26
  have o28 := oo27
  refine cx_putR (mx_d tX11_init_1 13 rfl) fX11_88 rfl ⟨_, rfl, rfl, rfl⟩ rfl rfl (fun q => q = a ∨ q = a + 184) (Or.inl rfl) o28 z27 (fun e28 n28 x28 y28 z28 r28 v28 => ?_)
  refine px_aload_n (mx_d tX11_init_1 14 rfl) rfl rfl ?_
  refine cx_new (fun q => q = a ∨ q = a + 184) a (a + 185) (mx_d tX11_init_1 15 rfl) kX11_92 rfl (n28.trans n27) (mx_lt hcap (by decide)) z28 (by decide) (by decide) (fun e29o n29o x29o y29o z29o s29o => ?_)
  refine px_dup (mx_d tX11_init_1 16 rfl) rfl ?_
  refine px_callIN (mx_d tX11_init_1 17 rfl) nX11_94 rfl rfl rfl mX1_init (fun _ h => h) (K1_init (a := a + 185) (show a + 186 < 100000 from mx_lt hcap (by decide)) n29o s29o z29o) (by decide) (by decide) (by decide) rfl rfl (Nat.le_of_ble_eq_true rfl) (fun v z hv => ?_)
  obtain ⟨rfl, e29, rfl, n29, w29, z29, s29⟩ := hv
  have x29 := mx_made_st x29o (n28.trans n27) n29 w29
  have y29 := mx_made_sa (f := 999) (fun j _ => y29o a j) (mx_ap (by decide)) w29
  have oo28 := x28.is oo27
  have oo29 := x29.is oo28
  have o30 := oo29
  refine cx_putR (mx_d tX11_init_1 18 rfl) fX11_95 rfl ⟨_, rfl, rfl, rfl⟩ rfl rfl (fun q => q = a ∨ q = a + 184) (Or.inl rfl) o30 z29 (fun e30 n30 x30 y30 z30 r30 v30 => ?_)
  refine px_aload_n (mx_d tX11_init_1 19 rfl) rfl rfl ?_
  refine cx_new (fun q => q = a ∨ q = a + 184) a (a + 186) (mx_d tX11_init_1 20 rfl) kX11_40 rfl (n30.trans n29) (mx_lt hcap (by decide)) z30 (by decide) (by decide) (fun e31o n31o x31o y31o z31o s31o => ?_)
  refine px_dup (mx_d tX11_init_1 21 rfl) rfl ?_
  refine px_bipush (40) (mx_d tX11_init_1 22 rfl) (by decide) ?_
  refine px_callI (mx_d tX11_init_1 23 rfl) iX11_42 rfl rfl rfl mX7_init (fun _ h => h) (K7_init 40 (a := a + 186) (show a + 188 < 100000 from mx_lt hcap (by decide)) (by decide) rfl hrl186 n31o s31o z31o) (by decide) (by decide) (by decide) rfl rfl (Nat.le_of_ble_eq_true rfl) (fun v z hv => ?_)
  obtain ⟨rfl, e31, rfl, n31, w31, z31, s31⟩ := hv
  have x31 := mx_made_st x31o (n30.trans n29) n31 w31
  have y31 := mx_made_sa (f := 999) (fun j _ => y31o a j) (mx_ap (by decide)) w31
  have oo30 := x30.is oo29
  have oo31 := x31.is oo30
  have o32 := oo31
  refine cx_putR (mx_d tX11_init_1 24 rfl) fX11_99 rfl ⟨_, rfl, rfl, rfl⟩ rfl rfl (fun q => q = a ∨ q = a + 184) (Or.inl rfl) o32 z31 (fun e32 n32 x32 y32 z32 r32 v32 => ?_)
  refine px_aload_n (mx_d tX11_init_1 25 rfl) rfl rfl ?_
  refine px_iconst ((-1)) (mx_d tX11_init_1 26 rfl) (by decide) ?_
  have oo32 := x32.is oo31
  refine px_putI (mx_d tX11_init_1 27 rfl) fX11_102 rfl ⟨_, rfl, rfl⟩ rfl oo32 ?_
  have zz33 := mx_zr_up (k := 16) (x := (-1)) (oo32).1 z32
  refine px_aload_n (mx_d tX11_init_1 28 rfl) rfl rfl ?_
  refine px_iconst ((-1)) (mx_d tX11_init_1 29 rfl) (by decide) ?_
  refine px_putI (mx_d tX11_init_1 30 rfl) fX11_106 rfl ⟨_, rfl, rfl⟩ rfl oo32 ?_
  have zz34 := mx_zr_up (k := 18) (x := (-1)) (oo32).1 zz33
  refine px_iconst (0) (mx_d tX11_init_1 31 rfl) (by decide) ?_
  refine px_istore_n (L2 := [.ref a, .int 0]) (mx_d tX11_init_1 32 rfl) rfl (by decide) rfl ?_
  refine px_iload_n (mx_d tX11_init_1 33 rfl) rfl rfl ?_
  refine px_iconst (2) (mx_d tX11_init_1 34 rfl) (by decide) ?_
  refine px_icmp_ge (tgt := 221) (mx_d tX11_init_1 35 rfl) (by decide) (fun hd_ => absurd hd_ (by decide)) (fun _ => ?_)
  refine px_aload_n (mx_d tX11_init_1 36 rfl) rfl rfl ?_
  refine px_getR (mx_d tX11_init_1 37 rfl) fX11_88 rfl rfl oo32 ((y32 13 (by decide)).trans ((y31 13 (by decide)).trans ((y30 13 (by decide)).trans ((y29 13 (by decide)).trans r28)))) ?_
  refine px_iload_n (mx_d tX11_init_1 38 rfl) rfl rfl ?_
  refine cx_new (fun q => q = a ∨ q = a + 184) a (a + 188) (mx_d tX11_init_1 39 rfl) kX11_86 rfl (n32.trans n31) (mx_lt hcap (by decide)) zz34 (by decide) (by decide) (fun e35o n35o x35o y35o z35o s35o => ?_)
  refine px_dup (mx_d tX11_init_1 40 rfl) rfl ?_
  refine px_callIN (mx_d tX11_init_1 41 rfl) nX11_109 rfl rfl rfl mX6_init (fun _ h => h) (K6_init (a := a + 188) (show a + 205 < 100000 from mx_lt hcap (by decide)) n35o s35o z35o) (by decide) (by decide) (by decide) rfl rfl (Nat.le_of_ble_eq_true rfl) (fun v z hv => ?_)
  obtain ⟨rfl, e35, rfl, n35, w35, z35, s35⟩ := hv
  have x35 := mx_made_st x35o (n32.trans n31) n35 w35
  have y35 := mx_made_sa (f := 999) (fun j _ => y35o a j) (mx_ap (by decide)) w35
  have pp184_28 := x28.is s27
  have pp184_29 := x29.is pp184_28
  have pp184_30 := x30.is pp184_29
  have pp184_31 := x31.is pp184_30
  have pp184_32 := x32.is pp184_31
  have pp184_35 := x35.is pp184_32
  refine cx_aastore (fun q => q = a ∨ q = a + 184) a 0 (Or.inr rfl) (Nat.ne_of_lt (mx_ap (by decide))) (by decide) (Or.inr ⟨rfl, rfl, rfl⟩) (mx_d tX11_init_1 42 rfl) pp184_35 (ly6_o s35) (mx_inbE (by decide)) z35 (fun e36 n36 x36 y36 z36 u36 r36 => ?_)
  refine px_iinc 1 (L2 := [.ref a, .int 1]) (mx_d tX11_init_1 43 rfl) rfl (by decide) (by decide) rfl ?_
  refine px_goto (tgt := 197) (mx_d tX11_init_1 44 rfl) (by decide) ?_
  refine px_iload_n (mx_d tX11_init_1 33 rfl) rfl rfl ?_
  refine px_iconst (2) (mx_d tX11_init_1 34 rfl) (by decide) ?_
  refine px_icmp_ge (tgt := 221) (mx_d tX11_init_1 35 rfl) (by decide) (fun hd_ => absurd hd_ (by decide)) (fun _ => ?_)
  refine px_aload_n (mx_d tX11_init_1 36 rfl) rfl rfl ?_
  have oo35 := x35.is oo32
  have oo36 := x36.is oo35
  refine px_getR (mx_d tX11_init_1 37 rfl) fX11_88 rfl rfl oo36 ((y36 13 (by decide)).trans ((y35 13 (by decide)).trans ((y32 13 (by decide)).trans ((y31 13 (by decide)).trans ((y30 13 (by decide)).trans ((y29 13 (by decide)).trans r28)))))) ?_
  refine px_iload_n (mx_d tX11_init_1 38 rfl) rfl rfl ?_
  refine cx_new (fun q => q = a ∨ q = a + 184) a (a + 205) (mx_d tX11_init_1 39 rfl) kX11_86 rfl (n36.trans n35) (mx_lt hcap (by decide)) z36 (by decide) (by decide) (fun e37o n37o x37o y37o z37o s37o => ?_)
  refine px_dup (mx_d tX11_init_1 40 rfl) rfl ?_
  refine px_callIN (mx_d tX11_init_1 41 rfl) nX11_109 rfl rfl rfl mX6_init (fun _ h => h) (K6_init (a := a + 205) (show a + 222 < 100000 from mx_lt hcap (by decide)) n37o s37o z37o) (by decide) (by decide) (by decide) rfl rfl (Nat.le_of_ble_eq_true rfl) (fun v z hv => ?_)
  obtain ⟨rfl, e37, rfl, n37, w37, z37, s37⟩ := hv
  have x37 := mx_made_st x37o (n36.trans n35) n37 w37
  have y37 := mx_made_sa (f := 999) (fun j _ => y37o a j) (mx_ap (by decide)) w37
  have pp184_36 := x36.is pp184_35
  have pp184_37 := x37.is pp184_36
  refine cx_aastore (fun q => q = a ∨ q = a + 184) a 1 (Or.inr rfl) (Nat.ne_of_lt (mx_ap (by decide))) (by decide) (Or.inr ⟨rfl, rfl, rfl⟩) (mx_d tX11_init_1 42 rfl) pp184_37 (ly6_o s37) (mx_inbE (by decide)) z37 (fun e38 n38 x38 y38 z38 u38 r38 => ?_)
  refine px_iinc 2 (L2 := [.ref a, .int 2]) (mx_d tX11_init_1 43 rfl) rfl (by decide) (by decide) rfl ?_
  refine px_goto (tgt := 197) (mx_d tX11_init_1 44 rfl) (by decide) ?_
  refine px_iload_n (mx_d tX11_init_1 33 rfl) rfl rfl ?_
  refine px_iconst (2) (mx_d tX11_init_1 34 rfl) (by decide) ?_
  refine px_icmp_ge (tgt := 221) (mx_d tX11_init_1 35 rfl) (by decide) (fun _ => ?_) (fun hd_ => absurd hd_ (by decide))
  have X38 := @mx_st.rf (fun q => q = a ∨ q = a + 184) e38
  have X37 := x38.tr X38
  have X36 := x37.tr X37
  have X35 := x36.tr X36
  have X32 := x35.tr X35
  have X31 := x32.tr X32
  have X30 := x31.tr X31
  have X29 := x30.tr X30
  have X28 := x29.tr X29
  have X27 := x28.tr X28
  have X26 := x27.tr X27
  have X25 := x26.tr X26
  have X24 := x25.tr X25
  have X23 := x24.tr X24
  have X22 := x23.tr X23
  have X21 := x22.tr X22
  have X20 := x21.tr X21
  have X19 := x20.tr X20
  have X18 := x19.tr X19
  have X17 := x18.tr X18
  have X16 := x17.tr X17
  have X15 := x16.tr X16
  have X14 := x15.tr X15
  have X13 := x14.tr X14
  have X12 := x13.tr X13
  have X11 := x12.tr X12
  have X10 := x11.tr X11
  have X9 := x10.tr X10
  have X8 := x9.tr X9
  have X7 := x8.tr X8
  have X6 := x7.tr X7
  have X5 := x6.tr X6
  have X4 := x5.tr X5
  have X3 := x4.tr X4
  have X2 := x3.tr X3
  have X1 := x2.tr X2
  have X0 := x1.tr X1
  have EL : ∀ i, i < 2 → e38.2.2 (a + 184) i = some (a + 188 + 17 * i) ∧ ly6 e38 (a + 188 + 17 * i) := by
    intro i hi
    rcases (show i = 0 ∨ i = 1 by omega) with rfl | rfl
    · exact (show e38.2.2 (a + 184) 0 = some (a + 188) ∧ ly6 e38 (a + 188) from ⟨((u38 0 (by decide)).trans ((((w37 (a + 184) (mx_al2 (by decide))).2 0).trans (y37o (a + 184) 0)).trans r36)), (ly6_ext X35.1 (X35.kp2 (x := a + 188) (mx_ap (by decide)) (Or.inr (mx_al2 (by decide))) n35) s35)⟩)
    · exact (show e38.2.2 (a + 184) 1 = some (a + 205) ∧ ly6 e38 (a + 205) from ⟨r38, (ly6_ext X37.1 (X37.kp2 (x := a + 205) (mx_ap (by decide)) (Or.inr (mx_al2 (by decide))) n37) s37)⟩)
  have LY : ly11 e38 a := ⟨X0.is h0, ⟨((y38 0 (by decide)).trans ((y37 0 (by decide)).trans ((y36 0 (by decide)).trans ((y35 0 (by decide)).trans ((y32 0 (by decide)).trans ((y31 0 (by decide)).trans ((y30 0 (by decide)).trans ((y29 0 (by decide)).trans ((y28 0 (by decide)).trans ((y27 a 0).trans ((y26 0 (by decide)).trans ((y25 0 (by decide)).trans ((y24 0 (by decide)).trans ((y23 0 (by decide)).trans ((y22 0 (by decide)).trans ((y21 0 (by decide)).trans ((y20 0 (by decide)).trans ((y19 0 (by decide)).trans ((y18 0 (by decide)).trans ((y17 0 (by decide)).trans ((y16 0 (by decide)).trans ((y15 0 (by decide)).trans ((y14 0 (by decide)).trans ((y13 0 (by decide)).trans ((y12 0 (by decide)).trans ((y11 0 (by decide)).trans ((y10 0 (by decide)).trans ((y9 0 (by decide)).trans ((y8 0 (by decide)).trans ((y7 0 (by decide)).trans ((y6 0 (by decide)).trans ((y5 0 (by decide)).trans ((y4 0 (by decide)).trans ((y3 0 (by decide)).trans r2)))))))))))))))))))))))))))))))))), (ly10_ext X1.1 (X1.kp2 (x := a + 1) (mx_ap (by decide)) (Or.inl (show a + 4 ≤ a + 184 from Nat.add_le_add_left (by decide) a)) n1) s1)⟩, ⟨((y38 1 (by decide)).trans ((y37 1 (by decide)).trans ((y36 1 (by decide)).trans ((y35 1 (by decide)).trans ((y32 1 (by decide)).trans ((y31 1 (by decide)).trans ((y30 1 (by decide)).trans ((y29 1 (by decide)).trans ((y28 1 (by decide)).trans ((y27 a 1).trans ((y26 1 (by decide)).trans ((y25 1 (by decide)).trans ((y24 1 (by decide)).trans ((y23 1 (by decide)).trans ((y22 1 (by decide)).trans ((y21 1 (by decide)).trans ((y20 1 (by decide)).trans ((y19 1 (by decide)).trans ((y18 1 (by decide)).trans ((y17 1 (by decide)).trans ((y16 1 (by decide)).trans ((y15 1 (by decide)).trans ((y14 1 (by decide)).trans ((y13 1 (by decide)).trans ((y12 1 (by decide)).trans ((y11 1 (by decide)).trans ((y10 1 (by decide)).trans ((y9 1 (by decide)).trans ((y8 1 (by decide)).trans ((y7 1 (by decide)).trans ((y6 1 (by decide)).trans ((y5 1 (by decide)).trans r4)))))))))))))))))))))))))))))))), (ly4_ext X3.1 (X3.kp2 (x := a + 4) (mx_ap (by decide)) (Or.inl (show a + 15 ≤ a + 184 from Nat.add_le_add_left (by decide) a)) n3) s3)⟩, ⟨((y38 2 (by decide)).trans ((y37 2 (by decide)).trans ((y36 2 (by decide)).trans ((y35 2 (by decide)).trans ((y32 2 (by decide)).trans ((y31 2 (by decide)).trans ((y30 2 (by decide)).trans ((y29 2 (by decide)).trans ((y28 2 (by decide)).trans ((y27 a 2).trans ((y26 2 (by decide)).trans ((y25 2 (by decide)).trans ((y24 2 (by decide)).trans ((y23 2 (by decide)).trans ((y22 2 (by decide)).trans ((y21 2 (by decide)).trans ((y20 2 (by decide)).trans ((y19 2 (by decide)).trans ((y18 2 (by decide)).trans ((y17 2 (by decide)).trans ((y16 2 (by decide)).trans ((y15 2 (by decide)).trans ((y14 2 (by decide)).trans ((y13 2 (by decide)).trans ((y12 2 (by decide)).trans ((y11 2 (by decide)).trans ((y10 2 (by decide)).trans ((y9 2 (by decide)).trans ((y8 2 (by decide)).trans ((y7 2 (by decide)).trans r6)))))))))))))))))))))))))))))), (ly4_ext X5.1 (X5.kp2 (x := a + 15) (mx_ap (by decide)) (Or.inl (show a + 26 ≤ a + 184 from Nat.add_le_add_left (by decide) a)) n5) s5)⟩, ⟨((y38 3 (by decide)).trans ((y37 3 (by decide)).trans ((y36 3 (by decide)).trans ((y35 3 (by decide)).trans ((y32 3 (by decide)).trans ((y31 3 (by decide)).trans ((y30 3 (by decide)).trans ((y29 3 (by decide)).trans ((y28 3 (by decide)).trans ((y27 a 3).trans ((y26 3 (by decide)).trans ((y25 3 (by decide)).trans ((y24 3 (by decide)).trans ((y23 3 (by decide)).trans ((y22 3 (by decide)).trans ((y21 3 (by decide)).trans ((y20 3 (by decide)).trans ((y19 3 (by decide)).trans ((y18 3 (by decide)).trans ((y17 3 (by decide)).trans ((y16 3 (by decide)).trans ((y15 3 (by decide)).trans ((y14 3 (by decide)).trans ((y13 3 (by decide)).trans ((y12 3 (by decide)).trans ((y11 3 (by decide)).trans ((y10 3 (by decide)).trans ((y9 3 (by decide)).trans r8)))))))))))))))))))))))))))), (ly5_ext X7.1 (X7.kp2 (x := a + 26) (mx_ap (by decide)) (Or.inl (show a + 38 ≤ a + 184 from Nat.add_le_add_left (by decide) a)) n7) s7)⟩, ⟨((y38 4 (by decide)).trans ((y37 4 (by decide)).trans ((y36 4 (by decide)).trans ((y35 4 (by decide)).trans ((y32 4 (by decide)).trans ((y31 4 (by decide)).trans ((y30 4 (by decide)).trans ((y29 4 (by decide)).trans ((y28 4 (by decide)).trans ((y27 a 4).trans ((y26 4 (by decide)).trans ((y25 4 (by decide)).trans ((y24 4 (by decide)).trans ((y23 4 (by decide)).trans ((y22 4 (by decide)).trans ((y21 4 (by decide)).trans ((y20 4 (by decide)).trans ((y19 4 (by decide)).trans ((y18 4 (by decide)).trans ((y17 4 (by decide)).trans ((y16 4 (by decide)).trans ((y15 4 (by decide)).trans ((y14 4 (by decide)).trans ((y13 4 (by decide)).trans ((y12 4 (by decide)).trans ((y11 4 (by decide)).trans r10)))))))))))))))))))))))))), (ly9_ext X9.1 (X9.kp2 (x := a + 38) (mx_ap (by decide)) (Or.inl (show a + 41 ≤ a + 184 from Nat.add_le_add_left (by decide) a)) n9) s9)⟩, ⟨((y38 5 (by decide)).trans ((y37 5 (by decide)).trans ((y36 5 (by decide)).trans ((y35 5 (by decide)).trans ((y32 5 (by decide)).trans ((y31 5 (by decide)).trans ((y30 5 (by decide)).trans ((y29 5 (by decide)).trans ((y28 5 (by decide)).trans ((y27 a 5).trans ((y26 5 (by decide)).trans ((y25 5 (by decide)).trans ((y24 5 (by decide)).trans ((y23 5 (by decide)).trans ((y22 5 (by decide)).trans ((y21 5 (by decide)).trans ((y20 5 (by decide)).trans ((y19 5 (by decide)).trans ((y18 5 (by decide)).trans ((y17 5 (by decide)).trans ((y16 5 (by decide)).trans ((y15 5 (by decide)).trans ((y14 5 (by decide)).trans ((y13 5 (by decide)).trans r12)))))))))))))))))))))))), (ly7_ext X11.1 (X11.kp2 (x := a + 41) (mx_ap (by decide)) (Or.inl (show a + 43 ≤ a + 184 from Nat.add_le_add_left (by decide) a)) n11) s11)⟩, ⟨((y38 6 (by decide)).trans ((y37 6 (by decide)).trans ((y36 6 (by decide)).trans ((y35 6 (by decide)).trans ((y32 6 (by decide)).trans ((y31 6 (by decide)).trans ((y30 6 (by decide)).trans ((y29 6 (by decide)).trans ((y28 6 (by decide)).trans ((y27 a 6).trans ((y26 6 (by decide)).trans ((y25 6 (by decide)).trans ((y24 6 (by decide)).trans ((y23 6 (by decide)).trans ((y22 6 (by decide)).trans ((y21 6 (by decide)).trans ((y20 6 (by decide)).trans ((y19 6 (by decide)).trans ((y18 6 (by decide)).trans ((y17 6 (by decide)).trans ((y16 6 (by decide)).trans ((y15 6 (by decide)).trans r14)))))))))))))))))))))), (ly7_ext X13.1 (X13.kp2 (x := a + 43) (mx_ap (by decide)) (Or.inl (show a + 45 ≤ a + 184 from Nat.add_le_add_left (by decide) a)) n13) s13)⟩, ⟨((y38 7 (by decide)).trans ((y37 7 (by decide)).trans ((y36 7 (by decide)).trans ((y35 7 (by decide)).trans ((y32 7 (by decide)).trans ((y31 7 (by decide)).trans ((y30 7 (by decide)).trans ((y29 7 (by decide)).trans ((y28 7 (by decide)).trans ((y27 a 7).trans ((y26 7 (by decide)).trans ((y25 7 (by decide)).trans ((y24 7 (by decide)).trans ((y23 7 (by decide)).trans ((y22 7 (by decide)).trans ((y21 7 (by decide)).trans ((y20 7 (by decide)).trans ((y19 7 (by decide)).trans ((y18 7 (by decide)).trans ((y17 7 (by decide)).trans r16)))))))))))))))))))), (ly2_ext X15.1 (X15.kp2 (x := a + 45) (mx_ap (by decide)) (Or.inl (show a + 66 ≤ a + 184 from Nat.add_le_add_left (by decide) a)) n15) s15)⟩, ⟨((y38 8 (by decide)).trans ((y37 8 (by decide)).trans ((y36 8 (by decide)).trans ((y35 8 (by decide)).trans ((y32 8 (by decide)).trans ((y31 8 (by decide)).trans ((y30 8 (by decide)).trans ((y29 8 (by decide)).trans ((y28 8 (by decide)).trans ((y27 a 8).trans ((y26 8 (by decide)).trans ((y25 8 (by decide)).trans ((y24 8 (by decide)).trans ((y23 8 (by decide)).trans ((y22 8 (by decide)).trans ((y21 8 (by decide)).trans ((y20 8 (by decide)).trans ((y19 8 (by decide)).trans r18)))))))))))))))))), (ly7_ext X17.1 (X17.kp2 (x := a + 66) (mx_ap (by decide)) (Or.inl (show a + 68 ≤ a + 184 from Nat.add_le_add_left (by decide) a)) n17) s17)⟩, ⟨((y38 9 (by decide)).trans ((y37 9 (by decide)).trans ((y36 9 (by decide)).trans ((y35 9 (by decide)).trans ((y32 9 (by decide)).trans ((y31 9 (by decide)).trans ((y30 9 (by decide)).trans ((y29 9 (by decide)).trans ((y28 9 (by decide)).trans ((y27 a 9).trans ((y26 9 (by decide)).trans ((y25 9 (by decide)).trans ((y24 9 (by decide)).trans ((y23 9 (by decide)).trans ((y22 9 (by decide)).trans ((y21 9 (by decide)).trans r20)))))))))))))))), (ly3_ext X19.1 (X19.kp2 (x := a + 68) (mx_ap (by decide)) (Or.inl (show a + 169 ≤ a + 184 from Nat.add_le_add_left (by decide) a)) n19) s19)⟩, ⟨((y38 10 (by decide)).trans ((y37 10 (by decide)).trans ((y36 10 (by decide)).trans ((y35 10 (by decide)).trans ((y32 10 (by decide)).trans ((y31 10 (by decide)).trans ((y30 10 (by decide)).trans ((y29 10 (by decide)).trans ((y28 10 (by decide)).trans ((y27 a 10).trans ((y26 10 (by decide)).trans ((y25 10 (by decide)).trans ((y24 10 (by decide)).trans ((y23 10 (by decide)).trans r22)))))))))))))), (ly0_ext X21.1 (X21.kp2 (x := a + 169) (mx_ap (by decide)) (Or.inl (show a + 174 ≤ a + 184 from Nat.add_le_add_left (by decide) a)) n21) s21)⟩, ⟨((y38 11 (by decide)).trans ((y37 11 (by decide)).trans ((y36 11 (by decide)).trans ((y35 11 (by decide)).trans ((y32 11 (by decide)).trans ((y31 11 (by decide)).trans ((y30 11 (by decide)).trans ((y29 11 (by decide)).trans ((y28 11 (by decide)).trans ((y27 a 11).trans ((y26 11 (by decide)).trans ((y25 11 (by decide)).trans r24)))))))))))), (ly8_ext X23.1 (X23.kp2 (x := a + 174) (mx_ap (by decide)) (Or.inl (show a + 179 ≤ a + 184 from Nat.add_le_add_left (by decide) a)) n23) s23)⟩, ⟨((y38 12 (by decide)).trans ((y37 12 (by decide)).trans ((y36 12 (by decide)).trans ((y35 12 (by decide)).trans ((y32 12 (by decide)).trans ((y31 12 (by decide)).trans ((y30 12 (by decide)).trans ((y29 12 (by decide)).trans ((y28 12 (by decide)).trans ((y27 a 12).trans r26)))))))))), (ly8_ext X25.1 (X25.kp2 (x := a + 179) (mx_ap (by decide)) (Or.inl (show a + 184 ≤ a + 184 from Nat.add_le_add_left (by decide) a)) n25) s25)⟩, ⟨((y38 13 (by decide)).trans ((y37 13 (by decide)).trans ((y36 13 (by decide)).trans ((y35 13 (by decide)).trans ((y32 13 (by decide)).trans ((y31 13 (by decide)).trans ((y30 13 (by decide)).trans ((y29 13 (by decide)).trans r28)))))))), X27.is s27, EL⟩, ⟨((y38 14 (by decide)).trans ((y37 14 (by decide)).trans ((y36 14 (by decide)).trans ((y35 14 (by decide)).trans ((y32 14 (by decide)).trans ((y31 14 (by decide)).trans r30)))))), (ly1_ext X29.1 (X29.kp2 (x := a + 185) (mx_ap (by decide)) (Or.inr (mx_al2 (by decide))) n29) s29)⟩, ⟨((y38 15 (by decide)).trans ((y37 15 (by decide)).trans ((y36 15 (by decide)).trans ((y35 15 (by decide)).trans r32)))), (ly7_ext X31.1 (X31.kp2 (x := a + 186) (mx_ap (by decide)) (Or.inr (mx_al2 (by decide))) n31) s31)⟩⟩
  exact px_return (mx_d tX11_init_1 45 rfl) rfl ⟨rfl, e38, rfl, (n38.trans n37), mx_x2 hn X0, z38, LY⟩
