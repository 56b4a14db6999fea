set_option maxRecDepth 20000 in
set_option maxHeartbeats 8000000 in
theorem K12_init {G : mG} {l : Launch} {a : Nat} {e : mE} {mi : mI} {mj : mJ} {r : mB} (hS : FX12_startSo a ((mx_up (mx_up (mx_up (mx_up (mx_up (mx_up (mx_up (mx_up (mx_up (mx_up (mx_up (mx_up mi a 32 (-1)) a 48 (-1)) (a + 2) 93 (-1)) (a + 2) 94 (-1)) (a + 2) 95 (-1)) (a + 2) 96 (-1)) (a + 2) 97 (-1)) (a + 2) 98 (-1)) (a + 2) 99 (-1)) (a + 2) 100 (-1)) (a + 2) 101 (-1)) (a + 2) 102 (-1)), mj) = some r) (hrz : ∀ i, a + 27 ≤ i → ∀ j, r.1 i j = 0 ∧ r.2 i j = 0) (hcap : a + 27 < 100000) (hn : e.1 = a + 1) (h0 : mx_is e a 12 0) (hz : mx_zr e mi mj) :
    mx_CallN G l MX12_init 2 26 3727 [.ref a] (e, mi, mj) (mx_made ly12 a 27 e mi mj r.1 r.2) := by
  refine px_entryN (L := [.ref a, .float 0]) (by decide +kernel) (Nat.le_of_ble_eq_true rfl) rfl ?_
  refine px_aload_n (mx_d tX12_init_0 0 rfl) rfl rfl ?_
  refine px_objInit (mx_d tX12_init_0 1 rfl) rfl oX12_93 w_obj1 w_obj2 (by decide) (Nat.le_of_ble_eq_true rfl) ?_
  refine px_aload_n (mx_d tX12_init_0 2 rfl) rfl rfl ?_
  refine px_sipush (940) (mx_d tX12_init_0 3 rfl) (by decide) ?_
  refine cx_newI 940 (fun q => q = a) a (a + 1) (mx_d tX12_init_0 4 rfl) w_arrI (by decide) (by decide) hn (mx_lt hcap (by decide)) hz (by decide) (by decide) (fun e1 n1 x1 y1 z1 s1 => ?_)
  have oo1 := x1.is h0
  have o2 := oo1
  refine cx_putR (mx_d tX12_init_0 5 rfl) fX12_7 rfl ⟨_, rfl, rfl, rfl⟩ rfl rfl (fun q => q = a) rfl o2 z1 (fun e2 n2 x2 y2 z2 r2 v2 => ?_)
  refine px_aload_n (mx_d tX12_init_0 6 rfl) rfl rfl ?_
  refine px_sipush (432) (mx_d tX12_init_0 7 rfl) (by decide) ?_
  refine cx_newI 432 (fun q => q = a) a (a + 2) (mx_d tX12_init_0 8 rfl) w_arrI (by decide) (by decide) (n2.trans n1) (mx_lt hcap (by decide)) z2 (by decide) (by decide) (fun e3 n3 x3 y3 z3 s3 => ?_)
  have oo2 := x2.is oo1
  have oo3 := x3.is oo2
  have o4 := oo3
  refine cx_putR (mx_d tX12_init_0 9 rfl) fX12_98 rfl ⟨_, rfl, rfl, rfl⟩ rfl rfl (fun q => q = a) rfl o4 z3 (fun e4 n4 x4 y4 z4 r4 v4 => ?_)
  refine px_aload_n (mx_d tX12_init_0 10 rfl) rfl rfl ?_
  refine px_bipush (125) (mx_d tX12_init_0 11 rfl) (by decide) ?_
  refine cx_newI 125 (fun q => q = a) a (a + 3) (mx_d tX12_init_0 12 rfl) w_arrI (by decide) (by decide) (n4.trans n3) (mx_lt hcap (by decide)) z4 (by decide) (by decide) (fun e5 n5 x5 y5 z5 s5 => ?_)
  have oo4 := x4.is oo3
  have oo5 := x5.is oo4
  have o6 := oo5
  refine cx_putR (mx_d tX12_init_0 13 rfl) fX12_101 rfl ⟨_, rfl, rfl, rfl⟩ rfl rfl (fun q => q = a) rfl o6 z5 (fun e6 n6 x6 y6 z6 r6 v6 => ?_)
  refine px_aload_n (mx_d tX12_init_0 14 rfl) rfl rfl ?_
  refine px_sipush (864) (mx_d tX12_init_0 15 rfl) (by decide) ?_
  refine cx_newI 864 (fun q => q = a) a (a + 4) (mx_d tX12_init_0 16 rfl) w_arrI (by decide) (by decide) (n6.trans n5) (mx_lt hcap (by decide)) z6 (by decide) (by decide) (fun e7 n7 x7 y7 z7 s7 => ?_)
  have oo6 := x6.is oo5
  have oo7 := x7.is oo6
  have o8 := oo7
  refine cx_putR (mx_d tX12_init_0 17 rfl) fX12_104 rfl ⟨_, rfl, rfl, rfl⟩ rfl rfl (fun q => q = a) rfl o8 z7 (fun e8 n8 x8 y8 z8 r8 v8 => ?_)
  refine px_aload_n (mx_d tX12_init_0 18 rfl) rfl rfl ?_
  refine px_sipush (520) (mx_d tX12_init_0 19 rfl) (by decide) ?_
  refine cx_newI 520 (fun q => q = a) a (a + 5) (mx_d tX12_init_0 20 rfl) w_arrI (by decide) (by decide) (n8.trans n7) (mx_lt hcap (by decide)) z8 (by decide) (by decide) (fun e9 n9 x9 y9 z9 s9 => ?_)
  have oo8 := x8.is oo7
  have oo9 := x9.is oo8
  have o10 := oo9
  refine cx_putR (mx_d tX12_init_0 21 rfl) fX12_107 rfl ⟨_, rfl, rfl, rfl⟩ rfl rfl (fun q => q = a) rfl o10 z9 (fun e10 n10 x10 y10 z10 r10 v10 => ?_)
  refine px_aload_n (mx_d tX12_init_0 22 rfl) rfl rfl ?_
  refine px_bipush (65) (mx_d tX12_init_0 23 rfl) (by decide) ?_
  refine cx_newI 65 (fun q => q = a) a (a + 6) (mx_d tX12_init_0 24 rfl) w_arrI (by decide) (by decide) (n10.trans n9) (mx_lt hcap (by decide)) z10 (by decide) (by decide) (fun e11 n11 x11 y11 z11 s11 => ?_)
  have oo10 := x10.is oo9
  have oo11 := x11.is oo10
  have o12 := oo11
  refine cx_putR (mx_d tX12_init_0 25 rfl) fX12_110 rfl ⟨_, rfl, rfl, rfl⟩ rfl rfl (fun q => q = a) rfl o12 z11 (fun e12 n12 x12 y12 z12 r12 v12 => ?_)
  refine px_aload_n (mx_d tX12_init_0 26 rfl) rfl rfl ?_
  refine px_bipush (65) (mx_d tX12_init_0 27 rfl) (by decide) ?_
  refine cx_newI 65 (fun q => q = a) a (a + 7) (mx_d tX12_init_0 28 rfl) w_arrI (by decide) (by decide) (n12.trans n11) (mx_lt hcap (by decide)) z12 (by decide) (by decide) (fun e13 n13 x13 y13 z13 s13 => ?_)
  have oo12 := x12.is oo11
  have oo13 := x13.is oo12
  have o14 := oo13
  refine cx_putR (mx_d tX12_init_0 29 rfl) fX12_113 rfl ⟨_, rfl, rfl, rfl⟩ rfl rfl (fun q => q = a) rfl o14 z13 (fun e14 n14 x14 y14 z14 r14 v14 => ?_)
  refine px_aload_n (mx_d tX12_init_0 30 rfl) rfl rfl ?_
  refine px_bipush (10) (mx_d tX12_init_0 31 rfl) (by decide) ?_
  refine cx_newJ 10 (fun q => q = a) a (a + 8) (mx_d tX12_init_0 32 rfl) w_arrJ (by decide) (by decide) (n14.trans n13) (mx_lt hcap (by decide)) z14 (by decide) (by decide) (fun e15 n15 x15 y15 z15 s15 => ?_)
  have oo14 := x14.is oo13
  have oo15 := x15.is oo14
  have o16 := oo15
  refine cx_putR (mx_d tX12_init_0 33 rfl) fX12_116 rfl ⟨_, rfl, rfl, rfl⟩ rfl rfl (fun q => q = a) rfl o16 z15 (fun e16 n16 x16 y16 z16 r16 v16 => ?_)
  refine px_aload_n (mx_d tX12_init_0 34 rfl) rfl rfl ?_
  refine px_bipush (10) (mx_d tX12_init_0 35 rfl) (by decide) ?_
  refine cx_newJ 10 (fun q => q = a) a (a + 9) (mx_d tX12_init_0 36 rfl) w_arrJ (by decide) (by decide) (n16.trans n15) (mx_lt hcap (by decide)) z16 (by decide) (by decide) (fun e17 n17 x17 y17 z17 s17 => ?_)
  have oo16 := x16.is oo15
  have oo17 := x17.is oo16
  have o18 := oo17
  refine cx_putR (mx_d tX12_init_0 37 rfl) fX12_120 rfl ⟨_, rfl, rfl, rfl⟩ rfl rfl (fun q => q = a) rfl o18 z17 (fun e18 n18 x18 y18 z18 r18 v18 => ?_)
  refine px_aload_n (mx_d tX12_init_0 38 rfl) rfl rfl ?_
  refine px_bipush (20) (mx_d tX12_init_0 39 rfl) (by decide) ?_
  refine cx_newJ 20 (fun q => q = a) a (a + 10) (mx_d tX12_init_0 40 rfl) w_arrJ (by decide) (by decide) (n18.trans n17) (mx_lt hcap (by decide)) z18 (by decide) (by decide) (fun e19 n19 x19 y19 z19 s19 => ?_)
  have oo18 := x18.is oo17
  have oo19 := x19.is oo18
  have o20 := oo19
  refine cx_putR (mx_d tX12_init_0 41 rfl) fX12_123 rfl ⟨_, rfl, rfl, rfl⟩ rfl rfl (fun q => q = a) rfl o20 z19 (fun e20 n20 x20 y20 z20 r20 v20 => ?_)
  refine px_aload_n (mx_d tX12_init_0 42 rfl) rfl rfl ?_
  refine px_iconst (2) (mx_d tX12_init_0 43 rfl) (by decide) ?_
  refine cx_newZ 2 (fun q => q = a) a (a + 11) (mx_d tX12_init_0 44 rfl) w_arrZ (by decide) (by decide) (n20.trans n19) (mx_lt hcap (by decide)) z20 (by decide) (by decide) (fun e21 n21 x21 y21 z21 s21 => ?_)
  have oo20 := x20.is oo19
  have oo21 := x21.is oo20
  have o22 := oo21
  refine cx_putR (mx_d tX12_init_0 45 rfl) fX12_126 rfl ⟨_, rfl, rfl, rfl⟩ rfl rfl (fun q => q = a) rfl o22 z21 (fun e22 n22 x22 y22 z22 r22 v22 => ?_)
  refine px_aload_n (mx_d tX12_init_0 46 rfl) rfl rfl ?_
  refine px_bipush (10) (mx_d tX12_init_0 47 rfl) (by decide) ?_
  refine cx_newZ 10 (fun q => q = a) a (a + 12) (mx_d tX12_init_0 48 rfl) w_arrZ (by decide) (by decide) (n22.trans n21) (mx_lt hcap (by decide)) z22 (by decide) (by decide) (fun e23 n23 x23 y23 z23 s23 => ?_)
  have oo22 := x22.is oo21
  have oo23 := x23.is oo22
  have o24 := oo23
  refine cx_putR (mx_d tX12_init_0 49 rfl) fX12_130 rfl ⟨_, rfl, rfl, rfl⟩ rfl rfl (fun q => q = a) rfl o24 z23 (fun e24 n24 x24 y24 z24 r24 v24 => ?_)
  refine px_aload_n (mx_d tX12_init_0 50 rfl) rfl rfl ?_
  refine px_bipush (10) (mx_d tX12_init_0 51 rfl) (by decide) ?_
  refine cx_newI 10 (fun q => q = a) a (a + 13) (mx_d tX12_init_0 52 rfl) w_arrI (by decide) (by decide) (n24.trans n23) (mx_lt hcap (by decide)) z24 (by decide) (by decide) (fun e25 n25 x25 y25 z25 s25 => ?_)
  have oo24 := x24.is oo23
  have oo25 := x25.is oo24
  have o26 := oo25
  refine cx_putR (mx_d tX12_init_0 53 rfl) fX12_133 rfl ⟨_, rfl, rfl, rfl⟩ rfl rfl (fun q => q = a) rfl o26 z25 (fun e26 n26 x26 y26 z26 r26 v26 => ?_)
  refine px_aload_n (mx_d tX12_init_0 54 rfl) rfl rfl ?_
  refine px_bipush (10) (mx_d tX12_init_0 55 rfl) (by decide) ?_
  refine cx_newI 10 (fun q => q = a) a (a + 14) (mx_d tX12_init_0 56 rfl) w_arrI (by decide) (by decide) (n26.trans n25) (mx_lt hcap (by decide)) z26 (by decide) (by decide) (fun e27 n27 x27 y27 z27 s27 => ?_)
  have oo26 := x26.is oo25
  have oo27 := x27.is oo26
  have o28 := oo27
  refine cx_putR (mx_d tX12_init_0 57 rfl) fX12_136 rfl ⟨_, rfl, rfl, rfl⟩ rfl rfl (fun q => q = a) rfl o28 z27 (fun e28 n28 x28 y28 z28 r28 v28 => ?_)
  refine px_aload_n (mx_d tX12_init_0 58 rfl) rfl rfl ?_
  refine px_bipush (10) (mx_d tX12_init_0 59 rfl) (by decide) ?_
  refine cx_newI 10 (fun q => q = a) a (a + 15) (mx_d tX12_init_1 0 rfl) w_arrI (by decide) (by decide) (n28.trans n27) (mx_lt hcap (by decide)) z28 (by decide) (by decide) (fun e29 n29 x29 y29 z29 s29 => ?_)
  have oo28 := x28.is oo27
  have oo29 := x29.is oo28
  have o30 := oo29
  refine cx_putR (mx_d tX12_init_1 1 rfl) fX12_139 rfl ⟨_, rfl, rfl, rfl⟩ rfl rfl (fun q => q = a) rfl o30 z29 (fun e30 n30 x30 y30 z30 r30 v30 => ?_)
  refine px_aload_n (mx_d tX12_init_1 2 rfl) rfl rfl ?_
  refine px_iconst ((-1)) (mx_d tX12_init_1 3 rfl) (by decide) ?_
  have oo30 := x30.is oo29
  refine px_putI (mx_d tX12_init_1 4 rfl) fX12_142 rfl ⟨_, rfl, rfl⟩ rfl oo30 ?_
  have zz31 := mx_zr_up (k := 32) (x := (-1)) (oo30).1 z30
  refine px_aload_n (mx_d tX12_init_1 5 rfl) rfl rfl ?_
  refine px_bipush (10) (mx_d tX12_init_1 6 rfl) (by decide) ?_
  refine cx_newI 10 (fun q => q = a) a (a + 16) (mx_d tX12_init_1 7 rfl) w_arrI (by decide) (by decide) (n30.trans n29) (mx_lt hcap (by decide)) zz31 (by decide) (by decide) (fun e32 n32 x32 y32 z32 s32 => ?_)
  have oo32 := x32.is oo30
  have o33 := oo32
  refine cx_putR (mx_d tX12_init_1 8 rfl) fX12_145 rfl ⟨_, rfl, rfl, rfl⟩ rfl rfl (fun q => q = a) rfl o33 z32 (fun e33 n33 x33 y33 z33 r33 v33 => ?_)
  refine px_aload_n (mx_d tX12_init_1 9 rfl) rfl rfl ?_
  refine px_bipush (10) (mx_d tX12_init_1 10 rfl) (by decide) ?_
  refine cx_newI 10 (fun q => q = a) a (a + 17) (mx_d tX12_init_1 11 rfl) w_arrI (by decide) (by decide) (n33.trans n32) (mx_lt hcap (by decide)) z33 (by decide) (by decide) (fun e34 n34 x34 y34 z34 s34 => ?_)
  have oo33 := x33.is oo32
  have oo34 := x34.is oo33
  have o35 := oo34
  refine cx_putR (mx_d tX12_init_1 12 rfl) fX12_148 rfl ⟨_, rfl, rfl, rfl⟩ rfl rfl (fun q => q = a) rfl o35 z34 (fun e35 n35 x35 y35 z35 r35 v35 => ?_)
  refine px_aload_n (mx_d tX12_init_1 13 rfl) rfl rfl ?_
  refine px_bipush (10) (mx_d tX12_init_1 14 rfl) (by decide) ?_
  refine cx_newI 10 (fun q => q = a) a (a + 18) (mx_d tX12_init_1 15 rfl) w_arrI (by decide) (by decide) (n35.trans n34) (mx_lt hcap (by decide)) z35 (by decide) (by decide) (fun e36 n36 x36 y36 z36 s36 => ?_)
  have oo35 := x35.is oo34
  have oo36 := x36.is oo35
  have o37 := oo36
  refine cx_putR (mx_d tX12_init_1 16 rfl) fX12_151 rfl ⟨_, rfl, rfl, rfl⟩ rfl rfl (fun q => q = a) rfl o37 z36 (fun e37 n37 x37 y37 z37 r37 v37 => ?_)
  refine px_aload_n (mx_d tX12_init_1 17 rfl) rfl rfl ?_
  refine px_bipush (6) (mx_d tX12_init_1 18 rfl) (by decide) ?_
  refine cx_newI 6 (fun q => q = a) a (a + 19) (mx_d tX12_init_1 19 rfl) w_arrI (by decide) (by decide) (n37.trans n36) (mx_lt hcap (by decide)) z37 (by decide) (by decide) (fun e38 n38 x38 y38 z38 s38 => ?_)
  have oo37 := x37.is oo36
  have oo38 := x38.is oo37
  have o39 := oo38
  refine cx_putR (mx_d tX12_init_1 20 rfl) fX12_154 rfl ⟨_, rfl, rfl, rfl⟩ rfl rfl (fun q => q = a) rfl o39 z38 (fun e39 n39 x39 y39 z39 r39 v39 => ?_)
  refine px_aload_n (mx_d tX12_init_1 21 rfl) rfl rfl ?_
  refine px_bipush (6) (mx_d tX12_init_1 22 rfl) (by decide) ?_
  refine cx_newI 6 (fun q => q = a) a (a + 20) (mx_d tX12_init_1 23 rfl) w_arrI (by decide) (by decide) (n39.trans n38) (mx_lt hcap (by decide)) z39 (by decide) (by decide) (fun e40 n40 x40 y40 z40 s40 => ?_)
  have oo39 := x39.is oo38
  have oo40 := x40.is oo39
  have o41 := oo40
  refine cx_putR (mx_d tX12_init_1 24 rfl) fX12_157 rfl ⟨_, rfl, rfl, rfl⟩ rfl rfl (fun q => q = a) rfl o41 z40 (fun e41 n41 x41 y41 z41 r41 v41 => ?_)
  refine px_aload_n (mx_d tX12_init_1 25 rfl) rfl rfl ?_
  refine px_bipush (30) (mx_d tX12_init_1 26 rfl) (by decide) ?_
  refine cx_newI 30 (fun q => q = a) a (a + 21) (mx_d tX12_init_1 27 rfl) w_arrI (by decide) (by decide) (n41.trans n40) (mx_lt hcap (by decide)) z41 (by decide) (by decide) (fun e42 n42 x42 y42 z42 s42 => ?_)
  have oo41 := x41.is oo40
  have oo42 := x42.is oo41
  have o43 := oo42
  refine cx_putR (mx_d tX12_init_1 28 rfl) fX12_160 rfl ⟨_, rfl, rfl, rfl⟩ rfl rfl (fun q => q = a) rfl o43 z42 (fun e43 n43 x43 y43 z43 r43 v43 => ?_)
  refine px_aload_n (mx_d tX12_init_1 29 rfl) rfl rfl ?_
  refine px_bipush (110) (mx_d tX12_init_1 30 rfl) (by decide) ?_
  refine cx_newI 110 (fun q => q = a) a (a + 22) (mx_d tX12_init_1 31 rfl) w_arrI (by decide) (by decide) (n43.trans n42) (mx_lt hcap (by decide)) z43 (by decide) (by decide) (fun e44 n44 x44 y44 z44 s44 => ?_)
  have oo43 := x43.is oo42
  have oo44 := x44.is oo43
  have o45 := oo44
  refine cx_putR (mx_d tX12_init_1 32 rfl) fX12_163 rfl ⟨_, rfl, rfl, rfl⟩ rfl rfl (fun q => q = a) rfl o45 z44 (fun e45 n45 x45 y45 z45 r45 v45 => ?_)
  refine px_aload_n (mx_d tX12_init_1 33 rfl) rfl rfl ?_
  refine px_iconst ((-1)) (mx_d tX12_init_1 34 rfl) (by decide) ?_
  have oo45 := x45.is oo44
  refine px_putI (mx_d tX12_init_1 35 rfl) fX12_166 rfl ⟨_, rfl, rfl⟩ rfl oo45 ?_
  have zz46 := mx_zr_up (k := 48) (x := (-1)) (oo45).1 z45
  refine px_aload_n (mx_d tX12_init_1 36 rfl) rfl rfl ?_
  refine px_bipush (48) (mx_d tX12_init_1 37 rfl) (by decide) ?_
  refine cx_newI 48 (fun q => q = a) a (a + 23) (mx_d tX12_init_1 38 rfl) w_arrI (by decide) (by decide) (n45.trans n44) (mx_lt hcap (by decide)) zz46 (by decide) (by decide) (fun e47 n47 x47 y47 z47 s47 => ?_)
  have oo47 := x47.is oo45
  have o48 := oo47
  refine cx_putR (mx_d tX12_init_1 39 rfl) fX12_169 rfl ⟨_, rfl, rfl, rfl⟩ rfl rfl (fun q => q = a) rfl o48 z47 (fun e48 n48 x48 y48 z48 r48 v48 => ?_)
  refine px_aload_n (mx_d tX12_init_1 40 rfl) rfl rfl ?_
  refine px_sipush (160) (mx_d tX12_init_1 41 rfl) (by decide) ?_
  refine cx_newI 160 (fun q => q = a) a (a + 24) (mx_d tX12_init_1 42 rfl) w_arrI (by decide) (by decide) (n48.trans n47) (mx_lt hcap (by decide)) z48 (by decide) (by decide) (fun e49 n49 x49 y49 z49 s49 => ?_)
  have oo48 := x48.is oo47
  have oo49 := x49.is oo48
  have o50 := oo49
  refine cx_putR (mx_d tX12_init_1 43 rfl) fX12_172 rfl ⟨_, rfl, rfl, rfl⟩ rfl rfl (fun q => q = a) rfl o50 z49 (fun e50 n50 x50 y50 z50 r50 v50 => ?_)
  refine px_aload_n (mx_d tX12_init_1 44 rfl) rfl rfl ?_
  refine px_iconst (4) (mx_d tX12_init_1 45 rfl) (by decide) ?_
  refine cx_newI 4 (fun q => q = a) a (a + 25) (mx_d tX12_init_1 46 rfl) w_arrI (by decide) (by decide) (n50.trans n49) (mx_lt hcap (by decide)) z50 (by decide) (by decide) (fun e51 n51 x51 y51 z51 s51 => ?_)
  have oo50 := x50.is oo49
  have oo51 := x51.is oo50
  have o52 := oo51
  refine cx_putR (mx_d tX12_init_1 47 rfl) fX12_175 rfl ⟨_, rfl, rfl, rfl⟩ rfl rfl (fun q => q = a) rfl o52 z51 (fun e52 n52 x52 y52 z52 r52 v52 => ?_)
  refine px_aload_n (mx_d tX12_init_1 48 rfl) rfl rfl ?_
  refine px_sipush (240) (mx_d tX12_init_1 49 rfl) (by decide) ?_
  refine cx_newI 240 (fun q => q = a) a (a + 26) (mx_d tX12_init_1 50 rfl) w_arrI (by decide) (by decide) (n52.trans n51) (mx_lt hcap (by decide)) z52 (by decide) (by decide) (fun e53 n53 x53 y53 z53 s53 => ?_)
  have oo52 := x52.is oo51
  have oo53 := x53.is oo52
  have o54 := oo53
  refine cx_putR (mx_d tX12_init_1 51 rfl) fX12_178 rfl ⟨_, rfl, rfl, rfl⟩ rfl rfl (fun q => q = a) rfl o54 z53 (fun e54 n54 x54 y54 z54 r54 v54 => ?_)
  refine px_iconst (0) (mx_d tX12_init_1 52 rfl) (by decide) ?_
  refine px_istore_n (L2 := [.ref a, .int 0]) (mx_d tX12_init_1 53 rfl) rfl (by decide) rfl ?_
  refine px_iload_n (mx_d tX12_init_1 54 rfl) rfl rfl ?_
  refine px_bipush (10) (mx_d tX12_init_1 55 rfl) (by decide) ?_
  refine px_icmp_ge (tgt := 250) (mx_d tX12_init_1 56 rfl) (by decide) (fun hd_ => absurd hd_ (by decide)) (fun _ => ?_)
  refine px_aload_n (mx_d tX12_init_1 57 rfl) rfl rfl ?_
  have oo54 := x54.is oo53
  refine px_getR (mx_d tX12_init_1 58 rfl) fX12_98 rfl rfl oo54 ((y54 14 (by decide)).trans ((y53 a 14).trans ((y52 14 (by decide)).trans ((y51 a 14).trans ((y50 14 (by decide)).trans ((y49 a 14).trans ((y48 14 (by decide)).trans ((y47 a 14).trans ((y45 14 (by decide)).trans ((y44 a 14).trans ((y43 14 (by decide)).trans ((y42 a 14).trans ((y41 14 (by decide)).trans ((y40 a 14).trans ((y39 14 (by decide)).trans ((y38 a 14).trans ((y37 14 (by decide)).trans ((y36 a 14).trans ((y35 14 (by decide)).trans ((y34 a 14).trans ((y33 14 (by decide)).trans ((y32 a 14).trans ((y30 14 (by decide)).trans ((y29 a 14).trans ((y28 14 (by decide)).trans ((y27 a 14).trans ((y26 14 (by decide)).trans ((y25 a 14).trans ((y24 14 (by decide)).trans ((y23 a 14).trans ((y22 14 (by decide)).trans ((y21 a 14).trans ((y20 14 (by decide)).trans ((y19 a 14).trans ((y18 14 (by decide)).trans ((y17 a 14).trans ((y16 14 (by decide)).trans ((y15 a 14).trans ((y14 14 (by decide)).trans ((y13 a 14).trans ((y12 14 (by decide)).trans ((y11 a 14).trans ((y10 14 (by decide)).trans ((y9 a 14).trans ((y8 14 (by decide)).trans ((y7 a 14).trans ((y6 14 (by decide)).trans ((y5 a 14).trans r4)))))))))))))))))))))))))))))))))))))))))))))))) ?_
  refine px_bipush (93) (mx_d tX12_init_1 59 rfl) (by decide) ?_
  refine px_iload_n (mx_d tX12_init_2 0 rfl) rfl rfl ?_
  refine px_iadd (mx_d tX12_init_2 1 rfl) (px_eqs (st' := [.int 93, .ref (a + 2)]) rfl ?_)
  refine px_iconst ((-1)) (mx_d tX12_init_2 2 rfl) (by decide) ?_
  have pp2_4 := x4.is s3
  have pp2_5 := x5.is pp2_4
  have pp2_6 := x6.is pp2_5
  have pp2_7 := x7.is pp2_6
  have pp2_8 := x8.is pp2_7
  have pp2_9 := x9.is pp2_8
  have pp2_10 := x10.is pp2_9
  have pp2_11 := x11.is pp2_10
  have pp2_12 := x12.is pp2_11
  have pp2_13 := x13.is pp2_12
  have pp2_14 := x14.is pp2_13
  have pp2_15 := x15.is pp2_14
  have pp2_16 := x16.is pp2_15
  have pp2_17 := x17.is pp2_16
  have pp2_18 := x18.is pp2_17
  have pp2_19 := x19.is pp2_18
  have pp2_20 := x20.is pp2_19
  have pp2_21 := x21.is pp2_20
  have pp2_22 := x22.is pp2_21
  have pp2_23 := x23.is pp2_22
  have pp2_24 := x24.is pp2_23
  have pp2_25 := x25.is pp2_24
  have pp2_26 := x26.is pp2_25
  have pp2_27 := x27.is pp2_26
  have pp2_28 := x28.is pp2_27
  have pp2_29 := x29.is pp2_28
  have pp2_30 := x30.is pp2_29
  have pp2_32 := x32.is pp2_30
  have pp2_33 := x33.is pp2_32
  have pp2_34 := x34.is pp2_33
  have pp2_35 := x35.is pp2_34
  have pp2_36 := x36.is pp2_35
  have pp2_37 := x37.is pp2_36
  have pp2_38 := x38.is pp2_37
  have pp2_39 := x39.is pp2_38
  have pp2_40 := x40.is pp2_39
  have pp2_41 := x41.is pp2_40
  have pp2_42 := x42.is pp2_41
  have pp2_43 := x43.is pp2_42
  have pp2_44 := x44.is pp2_43
  have pp2_45 := x45.is pp2_44
  have pp2_47 := x47.is pp2_45
  have pp2_48 := x48.is pp2_47
  have pp2_49 := x49.is pp2_48
  have pp2_50 := x50.is pp2_49
  have pp2_51 := x51.is pp2_50
  have pp2_52 := x52.is pp2_51
  have pp2_53 := x53.is pp2_52
  have pp2_54 := x54.is pp2_53
  refine px_iastoreC 93 (mx_d tX12_init_2 3 rfl) pp2_54 (by decide) (mx_inbE (by decide)) ?_
  have zz55 := mx_zr_up (k := 93) (x := (-1)) (pp2_54).1 z54
  refine px_iinc 1 (L2 := [.ref a, .int 1]) (mx_d tX12_init_2 4 rfl) rfl (by decide) (by decide) rfl ?_
  refine px_goto (tgt := 228) (mx_d tX12_init_2 5 rfl) (by decide) ?_
  refine px_iload_n (mx_d tX12_init_1 54 rfl) rfl rfl ?_
  refine px_bipush (10) (mx_d tX12_init_1 55 rfl) (by decide) ?_
  refine px_icmp_ge (tgt := 250) (mx_d tX12_init_1 56 rfl) (by decide) (fun hd_ => absurd hd_ (by decide)) (fun _ => ?_)
  refine px_aload_n (mx_d tX12_init_1 57 rfl) rfl rfl ?_
  refine px_getR (mx_d tX12_init_1 58 rfl) fX12_98 rfl rfl oo54 ((y54 14 (by decide)).trans ((y53 a 14).trans ((y52 14 (by decide)).trans ((y51 a 14).trans ((y50 14 (by decide)).trans ((y49 a 14).trans ((y48 14 (by decide)).trans ((y47 a 14).trans ((y45 14 (by decide)).trans ((y44 a 14).trans ((y43 14 (by decide)).trans ((y42 a 14).trans ((y41 14 (by decide)).trans ((y40 a 14).trans ((y39 14 (by decide)).trans ((y38 a 14).trans ((y37 14 (by decide)).trans ((y36 a 14).trans ((y35 14 (by decide)).trans ((y34 a 14).trans ((y33 14 (by decide)).trans ((y32 a 14).trans ((y30 14 (by decide)).trans ((y29 a 14).trans ((y28 14 (by decide)).trans ((y27 a 14).trans ((y26 14 (by decide)).trans ((y25 a 14).trans ((y24 14 (by decide)).trans ((y23 a 14).trans ((y22 14 (by decide)).trans ((y21 a 14).trans ((y20 14 (by decide)).trans ((y19 a 14).trans ((y18 14 (by decide)).trans ((y17 a 14).trans ((y16 14 (by decide)).trans ((y15 a 14).trans ((y14 14 (by decide)).trans ((y13 a 14).trans ((y12 14 (by decide)).trans ((y11 a 14).trans ((y10 14 (by decide)).trans ((y9 a 14).trans ((y8 14 (by decide)).trans ((y7 a 14).trans ((y6 14 (by decide)).trans ((y5 a 14).trans r4)))))))))))))))))))))))))))))))))))))))))))))))) ?_
  refine px_bipush (93) (mx_d tX12_init_1 59 rfl) (by decide) ?_
  refine px_iload_n (mx_d tX12_init_2 0 rfl) rfl rfl ?_
  refine px_iadd (mx_d tX12_init_2 1 rfl) (px_eqs (st' := [.int 94, .ref (a + 2)]) rfl ?_)
  refine px_iconst ((-1)) (mx_d tX12_init_2 2 rfl) (by decide) ?_
  refine px_iastoreC 94 (mx_d tX12_init_2 3 rfl) pp2_54 (by decide) (mx_inbE (by decide)) ?_
  have zz56 := mx_zr_up (k := 94) (x := (-1)) (pp2_54).1 zz55
  refine px_iinc 2 (L2 := [.ref a, .int 2]) (mx_d tX12_init_2 4 rfl) rfl (by decide) (by decide) rfl ?_
  refine px_goto (tgt := 228) (mx_d tX12_init_2 5 rfl) (by decide) ?_
  refine px_iload_n (mx_d tX12_init_1 54 rfl) rfl rfl ?_
  refine px_bipush (10) (mx_d tX12_init_1 55 rfl) (by decide) ?_
  refine px_icmp_ge (tgt := 250) (mx_d tX12_init_1 56 rfl) (by decide) (fun hd_ => absurd hd_ (by decide)) (fun _ => ?_)
  refine px_aload_n (mx_d tX12_init_1 57 rfl) rfl rfl ?_
  refine px_getR (mx_d tX12_init_1 58 rfl) fX12_98 rfl rfl oo54 ((y54 14 (by decide)).trans ((y53 a 14).trans ((y52 14 (by decide)).trans ((y51 a 14).trans ((y50 14 (by decide)).trans ((y49 a 14).trans ((y48 14 (by decide)).trans ((y47 a 14).trans ((y45 14 (by decide)).trans ((y44 a 14).trans ((y43 14 (by decide)).trans ((y42 a 14).trans ((y41 14 (by decide)).trans ((y40 a 14).trans ((y39 14 (by decide)).trans ((y38 a 14).trans ((y37 14 (by decide)).trans ((y36 a 14).trans ((y35 14 (by decide)).trans ((y34 a 14).trans ((y33 14 (by decide)).trans ((y32 a 14).trans ((y30 14 (by decide)).trans ((y29 a 14).trans ((y28 14 (by decide)).trans ((y27 a 14).trans ((y26 14 (by decide)).trans ((y25 a 14).trans ((y24 14 (by decide)).trans ((y23 a 14).trans ((y22 14 (by decide)).trans ((y21 a 14).trans ((y20 14 (by decide)).trans ((y19 a 14).trans ((y18 14 (by decide)).trans ((y17 a 14).trans ((y16 14 (by decide)).trans ((y15 a 14).trans ((y14 14 (by decide)).trans ((y13 a 14).trans ((y12 14 (by decide)).trans ((y11 a 14).trans ((y10 14 (by decide)).trans ((y9 a 14).trans ((y8 14 (by decide)).trans ((y7 a 14).trans ((y6 14 (by decide)).trans ((y5 a 14).trans r4)))))))))))))))))))))))))))))))))))))))))))))))) ?_
  refine px_bipush (93) (mx_d tX12_init_1 59 rfl) (by decide) ?_
  refine px_iload_n (mx_d tX12_init_2 0 rfl) rfl rfl ?_
  refine px_iadd (mx_d tX12_init_2 1 rfl) (px_eqs (st' := [.int 95, .ref (a + 2)]) rfl ?_)
  refine px_iconst ((-1)) (mx_d tX12_init_2 2 rfl) (by decide) ?_
  refine px_iastoreC 95 (mx_d tX12_init_2 3 rfl) pp2_54 (by decide) (mx_inbE (by decide)) ?_
  have zz57 := mx_zr_up (k := 95) (x := (-1)) (pp2_54).1 zz56
  refine px_iinc 3 (L2 := [.ref a, .int 3]) (mx_d tX12_init_2 4 rfl) rfl (by decide) (by decide) rfl ?_
  refine px_goto (tgt := 228) (mx_d tX12_init_2 5 rfl) (by decide) ?_
  refine px_iload_n (mx_d tX12_init_1 54 rfl) rfl rfl ?_
  refine px_bipush (10) (mx_d tX12_init_1 55 rfl) (by decide) ?_
  refine px_icmp_ge (tgt := 250) (mx_d tX12_init_1 56 rfl) (by decide) (fun hd_ => absurd hd_ (by decide)) (fun _ => ?_)
  refine px_aload_n (mx_d tX12_init_1 57 rfl) rfl rfl ?_
  refine px_getR (mx_d tX12_init_1 58 rfl) fX12_98 rfl rfl oo54 ((y54 14 (by decide)).trans ((y53 a 14).trans ((y52 14 (by decide)).trans ((y51 a 14).trans ((y50 14 (by decide)).trans ((y49 a 14).trans ((y48 14 (by decide)).trans ((y47 a 14).trans ((y45 14 (by decide)).trans ((y44 a 14).trans ((y43 14 (by decide)).trans ((y42 a 14).trans ((y41 14 (by decide)).trans ((y40 a 14).trans ((y39 14 (by decide)).trans ((y38 a 14).trans ((y37 14 (by decide)).trans ((y36 a 14).trans ((y35 14 (by decide)).trans ((y34 a 14).trans ((y33 14 (by decide)).trans ((y32 a 14).trans ((y30 14 (by decide)).trans ((y29 a 14).trans ((y28 14 (by decide)).trans ((y27 a 14).trans ((y26 14 (by decide)).trans ((y25 a 14).trans ((y24 14 (by decide)).trans ((y23 a 14).trans ((y22 14 (by decide)).trans ((y21 a 14).trans ((y20 14 (by decide)).trans ((y19 a 14).trans ((y18 14 (by decide)).trans ((y17 a 14).trans ((y16 14 (by decide)).trans ((y15 a 14).trans ((y14 14 (by decide)).trans ((y13 a 14).trans ((y12 14 (by decide)).trans ((y11 a 14).trans ((y10 14 (by decide)).trans ((y9 a 14).trans ((y8 14 (by decide)).trans ((y7 a 14).trans ((y6 14 (by decide)).trans ((y5 a 14).trans r4)))))))))))))))))))))))))))))))))))))))))))))))) ?_
  refine px_bipush (93) (mx_d tX12_init_1 59 rfl) (by decide) ?_
  refine px_iload_n (mx_d tX12_init_2 0 rfl) rfl rfl ?_
  refine px_iadd (mx_d tX12_init_2 1 rfl) (px_eqs (st' := [.int 96, .ref (a + 2)]) rfl ?_)
  refine px_iconst ((-1)) (mx_d tX12_init_2 2 rfl) (by decide) ?_
  refine px_iastoreC 96 (mx_d tX12_init_2 3 rfl) pp2_54 (by decide) (mx_inbE (by decide)) ?_
  have zz58 := mx_zr_up (k := 96) (x := (-1)) (pp2_54).1 zz57
  refine px_iinc 4 (L2 := [.ref a, .int 4]) (mx_d tX12_init_2 4 rfl) rfl (by decide) (by decide) rfl ?_
  refine px_goto (tgt := 228) (mx_d tX12_init_2 5 rfl) (by decide) ?_
  refine px_iload_n (mx_d tX12_init_1 54 rfl) rfl rfl ?_
  refine px_bipush (10) (mx_d tX12_init_1 55 rfl) (by decide) ?_
  refine px_icmp_ge (tgt := 250) (mx_d tX12_init_1 56 rfl) (by decide) (fun hd_ => absurd hd_ (by decide)) (fun _ => ?_)
  refine px_aload_n (mx_d tX12_init_1 57 rfl) rfl rfl ?_
  refine px_getR (mx_d tX12_init_1 58 rfl) fX12_98 rfl rfl oo54 ((y54 14 (by decide)).trans ((y53 a 14).trans ((y52 14 (by decide)).trans ((y51 a 14).trans ((y50 14 (by decide)).trans ((y49 a 14).trans ((y48 14 (by decide)).trans ((y47 a 14).trans ((y45 14 (by decide)).trans ((y44 a 14).trans ((y43 14 (by decide)).trans ((y42 a 14).trans ((y41 14 (by decide)).trans ((y40 a 14).trans ((y39 14 (by decide)).trans ((y38 a 14).trans ((y37 14 (by decide)).trans ((y36 a 14).trans ((y35 14 (by decide)).trans ((y34 a 14).trans ((y33 14 (by decide)).trans ((y32 a 14).trans ((y30 14 (by decide)).trans ((y29 a 14).trans ((y28 14 (by decide)).trans ((y27 a 14).trans ((y26 14 (by decide)).trans ((y25 a 14).trans ((y24 14 (by decide)).trans ((y23 a 14).trans ((y22 14 (by decide)).trans ((y21 a 14).trans ((y20 14 (by decide)).trans ((y19 a 14).trans ((y18 14 (by decide)).trans ((y17 a 14).trans ((y16 14 (by decide)).trans ((y15 a 14).trans ((y14 14 (by decide)).trans ((y13 a 14).trans ((y12 14 (by decide)).trans ((y11 a 14).trans ((y10 14 (by decide)).trans ((y9 a 14).trans ((y8 14 (by decide)).trans ((y7 a 14).trans ((y6 14 (by decide)).trans ((y5 a 14).trans r4)))))))))))))))))))))))))))))))))))))))))))))))) ?_
  refine px_bipush (93) (mx_d tX12_init_1 59 rfl) (by decide) ?_
  refine px_iload_n (mx_d tX12_init_2 0 rfl) rfl rfl ?_
  refine px_iadd (mx_d tX12_init_2 1 rfl) (px_eqs (st' := [.int 97, .ref (a + 2)]) rfl ?_)
  refine px_iconst ((-1)) (mx_d tX12_init_2 2 rfl) (by decide) ?_
  refine px_iastoreC 97 (mx_d tX12_init_2 3 rfl) pp2_54 (by decide) (mx_inbE (by decide)) ?_
  have zz59 := mx_zr_up (k := 97) (x := (-1)) (pp2_54).1 zz58
  refine px_iinc 5 (L2 := [.ref a, .int 5]) (mx_d tX12_init_2 4 rfl) rfl (by decide) (by decide) rfl ?_
  refine px_goto (tgt := 228) (mx_d tX12_init_2 5 rfl) (by decide) ?_
  refine px_iload_n (mx_d tX12_init_1 54 rfl) rfl rfl ?_
  refine px_bipush (10) (mx_d tX12_init_1 55 rfl) (by decide) ?_
  refine px_icmp_ge (tgt := 250) (mx_d tX12_init_1 56 rfl) (by decide) (fun hd_ => absurd hd_ (by decide)) (fun _ => ?_)
  refine px_aload_n (mx_d tX12_init_1 57 rfl) rfl rfl ?_
  refine px_getR (mx_d tX12_init_1 58 rfl) fX12_98 rfl rfl oo54 ((y54 14 (by decide)).trans ((y53 a 14).trans ((y52 14 (by decide)).trans ((y51 a 14).trans ((y50 14 (by decide)).trans ((y49 a 14).trans ((y48 14 (by decide)).trans ((y47 a 14).trans ((y45 14 (by decide)).trans ((y44 a 14).trans ((y43 14 (by decide)).trans ((y42 a 14).trans ((y41 14 (by decide)).trans ((y40 a 14).trans ((y39 14 (by decide)).trans ((y38 a 14).trans ((y37 14 (by decide)).trans ((y36 a 14).trans ((y35 14 (by decide)).trans ((y34 a 14).trans ((y33 14 (by decide)).trans ((y32 a 14).trans ((y30 14 (by decide)).trans ((y29 a 14).trans ((y28 14 (by decide)).trans ((y27 a 14).trans ((y26 14 (by decide)).trans ((y25 a 14).trans ((y24 14 (by decide)).trans ((y23 a 14).trans ((y22 14 (by decide)).trans ((y21 a 14).trans ((y20 14 (by decide)).trans ((y19 a 14).trans ((y18 14 (by decide)).trans ((y17 a 14).trans ((y16 14 (by decide)).trans ((y15 a 14).trans ((y14 14 (by decide)).trans ((y13 a 14).trans ((y12 14 (by decide)).trans ((y11 a 14).trans ((y10 14 (by decide)).trans ((y9 a 14).trans ((y8 14 (by decide)).trans ((y7 a 14).trans ((y6 14 (by decide)).trans ((y5 a 14).trans r4)))))))))))))))))))))))))))))))))))))))))))))))) ?_
  refine px_bipush (93) (mx_d tX12_init_1 59 rfl) (by decide) ?_
  refine px_iload_n (mx_d tX12_init_2 0 rfl) rfl rfl ?_
  refine px_iadd (mx_d tX12_init_2 1 rfl) (px_eqs (st' := [.int 98, .ref (a + 2)]) rfl ?_)
  refine px_iconst ((-1)) (mx_d tX12_init_2 2 rfl) (by decide) ?_
  refine px_iastoreC 98 (mx_d tX12_init_2 3 rfl) pp2_54 (by decide) (mx_inbE (by decide)) ?_
  have zz60 := mx_zr_up (k := 98) (x := (-1)) (pp2_54).1 zz59
  refine px_iinc 6 (L2 := [.ref a, .int 6]) (mx_d tX12_init_2 4 rfl) rfl (by decide) (by decide) rfl ?_
  refine px_goto (tgt := 228) (mx_d tX12_init_2 5 rfl) (by decide) ?_
  refine px_iload_n (mx_d tX12_init_1 54 rfl) rfl rfl ?_
  refine px_bipush (10) (mx_d tX12_init_1 55 rfl) (by decide) ?_
  refine px_icmp_ge (tgt := 250) (mx_d tX12_init_1 56 rfl) (by decide) (fun hd_ => absurd hd_ (by decide)) (fun _ => ?_)
  refine px_aload_n (mx_d tX12_init_1 57 rfl) rfl rfl ?_
  refine px_getR (mx_d tX12_init_1 58 rfl) fX12_98 rfl rfl oo54 ((y54 14 (by decide)).trans ((y53 a 14).trans ((y52 14 (by decide)).trans ((y51 a 14).trans ((y50 14 (by decide)).trans ((y49 a 14).trans ((y48 14 (by decide)).trans ((y47 a 14).trans ((y45 14 (by decide)).trans ((y44 a 14).trans ((y43 14 (by decide)).trans ((y42 a 14).trans ((y41 14 (by decide)).trans ((y40 a 14).trans ((y39 14 (by decide)).trans ((y38 a 14).trans ((y37 14 (by decide)).trans ((y36 a 14).trans ((y35 14 (by decide)).trans ((y34 a 14).trans ((y33 14 (by decide)).trans ((y32 a 14).trans ((y30 14 (by decide)).trans ((y29 a 14).trans ((y28 14 (by decide)).trans ((y27 a 14).trans ((y26 14 (by decide)).trans ((y25 a 14).trans ((y24 14 (by decide)).trans ((y23 a 14).trans ((y22 14 (by decide)).trans ((y21 a 14).trans ((y20 14 (by decide)).trans ((y19 a 14).trans ((y18 14 (by decide)).trans ((y17 a 14).trans ((y16 14 (by decide)).trans ((y15 a 14).trans ((y14 14 (by decide)).trans ((y13 a 14).trans ((y12 14 (by decide)).trans ((y11 a 14).trans ((y10 14 (by decide)).trans ((y9 a 14).trans ((y8 14 (by decide)).trans ((y7 a 14).trans ((y6 14 (by decide)).trans ((y5 a 14).trans r4)))))))))))))))))))))))))))))))))))))))))))))))) ?_
  refine px_bipush (93) (mx_d tX12_init_1 59 rfl) (by decide) ?_
  refine px_iload_n (mx_d tX12_init_2 0 rfl) rfl rfl ?_
  refine px_iadd (mx_d tX12_init_2 1 rfl) (px_eqs (st' := [.int 99, .ref (a + 2)]) rfl ?_)
  refine px_iconst ((-1)) (mx_d tX12_init_2 2 rfl) (by decide) ?_
  refine px_iastoreC 99 (mx_d tX12_init_2 3 rfl) pp2_54 (by decide) (mx_inbE (by decide)) ?_
  have zz61 := mx_zr_up (k := 99) (x := (-1)) (pp2_54).1 zz60
  refine px_iinc 7 (L2 := [.ref a, .int 7]) (mx_d tX12_init_2 4 rfl) rfl (by decide) (by decide) rfl ?_
  refine px_goto (tgt := 228) (mx_d tX12_init_2 5 rfl) (by decide) ?_
  refine px_iload_n (mx_d tX12_init_1 54 rfl) rfl rfl ?_
  refine px_bipush (10) (mx_d tX12_init_1 55 rfl) (by decide) ?_
  refine px_icmp_ge (tgt := 250) (mx_d tX12_init_1 56 rfl) (by decide) (fun hd_ => absurd hd_ (by decide)) (fun _ => ?_)
  refine px_aload_n (mx_d tX12_init_1 57 rfl) rfl rfl ?_
  refine px_getR (mx_d tX12_init_1 58 rfl) fX12_98 rfl rfl oo54 ((y54 14 (by decide)).trans ((y53 a 14).trans ((y52 14 (by decide)).trans ((y51 a 14).trans ((y50 14 (by decide)).trans ((y49 a 14).trans ((y48 14 (by decide)).trans ((y47 a 14).trans ((y45 14 (by decide)).trans ((y44 a 14).trans ((y43 14 (by decide)).trans ((y42 a 14).trans ((y41 14 (by decide)).trans ((y40 a 14).trans ((y39 14 (by decide)).trans ((y38 a 14).trans ((y37 14 (by decide)).trans ((y36 a 14).trans ((y35 14 (by decide)).trans ((y34 a 14).trans ((y33 14 (by decide)).trans ((y32 a 14).trans ((y30 14 (by decide)).trans ((y29 a 14).trans ((y28 14 (by decide)).trans ((y27 a 14).trans ((y26 14 (by decide)).trans ((y25 a 14).trans ((y24 14 (by decide)).trans ((y23 a 14).trans ((y22 14 (by decide)).trans ((y21 a 14).trans ((y20 14 (by decide)).trans ((y19 a 14).trans ((y18 14 (by decide)).trans ((y17 a 14).trans ((y16 14 (by decide)).trans ((y15 a 14).trans ((y14 14 (by decide)).trans ((y13 a 14).trans ((y12 14 (by decide)).trans ((y11 a 14).trans ((y10 14 (by decide)).trans ((y9 a 14).trans ((y8 14 (by decide)).trans ((y7 a 14).trans ((y6 14 (by decide)).trans ((y5 a 14).trans r4)))))))))))))))))))))))))))))))))))))))))))))))) ?_
  refine px_bipush (93) (mx_d tX12_init_1 59 rfl) (by decide) ?_
  refine px_iload_n (mx_d tX12_init_2 0 rfl) rfl rfl ?_
  refine px_iadd (mx_d tX12_init_2 1 rfl) (px_eqs (st' := [.int 100, .ref (a + 2)]) rfl ?_)
  refine px_iconst ((-1)) (mx_d tX12_init_2 2 rfl) (by decide) ?_
  refine px_iastoreC 100 (mx_d tX12_init_2 3 rfl) pp2_54 (by decide) (mx_inbE (by decide)) ?_
  have zz62 := mx_zr_up (k := 100) (x := (-1)) (pp2_54).1 zz61
  refine px_iinc 8 (L2 := [.ref a, .int 8]) (mx_d tX12_init_2 4 rfl) rfl (by decide) (by decide) rfl ?_
  refine px_goto (tgt := 228) (mx_d tX12_init_2 5 rfl) (by decide) ?_
  refine px_iload_n (mx_d tX12_init_1 54 rfl) rfl rfl ?_
  refine px_bipush (10) (mx_d tX12_init_1 55 rfl) (by decide) ?_
  refine px_icmp_ge (tgt := 250) (mx_d tX12_init_1 56 rfl) (by decide) (fun hd_ => absurd hd_ (by decide)) (fun _ => ?_)
  refine px_aload_n (mx_d tX12_init_1 57 rfl) rfl rfl ?_
  refine px_getR (mx_d tX12_init_1 58 rfl) fX12_98 rfl rfl oo54 ((y54 14 (by decide)).trans ((y53 a 14).trans ((y52 14 (by decide)).trans ((y51 a 14).trans ((y50 14 (by decide)).trans ((y49 a 14).trans ((y48 14 (by decide)).trans ((y47 a 14).trans ((y45 14 (by decide)).trans ((y44 a 14).trans ((y43 14 (by decide)).trans ((y42 a 14).trans ((y41 14 (by decide)).trans ((y40 a 14).trans ((y39 14 (by decide)).trans ((y38 a 14).trans ((y37 14 (by decide)).trans ((y36 a 14).trans ((y35 14 (by decide)).trans ((y34 a 14).trans ((y33 14 (by decide)).trans ((y32 a 14).trans ((y30 14 (by decide)).trans ((y29 a 14).trans ((y28 14 (by decide)).trans ((y27 a 14).trans ((y26 14 (by decide)).trans ((y25 a 14).trans ((y24 14 (by decide)).trans ((y23 a 14).trans ((y22 14 (by decide)).trans ((y21 a 14).trans ((y20 14 (by decide)).trans ((y19 a 14).trans ((y18 14 (by decide)).trans ((y17 a 14).trans ((y16 14 (by decide)).trans ((y15 a 14).trans ((y14 14 (by decide)).trans ((y13 a 14).trans ((y12 14 (by decide)).trans ((y11 a 14).trans ((y10 14 (by decide)).trans ((y9 a 14).trans ((y8 14 (by decide)).trans ((y7 a 14).trans ((y6 14 (by decide)).trans ((y5 a 14).trans r4)))))))))))))))))))))))))))))))))))))))))))))))) ?_
  refine px_bipush (93) (mx_d tX12_init_1 59 rfl) (by decide) ?_
  refine px_iload_n (mx_d tX12_init_2 0 rfl) rfl rfl ?_
  refine px_iadd (mx_d tX12_init_2 1 rfl) (px_eqs (st' := [.int 101, .ref (a + 2)]) rfl ?_)
  refine px_iconst ((-1)) (mx_d tX12_init_2 2 rfl) (by decide) ?_
  refine px_iastoreC 101 (mx_d tX12_init_2 3 rfl) pp2_54 (by decide) (mx_inbE (by decide)) ?_
  have zz63 := mx_zr_up (k := 101) (x := (-1)) (pp2_54).1 zz62
  refine px_iinc 9 (L2 := [.ref a, .int 9]) (mx_d tX12_init_2 4 rfl) rfl (by decide) (by decide) rfl ?_
  refine px_goto (tgt := 228) (mx_d tX12_init_2 5 rfl) (by decide) ?_
  refine px_iload_n (mx_d tX12_init_1 54 rfl) rfl rfl ?_
  refine px_bipush (10) (mx_d tX12_init_1 55 rfl) (by decide) ?_
  refine px_icmp_ge (tgt := 250) (mx_d tX12_init_1 56 rfl) (by decide) (fun hd_ => absurd hd_ (by decide)) (fun _ => ?_)
  refine px_aload_n (mx_d tX12_init_1 57 rfl) rfl rfl ?_
  refine px_getR (mx_d tX12_init_1 58 rfl) fX12_98 rfl rfl oo54 ((y54 14 (by decide)).trans ((y53 a 14).trans ((y52 14 (by decide)).trans ((y51 a 14).trans ((y50 14 (by decide)).trans ((y49 a 14).trans ((y48 14 (by decide)).trans ((y47 a 14).trans ((y45 14 (by decide)).trans ((y44 a 14).trans ((y43 14 (by decide)).trans ((y42 a 14).trans ((y41 14 (by decide)).trans ((y40 a 14).trans ((y39 14 (by decide)).trans ((y38 a 14).trans ((y37 14 (by decide)).trans ((y36 a 14).trans ((y35 14 (by decide)).trans ((y34 a 14).trans ((y33 14 (by decide)).trans ((y32 a 14).trans ((y30 14 (by decide)).trans ((y29 a 14).trans ((y28 14 (by decide)).trans ((y27 a 14).trans ((y26 14 (by decide)).trans ((y25 a 14).trans ((y24 14 (by decide)).trans ((y23 a 14).trans ((y22 14 (by decide)).trans ((y21 a 14).trans ((y20 14 (by decide)).trans ((y19 a 14).trans ((y18 14 (by decide)).trans ((y17 a 14).trans ((y16 14 (by decide)).trans ((y15 a 14).trans ((y14 14 (by decide)).trans ((y13 a 14).trans ((y12 14 (by decide)).trans ((y11 a 14).trans ((y10 14 (by decide)).trans ((y9 a 14).trans ((y8 14 (by decide)).trans ((y7 a 14).trans ((y6 14 (by decide)).trans ((y5 a 14).trans r4)))))))))))))))))))))))))))))))))))))))))))))))) ?_
  refine px_bipush (93) (mx_d tX12_init_1 59 rfl) (by decide) ?_
  refine px_iload_n (mx_d tX12_init_2 0 rfl) rfl rfl ?_
  refine px_iadd (mx_d tX12_init_2 1 rfl) (px_eqs (st' := [.int 102, .ref (a + 2)]) rfl ?_)
  refine px_iconst ((-1)) (mx_d tX12_init_2 2 rfl) (by decide) ?_
  refine px_iastoreC 102 (mx_d tX12_init_2 3 rfl) pp2_54 (by decide) (mx_inbE (by decide)) ?_
  have zz64 := mx_zr_up (k := 102) (x := (-1)) (pp2_54).1 zz63
  refine px_iinc 10 (L2 := [.ref a, .int 10]) (mx_d tX12_init_2 4 rfl) rfl (by decide) (by decide) rfl ?_
  refine px_goto (tgt := 228) (mx_d tX12_init_2 5 rfl) (by decide) ?_
  refine px_iload_n (mx_d tX12_init_1 54 rfl) rfl rfl ?_
  refine px_bipush (10) (mx_d tX12_init_1 55 rfl) (by decide) ?_
  refine px_icmp_ge (tgt := 250) (mx_d tX12_init_1 56 rfl) (by decide) (fun _ => ?_) (fun hd_ => absurd hd_ (by decide))
  refine px_aload_n (mx_d tX12_init_2 6 rfl) rfl rfl ?_
  have X54 := @mx_st.rf (fun q => q = a) e54
  have X53 := x54.tr X54
  have X52 := x53.tr X53
  have X51 := x52.tr X52
  have X50 := x51.tr X51
  have X49 := x50.tr X50
  have X48 := x49.tr X49
  have X47 := x48.tr X48
  have X45 := x47.tr X47
  have X44 := x45.tr X45
  have X43 := x44.tr X44
  have X42 := x43.tr X43
  have X41 := x42.tr X42
  have X40 := x41.tr X41
  have X39 := x40.tr X40
  have X38 := x39.tr X39
  have X37 := x38.tr X38
  have X36 := x37.tr X37
  have X35 := x36.tr X36
  have X34 := x35.tr X35
  have X33 := x34.tr X34
  have X32 := x33.tr X33
  have X30 := x32.tr X32
  have X29 := x30.tr X30
  have X28 := x29.tr X29
  have X27 := x28.tr X28
  have X26 := x27.tr X27
  have X25 := x26.tr X26
  have X24 := x25.tr X25
  have X23 := x24.tr X24
  have X22 := x23.tr X23
  have X21 := x22.tr X22
  have X20 := x21.tr X21
  have X19 := x20.tr X20
  have X18 := x19.tr X19
  have X17 := x18.tr X18
  have X16 := x17.tr X17
  have X15 := x16.tr X16
  have X14 := x15.tr X15
  have X13 := x14.tr X14
  have X12 := x13.tr X13
  have X11 := x12.tr X12
  have X10 := x11.tr X11
  have X9 := x10.tr X10
  have X8 := x9.tr X9
  have X7 := x8.tr X8
  have X6 := x7.tr X7
  have X5 := x6.tr X6
  have X4 := x5.tr X5
  have X3 := x4.tr X4
  have X2 := x3.tr X3
  have X1 := x2.tr X2
  have X0 := x1.tr X1
  have LY : ly12 e54 a := ⟨X0.is h0, ⟨((y54 1 (by decide)).trans ((y53 a 1).trans ((y52 1 (by decide)).trans ((y51 a 1).trans ((y50 1 (by decide)).trans ((y49 a 1).trans ((y48 1 (by decide)).trans ((y47 a 1).trans ((y45 1 (by decide)).trans ((y44 a 1).trans ((y43 1 (by decide)).trans ((y42 a 1).trans ((y41 1 (by decide)).trans ((y40 a 1).trans ((y39 1 (by decide)).trans ((y38 a 1).trans ((y37 1 (by decide)).trans ((y36 a 1).trans ((y35 1 (by decide)).trans ((y34 a 1).trans ((y33 1 (by decide)).trans ((y32 a 1).trans ((y30 1 (by decide)).trans ((y29 a 1).trans ((y28 1 (by decide)).trans ((y27 a 1).trans ((y26 1 (by decide)).trans ((y25 a 1).trans ((y24 1 (by decide)).trans ((y23 a 1).trans ((y22 1 (by decide)).trans ((y21 a 1).trans ((y20 1 (by decide)).trans ((y19 a 1).trans ((y18 1 (by decide)).trans ((y17 a 1).trans ((y16 1 (by decide)).trans ((y15 a 1).trans ((y14 1 (by decide)).trans ((y13 a 1).trans ((y12 1 (by decide)).trans ((y11 a 1).trans ((y10 1 (by decide)).trans ((y9 a 1).trans ((y8 1 (by decide)).trans ((y7 a 1).trans ((y6 1 (by decide)).trans ((y5 a 1).trans ((y4 1 (by decide)).trans ((y3 a 1).trans r2)))))))))))))))))))))))))))))))))))))))))))))))))), X1.is s1⟩, ⟨((y54 14 (by decide)).trans ((y53 a 14).trans ((y52 14 (by decide)).trans ((y51 a 14).trans ((y50 14 (by decide)).trans ((y49 a 14).trans ((y48 14 (by decide)).trans ((y47 a 14).trans ((y45 14 (by decide)).trans ((y44 a 14).trans ((y43 14 (by decide)).trans ((y42 a 14).trans ((y41 14 (by decide)).trans ((y40 a 14).trans ((y39 14 (by decide)).trans ((y38 a 14).trans ((y37 14 (by decide)).trans ((y36 a 14).trans ((y35 14 (by decide)).trans ((y34 a 14).trans ((y33 14 (by decide)).trans ((y32 a 14).trans ((y30 14 (by decide)).trans ((y29 a 14).trans ((y28 14 (by decide)).trans ((y27 a 14).trans ((y26 14 (by decide)).trans ((y25 a 14).trans ((y24 14 (by decide)).trans ((y23 a 14).trans ((y22 14 (by decide)).trans ((y21 a 14).trans ((y20 14 (by decide)).trans ((y19 a 14).trans ((y18 14 (by decide)).trans ((y17 a 14).trans ((y16 14 (by decide)).trans ((y15 a 14).trans ((y14 14 (by decide)).trans ((y13 a 14).trans ((y12 14 (by decide)).trans ((y11 a 14).trans ((y10 14 (by decide)).trans ((y9 a 14).trans ((y8 14 (by decide)).trans ((y7 a 14).trans ((y6 14 (by decide)).trans ((y5 a 14).trans r4)))))))))))))))))))))))))))))))))))))))))))))))), X3.is s3⟩, ⟨((y54 15 (by decide)).trans ((y53 a 15).trans ((y52 15 (by decide)).trans ((y51 a 15).trans ((y50 15 (by decide)).trans ((y49 a 15).trans ((y48 15 (by decide)).trans ((y47 a 15).trans ((y45 15 (by decide)).trans ((y44 a 15).trans ((y43 15 (by decide)).trans ((y42 a 15).trans ((y41 15 (by decide)).trans ((y40 a 15).trans ((y39 15 (by decide)).trans ((y38 a 15).trans ((y37 15 (by decide)).trans ((y36 a 15).trans ((y35 15 (by decide)).trans ((y34 a 15).trans ((y33 15 (by decide)).trans ((y32 a 15).trans ((y30 15 (by decide)).trans ((y29 a 15).trans ((y28 15 (by decide)).trans ((y27 a 15).trans ((y26 15 (by decide)).trans ((y25 a 15).trans ((y24 15 (by decide)).trans ((y23 a 15).trans ((y22 15 (by decide)).trans ((y21 a 15).trans ((y20 15 (by decide)).trans ((y19 a 15).trans ((y18 15 (by decide)).trans ((y17 a 15).trans ((y16 15 (by decide)).trans ((y15 a 15).trans ((y14 15 (by decide)).trans ((y13 a 15).trans ((y12 15 (by decide)).trans ((y11 a 15).trans ((y10 15 (by decide)).trans ((y9 a 15).trans ((y8 15 (by decide)).trans ((y7 a 15).trans r6)))))))))))))))))))))))))))))))))))))))))))))), X5.is s5⟩, ⟨((y54 16 (by decide)).trans ((y53 a 16).trans ((y52 16 (by decide)).trans ((y51 a 16).trans ((y50 16 (by decide)).trans ((y49 a 16).trans ((y48 16 (by decide)).trans ((y47 a 16).trans ((y45 16 (by decide)).trans ((y44 a 16).trans ((y43 16 (by decide)).trans ((y42 a 16).trans ((y41 16 (by decide)).trans ((y40 a 16).trans ((y39 16 (by decide)).trans ((y38 a 16).trans ((y37 16 (by decide)).trans ((y36 a 16).trans ((y35 16 (by decide)).trans ((y34 a 16).trans ((y33 16 (by decide)).trans ((y32 a 16).trans ((y30 16 (by decide)).trans ((y29 a 16).trans ((y28 16 (by decide)).trans ((y27 a 16).trans ((y26 16 (by decide)).trans ((y25 a 16).trans ((y24 16 (by decide)).trans ((y23 a 16).trans ((y22 16 (by decide)).trans ((y21 a 16).trans ((y20 16 (by decide)).trans ((y19 a 16).trans ((y18 16 (by decide)).trans ((y17 a 16).trans ((y16 16 (by decide)).trans ((y15 a 16).trans ((y14 16 (by decide)).trans ((y13 a 16).trans ((y12 16 (by decide)).trans ((y11 a 16).trans ((y10 16 (by decide)).trans ((y9 a 16).trans r8)))))))))))))))))))))))))))))))))))))))))))), X7.is s7⟩, ⟨((y54 17 (by decide)).trans ((y53 a 17).trans ((y52 17 (by decide)).trans ((y51 a 17).trans ((y50 17 (by decide)).trans ((y49 a 17).trans ((y48 17 (by decide)).trans ((y47 a 17).trans ((y45 17 (by decide)).trans ((y44 a 17).trans ((y43 17 (by decide)).trans ((y42 a 17).trans ((y41 17 (by decide)).trans ((y40 a 17).trans ((y39 17 (by decide)).trans ((y38 a 17).trans ((y37 17 (by decide)).trans ((y36 a 17).trans ((y35 17 (by decide)).trans ((y34 a 17).trans ((y33 17 (by decide)).trans ((y32 a 17).trans ((y30 17 (by decide)).trans ((y29 a 17).trans ((y28 17 (by decide)).trans ((y27 a 17).trans ((y26 17 (by decide)).trans ((y25 a 17).trans ((y24 17 (by decide)).trans ((y23 a 17).trans ((y22 17 (by decide)).trans ((y21 a 17).trans ((y20 17 (by decide)).trans ((y19 a 17).trans ((y18 17 (by decide)).trans ((y17 a 17).trans ((y16 17 (by decide)).trans ((y15 a 17).trans ((y14 17 (by decide)).trans ((y13 a 17).trans ((y12 17 (by decide)).trans ((y11 a 17).trans r10)))))))))))))))))))))))))))))))))))))))))), X9.is s9⟩, ⟨((y54 18 (by decide)).trans ((y53 a 18).trans ((y52 18 (by decide)).trans ((y51 a 18).trans ((y50 18 (by decide)).trans ((y49 a 18).trans ((y48 18 (by decide)).trans ((y47 a 18).trans ((y45 18 (by decide)).trans ((y44 a 18).trans ((y43 18 (by decide)).trans ((y42 a 18).trans ((y41 18 (by decide)).trans ((y40 a 18).trans ((y39 18 (by decide)).trans ((y38 a 18).trans ((y37 18 (by decide)).trans ((y36 a 18).trans ((y35 18 (by decide)).trans ((y34 a 18).trans ((y33 18 (by decide)).trans ((y32 a 18).trans ((y30 18 (by decide)).trans ((y29 a 18).trans ((y28 18 (by decide)).trans ((y27 a 18).trans ((y26 18 (by decide)).trans ((y25 a 18).trans ((y24 18 (by decide)).trans ((y23 a 18).trans ((y22 18 (by decide)).trans ((y21 a 18).trans ((y20 18 (by decide)).trans ((y19 a 18).trans ((y18 18 (by decide)).trans ((y17 a 18).trans ((y16 18 (by decide)).trans ((y15 a 18).trans ((y14 18 (by decide)).trans ((y13 a 18).trans r12)))))))))))))))))))))))))))))))))))))))), X11.is s11⟩, ⟨((y54 19 (by decide)).trans ((y53 a 19).trans ((y52 19 (by decide)).trans ((y51 a 19).trans ((y50 19 (by decide)).trans ((y49 a 19).trans ((y48 19 (by decide)).trans ((y47 a 19).trans ((y45 19 (by decide)).trans ((y44 a 19).trans ((y43 19 (by decide)).trans ((y42 a 19).trans ((y41 19 (by decide)).trans ((y40 a 19).trans ((y39 19 (by decide)).trans ((y38 a 19).trans ((y37 19 (by decide)).trans ((y36 a 19).trans ((y35 19 (by decide)).trans ((y34 a 19).trans ((y33 19 (by decide)).trans ((y32 a 19).trans ((y30 19 (by decide)).trans ((y29 a 19).trans ((y28 19 (by decide)).trans ((y27 a 19).trans ((y26 19 (by decide)).trans ((y25 a 19).trans ((y24 19 (by decide)).trans ((y23 a 19).trans ((y22 19 (by decide)).trans ((y21 a 19).trans ((y20 19 (by decide)).trans ((y19 a 19).trans ((y18 19 (by decide)).trans ((y17 a 19).trans ((y16 19 (by decide)).trans ((y15 a 19).trans r14)))))))))))))))))))))))))))))))))))))), X13.is s13⟩, ⟨((y54 20 (by decide)).trans ((y53 a 20).trans ((y52 20 (by decide)).trans ((y51 a 20).trans ((y50 20 (by decide)).trans ((y49 a 20).trans ((y48 20 (by decide)).trans ((y47 a 20).trans ((y45 20 (by decide)).trans ((y44 a 20).trans ((y43 20 (by decide)).trans ((y42 a 20).trans ((y41 20 (by decide)).trans ((y40 a 20).trans ((y39 20 (by decide)).trans ((y38 a 20).trans ((y37 20 (by decide)).trans ((y36 a 20).trans ((y35 20 (by decide)).trans ((y34 a 20).trans ((y33 20 (by decide)).trans ((y32 a 20).trans ((y30 20 (by decide)).trans ((y29 a 20).trans ((y28 20 (by decide)).trans ((y27 a 20).trans ((y26 20 (by decide)).trans ((y25 a 20).trans ((y24 20 (by decide)).trans ((y23 a 20).trans ((y22 20 (by decide)).trans ((y21 a 20).trans ((y20 20 (by decide)).trans ((y19 a 20).trans ((y18 20 (by decide)).trans ((y17 a 20).trans r16)))))))))))))))))))))))))))))))))))), X15.is s15⟩, ⟨((y54 21 (by decide)).trans ((y53 a 21).trans ((y52 21 (by decide)).trans ((y51 a 21).trans ((y50 21 (by decide)).trans ((y49 a 21).trans ((y48 21 (by decide)).trans ((y47 a 21).trans ((y45 21 (by decide)).trans ((y44 a 21).trans ((y43 21 (by decide)).trans ((y42 a 21).trans ((y41 21 (by decide)).trans ((y40 a 21).trans ((y39 21 (by decide)).trans ((y38 a 21).trans ((y37 21 (by decide)).trans ((y36 a 21).trans ((y35 21 (by decide)).trans ((y34 a 21).trans ((y33 21 (by decide)).trans ((y32 a 21).trans ((y30 21 (by decide)).trans ((y29 a 21).trans ((y28 21 (by decide)).trans ((y27 a 21).trans ((y26 21 (by decide)).trans ((y25 a 21).trans ((y24 21 (by decide)).trans ((y23 a 21).trans ((y22 21 (by decide)).trans ((y21 a 21).trans ((y20 21 (by decide)).trans ((y19 a 21).trans r18)))))))))))))))))))))))))))))))))), X17.is s17⟩, ⟨((y54 22 (by decide)).trans ((y53 a 22).trans ((y52 22 (by decide)).trans ((y51 a 22).trans ((y50 22 (by decide)).trans ((y49 a 22).trans ((y48 22 (by decide)).trans ((y47 a 22).trans ((y45 22 (by decide)).trans ((y44 a 22).trans ((y43 22 (by decide)).trans ((y42 a 22).trans ((y41 22 (by decide)).trans ((y40 a 22).trans ((y39 22 (by decide)).trans ((y38 a 22).trans ((y37 22 (by decide)).trans ((y36 a 22).trans ((y35 22 (by decide)).trans ((y34 a 22).trans ((y33 22 (by decide)).trans ((y32 a 22).trans ((y30 22 (by decide)).trans ((y29 a 22).trans ((y28 22 (by decide)).trans ((y27 a 22).trans ((y26 22 (by decide)).trans ((y25 a 22).trans ((y24 22 (by decide)).trans ((y23 a 22).trans ((y22 22 (by decide)).trans ((y21 a 22).trans r20)))))))))))))))))))))))))))))))), X19.is s19⟩, ⟨((y54 23 (by decide)).trans ((y53 a 23).trans ((y52 23 (by decide)).trans ((y51 a 23).trans ((y50 23 (by decide)).trans ((y49 a 23).trans ((y48 23 (by decide)).trans ((y47 a 23).trans ((y45 23 (by decide)).trans ((y44 a 23).trans ((y43 23 (by decide)).trans ((y42 a 23).trans ((y41 23 (by decide)).trans ((y40 a 23).trans ((y39 23 (by decide)).trans ((y38 a 23).trans ((y37 23 (by decide)).trans ((y36 a 23).trans ((y35 23 (by decide)).trans ((y34 a 23).trans ((y33 23 (by decide)).trans ((y32 a 23).trans ((y30 23 (by decide)).trans ((y29 a 23).trans ((y28 23 (by decide)).trans ((y27 a 23).trans ((y26 23 (by decide)).trans ((y25 a 23).trans ((y24 23 (by decide)).trans ((y23 a 23).trans r22)))))))))))))))))))))))))))))), X21.is s21⟩, ⟨((y54 24 (by decide)).trans ((y53 a 24).trans ((y52 24 (by decide)).trans ((y51 a 24).trans ((y50 24 (by decide)).trans ((y49 a 24).trans ((y48 24 (by decide)).trans ((y47 a 24).trans ((y45 24 (by decide)).trans ((y44 a 24).trans ((y43 24 (by decide)).trans ((y42 a 24).trans ((y41 24 (by decide)).trans ((y40 a 24).trans ((y39 24 (by decide)).trans ((y38 a 24).trans ((y37 24 (by decide)).trans ((y36 a 24).trans ((y35 24 (by decide)).trans ((y34 a 24).trans ((y33 24 (by decide)).trans ((y32 a 24).trans ((y30 24 (by decide)).trans ((y29 a 24).trans ((y28 24 (by decide)).trans ((y27 a 24).trans ((y26 24 (by decide)).trans ((y25 a 24).trans r24)))))))))))))))))))))))))))), X23.is s23⟩, ⟨((y54 26 (by decide)).trans ((y53 a 26).trans ((y52 26 (by decide)).trans ((y51 a 26).trans ((y50 26 (by decide)).trans ((y49 a 26).trans ((y48 26 (by decide)).trans ((y47 a 26).trans ((y45 26 (by decide)).trans ((y44 a 26).trans ((y43 26 (by decide)).trans ((y42 a 26).trans ((y41 26 (by decide)).trans ((y40 a 26).trans ((y39 26 (by decide)).trans ((y38 a 26).trans ((y37 26 (by decide)).trans ((y36 a 26).trans ((y35 26 (by decide)).trans ((y34 a 26).trans ((y33 26 (by decide)).trans ((y32 a 26).trans ((y30 26 (by decide)).trans ((y29 a 26).trans ((y28 26 (by decide)).trans ((y27 a 26).trans r26)))))))))))))))))))))))))), X25.is s25⟩, ⟨((y54 27 (by decide)).trans ((y53 a 27).trans ((y52 27 (by decide)).trans ((y51 a 27).trans ((y50 27 (by decide)).trans ((y49 a 27).trans ((y48 27 (by decide)).trans ((y47 a 27).trans ((y45 27 (by decide)).trans ((y44 a 27).trans ((y43 27 (by decide)).trans ((y42 a 27).trans ((y41 27 (by decide)).trans ((y40 a 27).trans ((y39 27 (by decide)).trans ((y38 a 27).trans ((y37 27 (by decide)).trans ((y36 a 27).trans ((y35 27 (by decide)).trans ((y34 a 27).trans ((y33 27 (by decide)).trans ((y32 a 27).trans ((y30 27 (by decide)).trans ((y29 a 27).trans r28)))))))))))))))))))))))), X27.is s27⟩, ⟨((y54 28 (by decide)).trans ((y53 a 28).trans ((y52 28 (by decide)).trans ((y51 a 28).trans ((y50 28 (by decide)).trans ((y49 a 28).trans ((y48 28 (by decide)).trans ((y47 a 28).trans ((y45 28 (by decide)).trans ((y44 a 28).trans ((y43 28 (by decide)).trans ((y42 a 28).trans ((y41 28 (by decide)).trans ((y40 a 28).trans ((y39 28 (by decide)).trans ((y38 a 28).trans ((y37 28 (by decide)).trans ((y36 a 28).trans ((y35 28 (by decide)).trans ((y34 a 28).trans ((y33 28 (by decide)).trans ((y32 a 28).trans r30)))))))))))))))))))))), X29.is s29⟩, ⟨((y54 34 (by decide)).trans ((y53 a 34).trans ((y52 34 (by decide)).trans ((y51 a 34).trans ((y50 34 (by decide)).trans ((y49 a 34).trans ((y48 34 (by decide)).trans ((y47 a 34).trans ((y45 34 (by decide)).trans ((y44 a 34).trans ((y43 34 (by decide)).trans ((y42 a 34).trans ((y41 34 (by decide)).trans ((y40 a 34).trans ((y39 34 (by decide)).trans ((y38 a 34).trans ((y37 34 (by decide)).trans ((y36 a 34).trans ((y35 34 (by decide)).trans ((y34 a 34).trans r33)))))))))))))))))))), X32.is s32⟩, ⟨((y54 35 (by decide)).trans ((y53 a 35).trans ((y52 35 (by decide)).trans ((y51 a 35).trans ((y50 35 (by decide)).trans ((y49 a 35).trans ((y48 35 (by decide)).trans ((y47 a 35).trans ((y45 35 (by decide)).trans ((y44 a 35).trans ((y43 35 (by decide)).trans ((y42 a 35).trans ((y41 35 (by decide)).trans ((y40 a 35).trans ((y39 35 (by decide)).trans ((y38 a 35).trans ((y37 35 (by decide)).trans ((y36 a 35).trans r35)))))))))))))))))), X34.is s34⟩, ⟨((y54 36 (by decide)).trans ((y53 a 36).trans ((y52 36 (by decide)).trans ((y51 a 36).trans ((y50 36 (by decide)).trans ((y49 a 36).trans ((y48 36 (by decide)).trans ((y47 a 36).trans ((y45 36 (by decide)).trans ((y44 a 36).trans ((y43 36 (by decide)).trans ((y42 a 36).trans ((y41 36 (by decide)).trans ((y40 a 36).trans ((y39 36 (by decide)).trans ((y38 a 36).trans r37)))))))))))))))), X36.is s36⟩, ⟨((y54 37 (by decide)).trans ((y53 a 37).trans ((y52 37 (by decide)).trans ((y51 a 37).trans ((y50 37 (by decide)).trans ((y49 a 37).trans ((y48 37 (by decide)).trans ((y47 a 37).trans ((y45 37 (by decide)).trans ((y44 a 37).trans ((y43 37 (by decide)).trans ((y42 a 37).trans ((y41 37 (by decide)).trans ((y40 a 37).trans r39)))))))))))))), X38.is s38⟩, ⟨((y54 38 (by decide)).trans ((y53 a 38).trans ((y52 38 (by decide)).trans ((y51 a 38).trans ((y50 38 (by decide)).trans ((y49 a 38).trans ((y48 38 (by decide)).trans ((y47 a 38).trans ((y45 38 (by decide)).trans ((y44 a 38).trans ((y43 38 (by decide)).trans ((y42 a 38).trans r41)))))))))))), X40.is s40⟩, ⟨((y54 39 (by decide)).trans ((y53 a 39).trans ((y52 39 (by decide)).trans ((y51 a 39).trans ((y50 39 (by decide)).trans ((y49 a 39).trans ((y48 39 (by decide)).trans ((y47 a 39).trans ((y45 39 (by decide)).trans ((y44 a 39).trans r43)))))))))), X42.is s42⟩, ⟨((y54 40 (by decide)).trans ((y53 a 40).trans ((y52 40 (by decide)).trans ((y51 a 40).trans ((y50 40 (by decide)).trans ((y49 a 40).trans ((y48 40 (by decide)).trans ((y47 a 40).trans r45)))))))), X44.is s44⟩, ⟨((y54 50 (by decide)).trans ((y53 a 50).trans ((y52 50 (by decide)).trans ((y51 a 50).trans ((y50 50 (by decide)).trans ((y49 a 50).trans r48)))))), X47.is s47⟩, ⟨((y54 53 (by decide)).trans ((y53 a 53).trans ((y52 53 (by decide)).trans ((y51 a 53).trans r50)))), X49.is s49⟩, ⟨((y54 54 (by decide)).trans ((y53 a 54).trans r52)), X51.is s51⟩, ⟨r54, X53.is s53⟩⟩
  refine px_callV (mx_d tX12_init_2 7 rfl) iX12_181 rfl vX12_startSo ⟨_, rfl, rfl⟩ (oo54) (CX12_startSo LY hS) (by decide) (Nat.zero_le _) (Nat.zero_le _) rfl rfl (Nat.le_of_ble_eq_true rfl) (fun v z hv => ?_)
  obtain ⟨rfl, rfl⟩ := hv
  have ZZ : mx_zr e54 r.1 r.2 := fun i hi j => ⟨(hrz i (Nat.le_trans (Nat.le_of_eq ((n54.trans n53)).symm) hi) j).1, (hrz i (Nat.le_trans (Nat.le_of_eq ((n54.trans n53)).symm) hi) j).2, (zz64 i hi j).2.2⟩
  exact px_return (mx_d tX12_init_2 8 rfl) rfl ⟨rfl, e54, rfl, (n54.trans n53), mx_x1 hn X0, ZZ, LY⟩
