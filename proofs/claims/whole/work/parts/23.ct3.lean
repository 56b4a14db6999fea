set_option maxRecDepth 20000 in
set_option maxHeartbeats 8000000 in
theorem K3_init {G : mG} {l : Launch} {a : Nat} {e : mE} {mi : mI} {mj : mJ}  (hcap : a + 101 < 100000) (hn : e.1 = a + 1) (h0 : mx_is e a 3 0) (hz : mx_zr e mi mj) :
    mx_CallN G l MX3_init 2 100 2322 [.ref a] (e, mi, mj) (mx_made ly3 a 101 e mi mj mi mj) := by
  refine px_entryN (L := [.ref a, .float 0]) (by decide +kernel) (Nat.le_of_ble_eq_true rfl) rfl ?_
  refine px_aload_n (mx_d tX3_init_0 0 rfl) rfl rfl ?_
  refine px_objInit (mx_d tX3_init_0 1 rfl) rfl oX3_3 w_obj1 w_obj2 (by decide) (Nat.le_of_ble_eq_true rfl) ?_
  refine px_aload_n (mx_d tX3_init_0 2 rfl) rfl rfl ?_
  refine px_bipush (9) (mx_d tX3_init_0 3 rfl) (by decide) ?_
  refine cx_newR 9 3 (fun q => q = a ∨ q = a + 1) a (a + 1) (Or.inl ⟨rfl, rfl⟩) (mx_d tX3_init_0 4 rfl) rfl qX3_11 (fun _ h => h.2.1) (by decide) (by decide) hn (mx_lt hcap (by decide)) hz (by decide) (by decide) (fun e1 n1 x1 y1 z1 s1 => ?_)
  have oo1 := x1.is h0
  have o2 := oo1
  refine cx_putR (mx_d tX3_init_0 5 rfl) fX3_13 rfl ⟨_, rfl, rfl, rfl⟩ rfl rfl (fun q => q = a ∨ q = a + 1) (Or.inl rfl) o2 z1 (fun e2 n2 x2 y2 z2 r2 v2 => ?_)
  refine px_iconst (0) (mx_d tX3_init_0 6 rfl) (by decide) ?_
  refine px_istore_n (L2 := [.ref a, .int 0]) (mx_d tX3_init_0 7 rfl) rfl (by decide) rfl ?_
  refine px_iload_n (mx_d tX3_init_0 8 rfl) rfl rfl ?_
  refine px_bipush (9) (mx_d tX3_init_0 9 rfl) (by decide) ?_
  refine px_icmp_ge (tgt := 40) (mx_d tX3_init_0 10 rfl) (by decide) (fun hd_ => absurd hd_ (by decide)) (fun _ => ?_)
  refine px_aload_n (mx_d tX3_init_0 11 rfl) rfl rfl ?_
  have oo2 := x2.is oo1
  refine px_getR (mx_d tX3_init_0 12 rfl) fX3_13 rfl rfl oo2 r2 ?_
  refine px_iload_n (mx_d tX3_init_0 13 rfl) rfl rfl ?_
  refine cx_new (fun q => q = a ∨ q = a + 1) a (a + 2) (mx_d tX3_init_0 14 rfl) kX3_11 rfl (n2.trans n1) (mx_lt hcap (by decide)) z2 (by decide) (by decide) (fun e3o n3o x3o y3o z3o s3o => ?_)
  refine px_dup (mx_d tX3_init_0 15 rfl) rfl ?_
  refine px_callIN (mx_d tX3_init_0 16 rfl) nX3_17 rfl rfl rfl mX4_init (fun _ h => h) (K4_init (a := a + 2) (show a + 13 < 100000 from mx_lt hcap (by decide)) n3o s3o z3o) (by decide) (by decide) (by decide) rfl rfl (Nat.le_of_ble_eq_true rfl) (fun v z hv => ?_)
  obtain ⟨rfl, e3, rfl, n3, w3, z3, s3⟩ := hv
  have x3 := mx_made_st x3o (n2.trans n1) n3 w3
  have y3 := mx_made_sa (f := 999) (fun j _ => y3o a j) (mx_ap (by decide)) w3
  have pp1_2 := x2.is s1
  have pp1_3 := x3.is pp1_2
  refine cx_aastore (fun q => q = a ∨ q = a + 1) a 0 (Or.inr rfl) (Nat.ne_of_lt (mx_ap (by decide))) (by decide) (Or.inl ⟨rfl, rfl, rfl⟩) (mx_d tX3_init_0 17 rfl) pp1_3 (ly4_o s3) (mx_inbE (by decide)) z3 (fun e4 n4 x4 y4 z4 u4 r4 => ?_)
  refine px_iinc 1 (L2 := [.ref a, .int 1]) (mx_d tX3_init_0 18 rfl) rfl (by decide) (by decide) rfl ?_
  refine px_goto (tgt := 15) (mx_d tX3_init_0 19 rfl) (by decide) ?_
  refine px_iload_n (mx_d tX3_init_0 8 rfl) rfl rfl ?_
  refine px_bipush (9) (mx_d tX3_init_0 9 rfl) (by decide) ?_
  refine px_icmp_ge (tgt := 40) (mx_d tX3_init_0 10 rfl) (by decide) (fun hd_ => absurd hd_ (by decide)) (fun _ => ?_)
  refine px_aload_n (mx_d tX3_init_0 11 rfl) rfl rfl ?_
  have oo3 := x3.is oo2
  have oo4 := x4.is oo3
  refine px_getR (mx_d tX3_init_0 12 rfl) fX3_13 rfl rfl oo4 ((y4 0 (by decide)).trans ((y3 0 (by decide)).trans r2)) ?_
  refine px_iload_n (mx_d tX3_init_0 13 rfl) rfl rfl ?_
  refine cx_new (fun q => q = a ∨ q = a + 1) a (a + 13) (mx_d tX3_init_0 14 rfl) kX3_11 rfl (n4.trans n3) (mx_lt hcap (by decide)) z4 (by decide) (by decide) (fun e5o n5o x5o y5o z5o s5o => ?_)
  refine px_dup (mx_d tX3_init_0 15 rfl) rfl ?_
  refine px_callIN (mx_d tX3_init_0 16 rfl) nX3_17 rfl rfl rfl mX4_init (fun _ h => h) (K4_init (a := a + 13) (show a + 24 < 100000 from mx_lt hcap (by decide)) n5o s5o z5o) (by decide) (by decide) (by decide) rfl rfl (Nat.le_of_ble_eq_true rfl) (fun v z hv => ?_)
  obtain ⟨rfl, e5, rfl, n5, w5, z5, s5⟩ := hv
  have x5 := mx_made_st x5o (n4.trans n3) n5 w5
  have y5 := mx_made_sa (f := 999) (fun j _ => y5o a j) (mx_ap (by decide)) w5
  have pp1_4 := x4.is pp1_3
  have pp1_5 := x5.is pp1_4
  refine cx_aastore (fun q => q = a ∨ q = a + 1) a 1 (Or.inr rfl) (Nat.ne_of_lt (mx_ap (by decide))) (by decide) (Or.inl ⟨rfl, rfl, rfl⟩) (mx_d tX3_init_0 17 rfl) pp1_5 (ly4_o s5) (mx_inbE (by decide)) z5 (fun e6 n6 x6 y6 z6 u6 r6 => ?_)
  refine px_iinc 2 (L2 := [.ref a, .int 2]) (mx_d tX3_init_0 18 rfl) rfl (by decide) (by decide) rfl ?_
  refine px_goto (tgt := 15) (mx_d tX3_init_0 19 rfl) (by decide) ?_
  refine px_iload_n (mx_d tX3_init_0 8 rfl) rfl rfl ?_
  refine px_bipush (9) (mx_d tX3_init_0 9 rfl) (by decide) ?_
  refine px_icmp_ge (tgt := 40) (mx_d tX3_init_0 10 rfl) (by decide) (fun hd_ => absurd hd_ (by decide)) (fun _ => ?_)
  refine px_aload_n (mx_d tX3_init_0 11 rfl) rfl rfl ?_
  have oo5 := x5.is oo4
  have oo6 := x6.is oo5
  refine px_getR (mx_d tX3_init_0 12 rfl) fX3_13 rfl rfl oo6 ((y6 0 (by decide)).trans ((y5 0 (by decide)).trans ((y4 0 (by decide)).trans ((y3 0 (by decide)).trans r2)))) ?_
  refine px_iload_n (mx_d tX3_init_0 13 rfl) rfl rfl ?_
  refine cx_new (fun q => q = a ∨ q = a + 1) a (a + 24) (mx_d tX3_init_0 14 rfl) kX3_11 rfl (n6.trans n5) (mx_lt hcap (by decide)) z6 (by decide) (by decide) (fun e7o n7o x7o y7o z7o s7o => ?_)
  refine px_dup (mx_d tX3_init_0 15 rfl) rfl ?_
  refine px_callIN (mx_d tX3_init_0 16 rfl) nX3_17 rfl rfl rfl mX4_init (fun _ h => h) (K4_init (a := a + 24) (show a + 35 < 100000 from mx_lt hcap (by decide)) n7o s7o z7o) (by decide) (by decide) (by decide) rfl rfl (Nat.le_of_ble_eq_true rfl) (fun v z hv => ?_)
  obtain ⟨rfl, e7, rfl, n7, w7, z7, s7⟩ := hv
  have x7 := mx_made_st x7o (n6.trans n5) n7 w7
  have y7 := mx_made_sa (f := 999) (fun j _ => y7o a j) (mx_ap (by decide)) w7
  have pp1_6 := x6.is pp1_5
  have pp1_7 := x7.is pp1_6
  refine cx_aastore (fun q => q = a ∨ q = a + 1) a 2 (Or.inr rfl) (Nat.ne_of_lt (mx_ap (by decide))) (by decide) (Or.inl ⟨rfl, rfl, rfl⟩) (mx_d tX3_init_0 17 rfl) pp1_7 (ly4_o s7) (mx_inbE (by decide)) z7 (fun e8 n8 x8 y8 z8 u8 r8 => ?_)
  refine px_iinc 3 (L2 := [.ref a, .int 3]) (mx_d tX3_init_0 18 rfl) rfl (by decide) (by decide) rfl ?_
  refine px_goto (tgt := 15) (mx_d tX3_init_0 19 rfl) (by decide) ?_
  refine px_iload_n (mx_d tX3_init_0 8 rfl) rfl rfl ?_
  refine px_bipush (9) (mx_d tX3_init_0 9 rfl) (by decide) ?_
  refine px_icmp_ge (tgt := 40) (mx_d tX3_init_0 10 rfl) (by decide) (fun hd_ => absurd hd_ (by decide)) (fun _ => ?_)
  refine px_aload_n (mx_d tX3_init_0 11 rfl) rfl rfl ?_
  have oo7 := x7.is oo6
  have oo8 := x8.is oo7
  refine px_getR (mx_d tX3_init_0 12 rfl) fX3_13 rfl rfl oo8 ((y8 0 (by decide)).trans ((y7 0 (by decide)).trans ((y6 0 (by decide)).trans ((y5 0 (by decide)).trans ((y4 0 (by decide)).trans ((y3 0 (by decide)).trans r2)))))) ?_
  refine px_iload_n (mx_d tX3_init_0 13 rfl) rfl rfl ?_
  refine cx_new (fun q => q = a ∨ q = a + 1) a (a + 35) (mx_d tX3_init_0 14 rfl) kX3_11 rfl (n8.trans n7) (mx_lt hcap (by decide)) z8 (by decide) (by decide) (fun e9o n9o x9o y9o z9o s9o => ?_)
  refine px_dup (mx_d tX3_init_0 15 rfl) rfl ?_
  refine px_callIN (mx_d tX3_init_0 16 rfl) nX3_17 rfl rfl rfl mX4_init (fun _ h => h) (K4_init (a := a + 35) (show a + 46 < 100000 from mx_lt hcap (by decide)) n9o s9o z9o) (by decide) (by decide) (by decide) rfl rfl (Nat.le_of_ble_eq_true rfl) (fun v z hv => ?_)
  obtain ⟨rfl, e9, rfl, n9, w9, z9, s9⟩ := hv
  have x9 := mx_made_st x9o (n8.trans n7) n9 w9
  have y9 := mx_made_sa (f := 999) (fun j _ => y9o a j) (mx_ap (by decide)) w9
  have pp1_8 := x8.is pp1_7
  have pp1_9 := x9.is pp1_8
  refine cx_aastore (fun q => q = a ∨ q = a + 1) a 3 (Or.inr rfl) (Nat.ne_of_lt (mx_ap (by decide))) (by decide) (Or.inl ⟨rfl, rfl, rfl⟩) (mx_d tX3_init_0 17 rfl) pp1_9 (ly4_o s9) (mx_inbE (by decide)) z9 (fun e10 n10 x10 y10 z10 u10 r10 => ?_)
  refine px_iinc 4 (L2 := [.ref a, .int 4]) (mx_d tX3_init_0 18 rfl) rfl (by decide) (by decide) rfl ?_
  refine px_goto (tgt := 15) (mx_d tX3_init_0 19 rfl) (by decide) ?_
  refine px_iload_n (mx_d tX3_init_0 8 rfl) rfl rfl ?_
  refine px_bipush (9) (mx_d tX3_init_0 9 rfl) (by decide) ?_
  refine px_icmp_ge (tgt := 40) (mx_d tX3_init_0 10 rfl) (by decide) (fun hd_ => absurd hd_ (by decide)) (fun _ => ?_)
  refine px_aload_n (mx_d tX3_init_0 11 rfl) rfl rfl ?_
  have oo9 := x9.is oo8
  have oo10 := x10.is oo9
  refine px_getR (mx_d tX3_init_0 12 rfl) fX3_13 rfl rfl oo10 ((y10 0 (by decide)).trans ((y9 0 (by decide)).trans ((y8 0 (by decide)).trans ((y7 0 (by decide)).trans ((y6 0 (by decide)).trans ((y5 0 (by decide)).trans ((y4 0 (by decide)).trans ((y3 0 (by decide)).trans r2)))))))) ?_
  refine px_iload_n (mx_d tX3_init_0 13 rfl) rfl rfl ?_
  refine cx_new (fun q => q = a ∨ q = a + 1) a (a + 46) (mx_d tX3_init_0 14 rfl) kX3_11 rfl (n10.trans n9) (mx_lt hcap (by decide)) z10 (by decide) (by decide) (fun e11o n11o x11o y11o z11o s11o => ?_)
  refine px_dup (mx_d tX3_init_0 15 rfl) rfl ?_
  refine px_callIN (mx_d tX3_init_0 16 rfl) nX3_17 rfl rfl rfl mX4_init (fun _ h => h) (K4_init (a := a + 46) (show a + 57 < 100000 from mx_lt hcap (by decide)) n11o s11o z11o) (by decide) (by decide) (by decide) rfl rfl (Nat.le_of_ble_eq_true rfl) (fun v z hv => ?_)
  obtain ⟨rfl, e11, rfl, n11, w11, z11, s11⟩ := hv
  have x11 := mx_made_st x11o (n10.trans n9) n11 w11
  have y11 := mx_made_sa (f := 999) (fun j _ => y11o a j) (mx_ap (by decide)) w11
  have pp1_10 := x10.is pp1_9
  have pp1_11 := x11.is pp1_10
  refine cx_aastore (fun q => q = a ∨ q = a + 1) a 4 (Or.inr rfl) (Nat.ne_of_lt (mx_ap (by decide))) (by decide) (Or.inl ⟨rfl, rfl, rfl⟩) (mx_d tX3_init_0 17 rfl) pp1_11 (ly4_o s11) (mx_inbE (by decide)) z11 (fun e12 n12 x12 y12 z12 u12 r12 => ?_)
  refine px_iinc 5 (L2 := [.ref a, .int 5]) (mx_d tX3_init_0 18 rfl) rfl (by decide) (by decide) rfl ?_
  refine px_goto (tgt := 15) (mx_d tX3_init_0 19 rfl) (by decide) ?_
  refine px_iload_n (mx_d tX3_init_0 8 rfl) rfl rfl ?_
  refine px_bipush (9) (mx_d tX3_init_0 9 rfl) (by decide) ?_
  refine px_icmp_ge (tgt := 40) (mx_d tX3_init_0 10 rfl) (by decide) (fun hd_ => absurd hd_ (by decide)) (fun _ => ?_)
  refine px_aload_n (mx_d tX3_init_0 11 rfl) rfl rfl ?_
  have oo11 := x11.is oo10
  have oo12 := x12.is oo11
  refine px_getR (mx_d tX3_init_0 12 rfl) fX3_13 rfl rfl oo12 ((y12 0 (by decide)).trans ((y11 0 (by decide)).trans ((y10 0 (by decide)).trans ((y9 0 (by decide)).trans ((y8 0 (by decide)).trans ((y7 0 (by decide)).trans ((y6 0 (by decide)).trans ((y5 0 (by decide)).trans ((y4 0 (by decide)).trans ((y3 0 (by decide)).trans r2)))))))))) ?_
  refine px_iload_n (mx_d tX3_init_0 13 rfl) rfl rfl ?_
  refine cx_new (fun q => q = a ∨ q = a + 1) a (a + 57) (mx_d tX3_init_0 14 rfl) kX3_11 rfl (n12.trans n11) (mx_lt hcap (by decide)) z12 (by decide) (by decide) (fun e13o n13o x13o y13o z13o s13o => ?_)
  refine px_dup (mx_d tX3_init_0 15 rfl) rfl ?_
  refine px_callIN (mx_d tX3_init_0 16 rfl) nX3_17 rfl rfl rfl mX4_init (fun _ h => h) (K4_init (a := a + 57) (show a + 68 < 100000 from mx_lt hcap (by decide)) n13o s13o z13o) (by decide) (by decide) (by decide) rfl rfl (Nat.le_of_ble_eq_true rfl) (fun v z hv => ?_)
  obtain ⟨rfl, e13, rfl, n13, w13, z13, s13⟩ := hv
  have x13 := mx_made_st x13o (n12.trans n11) n13 w13
  have y13 := mx_made_sa (f := 999) (fun j _ => y13o a j) (mx_ap (by decide)) w13
  have pp1_12 := x12.is pp1_11
  have pp1_13 := x13.is pp1_12
  refine cx_aastore (fun q => q = a ∨ q = a + 1) a 5 (Or.inr rfl) (Nat.ne_of_lt (mx_ap (by decide))) (by decide) (Or.inl ⟨rfl, rfl, rfl⟩) (mx_d tX3_init_0 17 rfl) pp1_13 (ly4_o s13) (mx_inbE (by decide)) z13 (fun e14 n14 x14 y14 z14 u14 r14 => ?_)
  refine px_iinc 6 (L2 := [.ref a, .int 6]) (mx_d tX3_init_0 18 rfl) rfl (by decide) (by decide) rfl ?_
  refine px_goto (tgt := 15) (mx_d tX3_init_0 19 rfl) (by decide) ?_
  refine px_iload_n (mx_d tX3_init_0 8 rfl) rfl rfl ?_
  refine px_bipush (9) (mx_d tX3_init_0 9 rfl) (by decide) ?_
  refine px_icmp_ge (tgt := 40) (mx_d tX3_init_0 10 rfl) (by decide) (fun hd_ => absurd hd_ (by decide)) (fun _ => ?_)
  refine px_aload_n (mx_d tX3_init_0 11 rfl) rfl rfl ?_
  have oo13 := x13.is oo12
  have oo14 := x14.is oo13
  refine px_getR (mx_d tX3_init_0 12 rfl) fX3_13 rfl rfl oo14 ((y14 0 (by decide)).trans ((y13 0 (by decide)).trans ((y12 0 (by decide)).trans ((y11 0 (by decide)).trans ((y10 0 (by decide)).trans ((y9 0 (by decide)).trans ((y8 0 (by decide)).trans ((y7 0 (by decide)).trans ((y6 0 (by decide)).trans ((y5 0 (by decide)).trans ((y4 0 (by decide)).trans ((y3 0 (by decide)).trans r2)))))))))))) ?_
  refine px_iload_n (mx_d tX3_init_0 13 rfl) rfl rfl ?_
  refine cx_new (fun q => q = a ∨ q = a + 1) a (a + 68) (mx_d tX3_init_0 14 rfl) kX3_11 rfl (n14.trans n13) (mx_lt hcap (by decide)) z14 (by decide) (by decide) (fun e15o n15o x15o y15o z15o s15o => ?_)
  refine px_dup (mx_d tX3_init_0 15 rfl) rfl ?_
  refine px_callIN (mx_d tX3_init_0 16 rfl) nX3_17 rfl rfl rfl mX4_init (fun _ h => h) (K4_init (a := a + 68) (show a + 79 < 100000 from mx_lt hcap (by decide)) n15o s15o z15o) (by decide) (by decide) (by decide) rfl rfl (Nat.le_of_ble_eq_true rfl) (fun v z hv => ?_)
  obtain ⟨rfl, e15, rfl, n15, w15, z15, s15⟩ := hv
  have x15 := mx_made_st x15o (n14.trans n13) n15 w15
  have y15 := mx_made_sa (f := 999) (fun j _ => y15o a j) (mx_ap (by decide)) w15
  have pp1_14 := x14.is pp1_13
  have pp1_15 := x15.is pp1_14
  refine cx_aastore (fun q => q = a ∨ q = a + 1) a 6 (Or.inr rfl) (Nat.ne_of_lt (mx_ap (by decide))) (by decide) (Or.inl ⟨rfl, rfl, rfl⟩) (mx_d tX3_init_0 17 rfl) pp1_15 (ly4_o s15) (mx_inbE (by decide)) z15 (fun e16 n16 x16 y16 z16 u16 r16 => ?_)
  refine px_iinc 7 (L2 := [.ref a, .int 7]) (mx_d tX3_init_0 18 rfl) rfl (by decide) (by decide) rfl ?_
  refine px_goto (tgt := 15) (mx_d tX3_init_0 19 rfl) (by decide) ?_
  refine px_iload_n (mx_d tX3_init_0 8 rfl) rfl rfl ?_
  refine px_bipush (9) (mx_d tX3_init_0 9 rfl) (by decide) ?_
  refine px_icmp_ge (tgt := 40) (mx_d tX3_init_0 10 rfl) (by decide) (fun hd_ => absurd hd_ (by decide)) (fun _ => ?_)
  refine px_aload_n (mx_d tX3_init_0 11 rfl) rfl rfl ?_
  have oo15 := x15.is oo14
  have oo16 := x16.is oo15
  refine px_getR (mx_d tX3_init_0 12 rfl) fX3_13 rfl rfl oo16 ((y16 0 (by decide)).trans ((y15 0 (by decide)).trans ((y14 0 (by decide)).trans ((y13 0 (by decide)).trans ((y12 0 (by decide)).trans ((y11 0 (by decide)).trans ((y10 0 (by decide)).trans ((y9 0 (by decide)).trans ((y8 0 (by decide)).trans ((y7 0 (by decide)).trans ((y6 0 (by decide)).trans ((y5 0 (by decide)).trans ((y4 0 (by decide)).trans ((y3 0 (by decide)).trans r2)))))))))))))) ?_
  refine px_iload_n (mx_d tX3_init_0 13 rfl) rfl rfl ?_
  refine cx_new (fun q => q = a ∨ q = a + 1) a (a + 79) (mx_d tX3_init_0 14 rfl) kX3_11 rfl (n16.trans n15) (mx_lt hcap (by decide)) z16 (by decide) (by decide) (fun e17o n17o x17o y17o z17o s17o => ?_)
  refine px_dup (mx_d tX3_init_0 15 rfl) rfl ?_
  refine px_callIN (mx_d tX3_init_0 16 rfl) nX3_17 rfl rfl rfl mX4_init (fun _ h => h) (K4_init (a := a + 79) (show a + 90 < 100000 from mx_lt hcap (by decide)) n17o s17o z17o) (by decide) (by decide) (by decide) rfl rfl (Nat.le_of_ble_eq_true rfl) (fun v z hv => ?_)
  obtain ⟨rfl, e17, rfl, n17, w17, z17, s17⟩ := hv
  have x17 := mx_made_st x17o (n16.trans n15) n17 w17
  have y17 := mx_made_sa (f := 999) (fun j _ => y17o a j) (mx_ap (by decide)) w17
  have pp1_16 := x16.is pp1_15
  have pp1_17 := x17.is pp1_16
  refine cx_aastore (fun q => q = a ∨ q = a + 1) a 7 (Or.inr rfl) (Nat.ne_of_lt (mx_ap (by decide))) (by decide) (Or.inl ⟨rfl, rfl, rfl⟩) (mx_d tX3_init_0 17 rfl) pp1_17 (ly4_o s17) (mx_inbE (by decide)) z17 (fun e18 n18 x18 y18 z18 u18 r18 => ?_)
  refine px_iinc 8 (L2 := [.ref a, .int 8]) (mx_d tX3_init_0 18 rfl) rfl (by decide) (by decide) rfl ?_
  refine px_goto (tgt := 15) (mx_d tX3_init_0 19 rfl) (by decide) ?_
  refine px_iload_n (mx_d tX3_init_0 8 rfl) rfl rfl ?_
  refine px_bipush (9) (mx_d tX3_init_0 9 rfl) (by decide) ?_
  refine px_icmp_ge (tgt := 40) (mx_d tX3_init_0 10 rfl) (by decide) (fun hd_ => absurd hd_ (by decide)) (fun _ => ?_)
  refine px_aload_n (mx_d tX3_init_0 11 rfl) rfl rfl ?_
  have oo17 := x17.is oo16
  have oo18 := x18.is oo17
  refine px_getR (mx_d tX3_init_0 12 rfl) fX3_13 rfl rfl oo18 ((y18 0 (by decide)).trans ((y17 0 (by decide)).trans ((y16 0 (by decide)).trans ((y15 0 (by decide)).trans ((y14 0 (by decide)).trans ((y13 0 (by decide)).trans ((y12 0 (by decide)).trans ((y11 0 (by decide)).trans ((y10 0 (by decide)).trans ((y9 0 (by decide)).trans ((y8 0 (by decide)).trans ((y7 0 (by decide)).trans ((y6 0 (by decide)).trans ((y5 0 (by decide)).trans ((y4 0 (by decide)).trans ((y3 0 (by decide)).trans r2)))))))))))))))) ?_
  refine px_iload_n (mx_d tX3_init_0 13 rfl) rfl rfl ?_
  refine cx_new (fun q => q = a ∨ q = a + 1) a (a + 90) (mx_d tX3_init_0 14 rfl) kX3_11 rfl (n18.trans n17) (mx_lt hcap (by decide)) z18 (by decide) (by decide) (fun e19o n19o x19o y19o z19o s19o => ?_)
  refine px_dup (mx_d tX3_init_0 15 rfl) rfl ?_
  refine px_callIN (mx_d tX3_init_0 16 rfl) nX3_17 rfl rfl rfl mX4_init (fun _ h => h) (K4_init (a := a + 90) (show a + 101 < 100000 from mx_lt hcap (by decide)) n19o s19o z19o) (by decide) (by decide) (by decide) rfl rfl (Nat.le_of_ble_eq_true rfl) (fun v z hv => ?_)
  obtain ⟨rfl, e19, rfl, n19, w19, z19, s19⟩ := hv
  have x19 := mx_made_st x19o (n18.trans n17) n19 w19
  have y19 := mx_made_sa (f := 999) (fun j _ => y19o a j) (mx_ap (by decide)) w19
  have pp1_18 := x18.is pp1_17
  have pp1_19 := x19.is pp1_18
  refine cx_aastore (fun q => q = a ∨ q = a + 1) a 8 (Or.inr rfl) (Nat.ne_of_lt (mx_ap (by decide))) (by decide) (Or.inl ⟨rfl, rfl, rfl⟩) (mx_d tX3_init_0 17 rfl) pp1_19 (ly4_o s19) (mx_inbE (by decide)) z19 (fun e20 n20 x20 y20 z20 u20 r20 => ?_)
  refine px_iinc 9 (L2 := [.ref a, .int 9]) (mx_d tX3_init_0 18 rfl) rfl (by decide) (by decide) rfl ?_
  refine px_goto (tgt := 15) (mx_d tX3_init_0 19 rfl) (by decide) ?_
  refine px_iload_n (mx_d tX3_init_0 8 rfl) rfl rfl ?_
  refine px_bipush (9) (mx_d tX3_init_0 9 rfl) (by decide) ?_
  refine px_icmp_ge (tgt := 40) (mx_d tX3_init_0 10 rfl) (by decide) (fun _ => ?_) (fun hd_ => absurd hd_ (by decide))
  have X20 := @mx_st.rf (fun q => q = a ∨ q = a + 1) e20
  have X19 := x20.tr X20
  have X18 := x19.tr X19
  have X17 := x18.tr X18
  have X16 := x17.tr X17
  have X15 := x16.tr X16
  have X14 := x15.tr X15
  have X13 := x14.tr X14
  have X12 := x13.tr X13
  have X11 := x12.tr X12
  have X10 := x11.tr X11
  have X9 := x10.tr X10
  have X8 := x9.tr X9
  have X7 := x8.tr X8
  have X6 := x7.tr X7
  have X5 := x6.tr X6
  have X4 := x5.tr X5
  have X3 := x4.tr X4
  have X2 := x3.tr X3
  have X1 := x2.tr X2
  have X0 := x1.tr X1
  have EL : ∀ i, i < 9 → e20.2.2 (a + 1) i = some (a + 2 + 11 * i) ∧ ly4 e20 (a + 2 + 11 * i) := by
    intro i hi
    rcases (show i = 0 ∨ i = 1 ∨ i = 2 ∨ i = 3 ∨ i = 4 ∨ i = 5 ∨ i = 6 ∨ i = 7 ∨ i = 8 by omega) with rfl | rfl | rfl | rfl | rfl | rfl | rfl | rfl | rfl
    · exact (show e20.2.2 (a + 1) 0 = some (a + 2) ∧ ly4 e20 (a + 2) from ⟨((u20 0 (by decide)).trans ((((w19 (a + 1) (mx_al2 (by decide))).2 0).trans (y19o (a + 1) 0)).trans ((u18 0 (by decide)).trans ((((w17 (a + 1) (mx_al2 (by decide))).2 0).trans (y17o (a + 1) 0)).trans ((u16 0 (by decide)).trans ((((w15 (a + 1) (mx_al2 (by decide))).2 0).trans (y15o (a + 1) 0)).trans ((u14 0 (by decide)).trans ((((w13 (a + 1) (mx_al2 (by decide))).2 0).trans (y13o (a + 1) 0)).trans ((u12 0 (by decide)).trans ((((w11 (a + 1) (mx_al2 (by decide))).2 0).trans (y11o (a + 1) 0)).trans ((u10 0 (by decide)).trans ((((w9 (a + 1) (mx_al2 (by decide))).2 0).trans (y9o (a + 1) 0)).trans ((u8 0 (by decide)).trans ((((w7 (a + 1) (mx_al2 (by decide))).2 0).trans (y7o (a + 1) 0)).trans ((u6 0 (by decide)).trans ((((w5 (a + 1) (mx_al2 (by decide))).2 0).trans (y5o (a + 1) 0)).trans r4)))))))))))))))), (ly4_ext X3.1 (X3.kp2 (x := a + 2) (mx_ap (by decide)) (Or.inr (mx_al2 (by decide))) n3) s3)⟩)
    · exact (show e20.2.2 (a + 1) 1 = some (a + 13) ∧ ly4 e20 (a + 13) from ⟨((u20 1 (by decide)).trans ((((w19 (a + 1) (mx_al2 (by decide))).2 1).trans (y19o (a + 1) 1)).trans ((u18 1 (by decide)).trans ((((w17 (a + 1) (mx_al2 (by decide))).2 1).trans (y17o (a + 1) 1)).trans ((u16 1 (by decide)).trans ((((w15 (a + 1) (mx_al2 (by decide))).2 1).trans (y15o (a + 1) 1)).trans ((u14 1 (by decide)).trans ((((w13 (a + 1) (mx_al2 (by decide))).2 1).trans (y13o (a + 1) 1)).trans ((u12 1 (by decide)).trans ((((w11 (a + 1) (mx_al2 (by decide))).2 1).trans (y11o (a + 1) 1)).trans ((u10 1 (by decide)).trans ((((w9 (a + 1) (mx_al2 (by decide))).2 1).trans (y9o (a + 1) 1)).trans ((u8 1 (by decide)).trans ((((w7 (a + 1) (mx_al2 (by decide))).2 1).trans (y7o (a + 1) 1)).trans r6)))))))))))))), (ly4_ext X5.1 (X5.kp2 (x := a + 13) (mx_ap (by decide)) (Or.inr (mx_al2 (by decide))) n5) s5)⟩)
    · exact (show e20.2.2 (a + 1) 2 = some (a + 24) ∧ ly4 e20 (a + 24) from ⟨((u20 2 (by decide)).trans ((((w19 (a + 1) (mx_al2 (by decide))).2 2).trans (y19o (a + 1) 2)).trans ((u18 2 (by decide)).trans ((((w17 (a + 1) (mx_al2 (by decide))).2 2).trans (y17o (a + 1) 2)).trans ((u16 2 (by decide)).trans ((((w15 (a + 1) (mx_al2 (by decide))).2 2).trans (y15o (a + 1) 2)).trans ((u14 2 (by decide)).trans ((((w13 (a + 1) (mx_al2 (by decide))).2 2).trans (y13o (a + 1) 2)).trans ((u12 2 (by decide)).trans ((((w11 (a + 1) (mx_al2 (by decide))).2 2).trans (y11o (a + 1) 2)).trans ((u10 2 (by decide)).trans ((((w9 (a + 1) (mx_al2 (by decide))).2 2).trans (y9o (a + 1) 2)).trans r8)))))))))))), (ly4_ext X7.1 (X7.kp2 (x := a + 24) (mx_ap (by decide)) (Or.inr (mx_al2 (by decide))) n7) s7)⟩)
    · exact (show e20.2.2 (a + 1) 3 = some (a + 35) ∧ ly4 e20 (a + 35) from ⟨((u20 3 (by decide)).trans ((((w19 (a + 1) (mx_al2 (by decide))).2 3).trans (y19o (a + 1) 3)).trans ((u18 3 (by decide)).trans ((((w17 (a + 1) (mx_al2 (by decide))).2 3).trans (y17o (a + 1) 3)).trans ((u16 3 (by decide)).trans ((((w15 (a + 1) (mx_al2 (by decide))).2 3).trans (y15o (a + 1) 3)).trans ((u14 3 (by decide)).trans ((((w13 (a + 1) (mx_al2 (by decide))).2 3).trans (y13o (a + 1) 3)).trans ((u12 3 (by decide)).trans ((((w11 (a + 1) (mx_al2 (by decide))).2 3).trans (y11o (a + 1) 3)).trans r10)))))))))), (ly4_ext X9.1 (X9.kp2 (x := a + 35) (mx_ap (by decide)) (Or.inr (mx_al2 (by decide))) n9) s9)⟩)
    · exact (show e20.2.2 (a + 1) 4 = some (a + 46) ∧ ly4 e20 (a + 46) from ⟨((u20 4 (by decide)).trans ((((w19 (a + 1) (mx_al2 (by decide))).2 4).trans (y19o (a + 1) 4)).trans ((u18 4 (by decide)).trans ((((w17 (a + 1) (mx_al2 (by decide))).2 4).trans (y17o (a + 1) 4)).trans ((u16 4 (by decide)).trans ((((w15 (a + 1) (mx_al2 (by decide))).2 4).trans (y15o (a + 1) 4)).trans ((u14 4 (by decide)).trans ((((w13 (a + 1) (mx_al2 (by decide))).2 4).trans (y13o (a + 1) 4)).trans r12)))))))), (ly4_ext X11.1 (X11.kp2 (x := a + 46) (mx_ap (by decide)) (Or.inr (mx_al2 (by decide))) n11) s11)⟩)
    · exact (show e20.2.2 (a + 1) 5 = some (a + 57) ∧ ly4 e20 (a + 57) from ⟨((u20 5 (by decide)).trans ((((w19 (a + 1) (mx_al2 (by decide))).2 5).trans (y19o (a + 1) 5)).trans ((u18 5 (by decide)).trans ((((w17 (a + 1) (mx_al2 (by decide))).2 5).trans (y17o (a + 1) 5)).trans ((u16 5 (by decide)).trans ((((w15 (a + 1) (mx_al2 (by decide))).2 5).trans (y15o (a + 1) 5)).trans r14)))))), (ly4_ext X13.1 (X13.kp2 (x := a + 57) (mx_ap (by decide)) (Or.inr (mx_al2 (by decide))) n13) s13)⟩)
    · exact (show e20.2.2 (a + 1) 6 = some (a + 68) ∧ ly4 e20 (a + 68) from ⟨((u20 6 (by decide)).trans ((((w19 (a + 1) (mx_al2 (by decide))).2 6).trans (y19o (a + 1) 6)).trans ((u18 6 (by decide)).trans ((((w17 (a + 1) (mx_al2 (by decide))).2 6).trans (y17o (a + 1) 6)).trans r16)))), (ly4_ext X15.1 (X15.kp2 (x := a + 68) (mx_ap (by decide)) (Or.inr (mx_al2 (by decide))) n15) s15)⟩)
    · exact (show e20.2.2 (a + 1) 7 = some (a + 79) ∧ ly4 e20 (a + 79) from ⟨((u20 7 (by decide)).trans ((((w19 (a + 1) (mx_al2 (by decide))).2 7).trans (y19o (a + 1) 7)).trans r18)), (ly4_ext X17.1 (X17.kp2 (x := a + 79) (mx_ap (by decide)) (Or.inr (mx_al2 (by decide))) n17) s17)⟩)
    · exact (show e20.2.2 (a + 1) 8 = some (a + 90) ∧ ly4 e20 (a + 90) from ⟨r20, (ly4_ext X19.1 (X19.kp2 (x := a + 90) (mx_ap (by decide)) (Or.inr (mx_al2 (by decide))) n19) s19)⟩)
  have LY : ly3 e20 a := ⟨X0.is h0, ⟨((y20 0 (by decide)).trans ((y19 0 (by decide)).trans ((y18 0 (by decide)).trans ((y17 0 (by decide)).trans ((y16 0 (by decide)).trans ((y15 0 (by decide)).trans ((y14 0 (by decide)).trans ((y13 0 (by decide)).trans ((y12 0 (by decide)).trans ((y11 0 (by decide)).trans ((y10 0 (by decide)).trans ((y9 0 (by decide)).trans ((y8 0 (by decide)).trans ((y7 0 (by decide)).trans ((y6 0 (by decide)).trans ((y5 0 (by decide)).trans ((y4 0 (by decide)).trans ((y3 0 (by decide)).trans r2)))))))))))))))))), X1.is s1, EL⟩⟩
  exact px_return (mx_d tX3_init_0 20 rfl) rfl ⟨rfl, e20, rfl, (n20.trans n19), mx_x2 hn X0, z20, LY⟩
