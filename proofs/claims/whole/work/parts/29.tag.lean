section PMR
variable {Y : State → Prop} {G : mG} {l : Launch} {M : mM} {d kc ks : Nat} {Post : Option Value → mS → Prop} {pc : Nat} {L st : List Value} {e : mE} {mi : mI} {mj : mJ}
theorem px_ialoadC {i : Int32} {a n : Nat} (k : Nat) (hd : decode M.2.2.1 pc = .ok (.iaload, 1)) (ho : mx_is e a 100 n) (hk : i.toNatClampNeg = k) (hin : vp_in i n)
    (kk : mx_FP Y G l M d kc ks Post (pc + 1) L (.int (mi a k) :: st) (e, mi, mj)) : mx_FP Y G l M d kc ks Post pc L (.int i :: .ref a :: st) (e, mi, mj)   := px_iaload hd ho hin (by rw [hk]; exact kk)
theorem px_cVi {own : String} {idx n d' c0 n0 i : Nat} {M' : mM} {av st0 : List Value} {r : Int32} {z1 : mS} (hd : decode M.2.2.1 pc = .ok (.invokevirtual idx, 3)) (hi : mx_inv own idx M' n) (hM : M.1 = own)
    (hV : Cond.instanceMethod M'.2.1 ∈ mx_TB ∧ Cond.selects M'.2.1.cls M'.2.1 M'.2.1 ∈ mx_TB) (hcl : ∃ r : vw_C, vwCl[c0]? = some r ∧ r.1 = M'.2.1.cls) (ho : mx_is e i c0 n0)
    (hc : mx_Call G l M' d' 0 0 (.ref i :: av) (e, mi, mj) (fun v z => v = some (.int r) ∧ z = z1)) (hd' : d' < d) (hst : st0 = av.reverse ++ (.ref i :: st)) (hn : av.length = n) (hW : (st.map fun v => v.category).sum ≤ 8)
    (kk : mx_FP Y G l M d 0 0 Post (pc + 3) L (.int r :: st) z1) : mx_FP Y G l M d 0 0 Post pc L st0 (e, mi, mj) :=
  px_callV hd hi hM hV hcl ho hc hd' (Nat.le_refl _) (Nat.le_refl _) hst hn hW (fun v z' h => by obtain ⟨rfl, rfl⟩ := h; exact kk)
theorem px_cSi {own : String} {idx n d' : Nat} {M' : mM} {av st0 : List Value} {z : mS} {r : Int32} {z1 : mS} (hd : decode M.2.2.1 pc = .ok (.invokestatic idx, 3)) (hi : mx_inv own idx M' n) (hM : M.1 = own)
    (hV : Cond.static M'.2.1 ∈ mx_TB) (hc : mx_Call G l M' d' 0 0 av z (fun v z => v = some (.int r) ∧ z = z1)) (hd' : d' < d) (hst : st0 = av.reverse ++ st) (hn : av.length = n) (hW : (st.map fun v => v.category).sum ≤ 8)
    (kk : mx_FP Y G l M d 0 0 Post (pc + 3) L (.int r :: st) z1) : mx_FP Y G l M d 0 0 Post pc L st0 z :=
  px_callS hd hi hM hV hc hd' (Nat.le_refl _) (Nat.le_refl _) hst hn hW (fun v z' h => by obtain ⟨rfl, rfl⟩ := h; exact kk)
theorem px_cVj {own : String} {idx n d' c0 n0 i : Nat} {M' : mM} {av st0 : List Value} {r : Int64} {z1 : mS} (hd : decode M.2.2.1 pc = .ok (.invokevirtual idx, 3)) (hi : mx_inv own idx M' n) (hM : M.1 = own)
    (hV : Cond.instanceMethod M'.2.1 ∈ mx_TB ∧ Cond.selects M'.2.1.cls M'.2.1 M'.2.1 ∈ mx_TB) (hcl : ∃ r : vw_C, vwCl[c0]? = some r ∧ r.1 = M'.2.1.cls) (ho : mx_is e i c0 n0)
    (hc : mx_Call G l M' d' 0 0 (.ref i :: av) (e, mi, mj) (fun v z => v = some (.long r) ∧ z = z1)) (hd' : d' < d) (hst : st0 = av.reverse ++ (.ref i :: st)) (hn : av.length = n) (hW : (st.map fun v => v.category).sum ≤ 8)
    (kk : mx_FP Y G l M d 0 0 Post (pc + 3) L (.long r :: st) z1) : mx_FP Y G l M d 0 0 Post pc L st0 (e, mi, mj) :=
  px_callV hd hi hM hV hcl ho hc hd' (Nat.le_refl _) (Nat.le_refl _) hst hn hW (fun v z' h => by obtain ⟨rfl, rfl⟩ := h; exact kk)
theorem px_cSj {own : String} {idx n d' : Nat} {M' : mM} {av st0 : List Value} {z : mS} {r : Int64} {z1 : mS} (hd : decode M.2.2.1 pc = .ok (.invokestatic idx, 3)) (hi : mx_inv own idx M' n) (hM : M.1 = own)
    (hV : Cond.static M'.2.1 ∈ mx_TB) (hc : mx_Call G l M' d' 0 0 av z (fun v z => v = some (.long r) ∧ z = z1)) (hd' : d' < d) (hst : st0 = av.reverse ++ st) (hn : av.length = n) (hW : (st.map fun v => v.category).sum ≤ 8)
    (kk : mx_FP Y G l M d 0 0 Post (pc + 3) L (.long r :: st) z1) : mx_FP Y G l M d 0 0 Post pc L st0 z :=
  px_callS hd hi hM hV hc hd' (Nat.le_refl _) (Nat.le_refl _) hst hn hW (fun v z' h => by obtain ⟨rfl, rfl⟩ := h; exact kk)
theorem px_cVr {own : String} {idx n d' c0 n0 i : Nat} {M' : mM} {av st0 : List Value} {r : Nat} {z1 : mS} (hd : decode M.2.2.1 pc = .ok (.invokevirtual idx, 3)) (hi : mx_inv own idx M' n) (hM : M.1 = own)
    (hV : Cond.instanceMethod M'.2.1 ∈ mx_TB ∧ Cond.selects M'.2.1.cls M'.2.1 M'.2.1 ∈ mx_TB) (hcl : ∃ r : vw_C, vwCl[c0]? = some r ∧ r.1 = M'.2.1.cls) (ho : mx_is e i c0 n0)
    (hc : mx_Call G l M' d' 0 0 (.ref i :: av) (e, mi, mj) (fun v z => v = some (.ref r) ∧ z = z1)) (hd' : d' < d) (hst : st0 = av.reverse ++ (.ref i :: st)) (hn : av.length = n) (hW : (st.map fun v => v.category).sum ≤ 8)
    (kk : mx_FP Y G l M d 0 0 Post (pc + 3) L (.ref r :: st) z1) : mx_FP Y G l M d 0 0 Post pc L st0 (e, mi, mj) :=
  px_callV hd hi hM hV hcl ho hc hd' (Nat.le_refl _) (Nat.le_refl _) hst hn hW (fun v z' h => by obtain ⟨rfl, rfl⟩ := h; exact kk)
theorem px_cSr {own : String} {idx n d' : Nat} {M' : mM} {av st0 : List Value} {z : mS} {r : Nat} {z1 : mS} (hd : decode M.2.2.1 pc = .ok (.invokestatic idx, 3)) (hi : mx_inv own idx M' n) (hM : M.1 = own)
    (hV : Cond.static M'.2.1 ∈ mx_TB) (hc : mx_Call G l M' d' 0 0 av z (fun v z => v = some (.ref r) ∧ z = z1)) (hd' : d' < d) (hst : st0 = av.reverse ++ st) (hn : av.length = n) (hW : (st.map fun v => v.category).sum ≤ 8)
    (kk : mx_FP Y G l M d 0 0 Post (pc + 3) L (.ref r :: st) z1) : mx_FP Y G l M d 0 0 Post pc L st0 z :=
  px_callS hd hi hM hV hc hd' (Nat.le_refl _) (Nat.le_refl _) hst hn hW (fun v z' h => by obtain ⟨rfl, rfl⟩ := h; exact kk)
theorem px_cVv {own : String} {idx n d' c0 n0 i : Nat} {M' : mM} {av st0 : List Value} {z1 : mS} (hd : decode M.2.2.1 pc = .ok (.invokevirtual idx, 3)) (hi : mx_inv own idx M' n) (hM : M.1 = own)
    (hV : Cond.instanceMethod M'.2.1 ∈ mx_TB ∧ Cond.selects M'.2.1.cls M'.2.1 M'.2.1 ∈ mx_TB) (hcl : ∃ r : vw_C, vwCl[c0]? = some r ∧ r.1 = M'.2.1.cls) (ho : mx_is e i c0 n0)
    (hc : mx_Call G l M' d' 0 0 (.ref i :: av) (e, mi, mj) (fun v z => v = none ∧ z = z1)) (hd' : d' < d) (hst : st0 = av.reverse ++ (.ref i :: st)) (hn : av.length = n) (hW : (st.map fun v => v.category).sum ≤ 8)
    (kk : mx_FP Y G l M d 0 0 Post (pc + 3) L (st) z1) : mx_FP Y G l M d 0 0 Post pc L st0 (e, mi, mj) :=
  px_callV hd hi hM hV hcl ho hc hd' (Nat.le_refl _) (Nat.le_refl _) hst hn hW (fun v z' h => by obtain ⟨rfl, rfl⟩ := h; exact kk)
theorem px_cSv {own : String} {idx n d' : Nat} {M' : mM} {av st0 : List Value} {z : mS} {z1 : mS} (hd : decode M.2.2.1 pc = .ok (.invokestatic idx, 3)) (hi : mx_inv own idx M' n) (hM : M.1 = own)
    (hV : Cond.static M'.2.1 ∈ mx_TB) (hc : mx_Call G l M' d' 0 0 av z (fun v z => v = none ∧ z = z1)) (hd' : d' < d) (hst : st0 = av.reverse ++ st) (hn : av.length = n) (hW : (st.map fun v => v.category).sum ≤ 8)
    (kk : mx_FP Y G l M d 0 0 Post (pc + 3) L (st) z1) : mx_FP Y G l M d 0 0 Post pc L st0 z :=
  px_callS hd hi hM hV hc hd' (Nat.le_refl _) (Nat.le_refl _) hst hn hW (fun v z' h => by obtain ⟨rfl, rfl⟩ := h; exact kk)
theorem px_callVN {own : String} {idx n d' c0 n0 i : Nat} {M' : mM} {av st0 : List Value} {Post' : Option Value → mS → Prop} (hd : decode M.2.2.1 pc = .ok (.invokevirtual idx, 3)) (hi : mx_inv own idx M' n) (hM : M.1 = own)
    (hV : Cond.instanceMethod M'.2.1 ∈ mx_TB ∧ Cond.selects M'.2.1.cls M'.2.1 M'.2.1 ∈ mx_TB) (hcl : ∃ r : vw_C, vwCl[c0]? = some r ∧ r.1 = M'.2.1.cls) (ho : mx_is e i c0 n0) (hYN : ∀ s, Y s → mx_N G s)
    (hc : mx_CallN G l M' d' 0 0 (.ref i :: av) (e, mi, mj) Post') (hd' : d' < d) (hst : st0 = av.reverse ++ (.ref i :: st)) (hn : av.length = n) (hW : (st.map fun v => v.category).sum ≤ 8)
    (kk : ∀ v z', Post' v z' → mx_FP Y G l M d kc ks Post (pc + 3) L (v.toList ++ st) z') : mx_FP Y G l M d kc ks Post pc L st0 (e, mi, mj) := by
  intro p en R s m args below meth c' H locs cells slots ls X hY
  obtain ⟨⟨hx, hcc, hml, hrt, hlk, hown, hnm, hts, hK⟩, hR, hS, hb, hH, hl⟩ := id X
  obtain ⟨r, hr, hrc⟩ := hcl
  have hc13 : c0 < 13 := (List.getElem?_eq_some_iff.mp hr).1
  have hrecv : ∃ cell : Cell, H[G.1 + i]? = some cell ∧ cell.vm.isStatics = false ∧ s.vm.findClass M'.2.1.cls = some cell.cls := by
    obtain ⟨r', h1', cell, q1, q2, q3, q4⟩ := mx_cellO ho hc13 hH
    exact ⟨cell, q1, by rw [q3]; rfl, by rw [q2, ← hrc]; exact (hK.1 c0 _ hr).2.1⟩
  have e1 : (mx_tr G (.ref i)) = .ref (G.1 + i) := by show Value.ref (mx_ad G i) = _; rw [mx_isl ho hH]
  subst hst
  refine px_cont X hY (Nat.zero_le _) (Nat.zero_le _) (W.runV (C := M'.2.1.cls) (b := G.1 + i) (As := av.map (mx_tr G)) (rest := st.map (mx_tr G)) (g := F0 m pc ls _) ⟨hx, hcc, hml, hM ▸ hown, hts⟩ hc ⟨mx_callB hi hts hd' hR.1 hR.2.1, hts _ hV.1, hts _ hV.2⟩ ⟨mx_blindN, hrecv, fun U hU hW' => ⟨⟨?_, by rw [hU]; exact hH, mx_K.moved hW'.alike hK⟩, mx_N.warm hW' hS hU (hYN s hY)⟩⟩ rfl (by simpa using hn) hl.1 ?_ (lv_room (by rw [mx_cats]; exact hW)) hd ⟨by omega, by omega⟩) kk
  · show _ = ((mx_tr G (.ref i)) :: av.map (mx_tr G)).toArray
    rw [e1]
  · show (av.reverse ++ (.ref i :: st)).map (mx_tr G) = _
    rw [mx_stk]
    show _ ++ (mx_tr G (.ref i) :: st.map (mx_tr G)) = _
    rw [e1]
theorem px_cNv {own : String} {idx n d' c0 n0 i : Nat} {M' : mM} {av st0 : List Value} {z1 : mS} (hd : decode M.2.2.1 pc = .ok (.invokevirtual idx, 3)) (hi : mx_inv own idx M' n) (hM : M.1 = own)
    (hV : Cond.instanceMethod M'.2.1 ∈ mx_TB ∧ Cond.selects M'.2.1.cls M'.2.1 M'.2.1 ∈ mx_TB) (hcl : ∃ r : vw_C, vwCl[c0]? = some r ∧ r.1 = M'.2.1.cls) (ho : mx_is e i c0 n0) (hYN : ∀ s, Y s → mx_N G s)
    (hc : mx_CallN G l M' d' 0 0 (.ref i :: av) (e, mi, mj) (fun v z => v = none ∧ z = z1)) (hd' : d' < d) (hst : st0 = av.reverse ++ (.ref i :: st)) (hn : av.length = n) (hW : (st.map fun v => v.category).sum ≤ 8)
    (kk : mx_FP Y G l M d kc ks Post (pc + 3) L st z1) : mx_FP Y G l M d kc ks Post pc L st0 (e, mi, mj) :=
  px_callVN hd hi hM hV hcl ho hYN hc hd' hst hn hW (fun v z' h => by obtain ⟨rfl, rfl⟩ := h; exact kk)
theorem px_ldcSW {own tx : String} {idx k : Nat} {z : mS} (hd : decode M.2.2.1 pc = .ok (.ldc_w idx, 3)) (hM : M.1 = own) (hq : (own, idx, tx, k) ∈ mx_sr) (hYN : ∀ s, Y s → mx_N G s)
    (kk : mx_FP Y G l M d kc ks Post (pc + 3) L (.ref (100000 + k) :: st) z) : mx_FP Y G l M d kc ks Post pc L st z := by
  intro p en R s m args below meth c' H locs cells slots ls X hY
  obtain ⟨⟨hx, hcc, hml, hrt, hlk, hown, hnm, hts, hK⟩, hR, hS, hb, hH, hl⟩ := id X
  have hN := hYN s hY
  have e1 : (mx_tr G (.ref (100000 + k))) = .ref (mx_sK G k) := by show Value.ref (mx_ad G _) = _; rw [mx_ad_o (by omega)]; rfl
  have K := kk p en R s m args below meth c' H locs cells slots ls X hY
  have e2 : ((.ref (100000 + k) :: st).map (mx_tr G)) = .ref (mx_sK G k) :: st.map (mx_tr G) := by show mx_tr G _ :: _ = _; rw [e1]
  rw [e2] at K
  have hZ := hN.2.2.2.2.1 _ hq
  intro T hT XT
  obtain ⟨t, a1, b1⟩ := K T hT XT
  exact ⟨t, XT.ldcStringW hx (hM ▸ hown) (text := tx) (a := mx_sK G k) hZ.1 hZ.2 (g := F0 m pc ls (st.map (mx_tr G))) rfl (by rw [hcc]; exact hd) t a1, b1⟩
end PMR
/-- the signs of string k from j on, n of them -/
def FX7_addText (a k : Nat) : Nat → Nat → mB → Option mB
  | 0, _, m => some m
  | n + 1, j, m => Option.bind (FX7_add a (mx_ch k j) m) (fun r => FX7_addText a k n (j + 1) r)
set_option maxRecDepth 20000 in
theorem KX7_addText_L {G : mG} {l : Launch} {Post : Option Value → mS → Prop} {a k : Nat} {e : mE} (h0 : ly7 e a) (hk : k < 4) (hL : mx_sl.getD k 0 < 1000) : ∀ (n j : Nat) (m r : mB), j + n = mx_sl.getD k 0 → FX7_addText a k n j m = some r →
    Post none (e, r) → mx_FP (mx_N G) G l MX7_addText 6 0 0 Post 2 [.ref a, .ref (100000 + k), .int (nI j)] [] (e, m) := by
  intro n
  induction n with
  | zero =>
    intro j m r hj h hp
    rw [FX7_addText] at h
    obtain rfl := Option.some.inj h
    refine px_iload_n (mx_d tX7_addText_0 2 rfl) rfl rfl ?_
    refine px_aload_n (mx_d tX7_addText_0 3 rfl) rfl rfl ?_
    refine px_callVS (mx_d tX7_addText_0 4 rfl) iX7_33 rfl vJ0_length_8abf5 rfl hk (fun _ h => h) (KJ0_length hk) (by decide) rfl rfl (Nat.le_of_ble_eq_true rfl) (fun v z' hv => ?_)
    obtain ⟨rfl, rfl⟩ := hv
    refine px_icmp_ge (tgt := 25) (mx_d tX7_addText_0 5 rfl) (by decide) (fun _ => ?_) (fun hc => absurd (nI_le (by omega) (by omega)) hc)
    exact px_return (mx_d tX7_addText_0 13 rfl) rfl hp
  | succ n ih =>
    intro j m r hj h hp
    rw [FX7_addText] at h
    obtain ⟨r1, h1, h⟩ := Option.bind_eq_some_iff.mp h
    refine px_iload_n (mx_d tX7_addText_0 2 rfl) rfl rfl ?_
    refine px_aload_n (mx_d tX7_addText_0 3 rfl) rfl rfl ?_
    refine px_callVS (mx_d tX7_addText_0 4 rfl) iX7_33 rfl vJ0_length_8abf5 rfl hk (fun _ h => h) (KJ0_length hk) (by decide) rfl rfl (Nat.le_of_ble_eq_true rfl) (fun v z' hv => ?_)
    obtain ⟨rfl, rfl⟩ := hv
    refine px_icmp_ge (tgt := 25) (mx_d tX7_addText_0 5 rfl) (by decide) (fun hc => absurd hc (nI_ge (by omega) (by omega))) (fun _ => ?_)
    refine px_aload_n (mx_d tX7_addText_0 6 rfl) rfl rfl ?_
    refine px_aload_n (mx_d tX7_addText_0 7 rfl) rfl rfl ?_
    refine px_iload_n (mx_d tX7_addText_0 8 rfl) rfl rfl ?_
    refine px_callVS (mx_d tX7_addText_0 9 rfl) iX7_38 rfl vJ0_charAt_5068e rfl hk (fun _ h => h) (KJ0_charAt (j := j) hk (by omega) hL) (by decide) rfl rfl (Nat.le_of_ble_eq_true rfl) (fun v z' hv => ?_)
    obtain ⟨rfl, rfl⟩ := hv
    refine px_cVv (mx_d tX7_addText_0 10 rfl) iX7_29 rfl vX7_add ⟨_, rfl, rfl⟩ (ly7_o h0) (CX7_add h0 h1) (by decide) rfl rfl (Nat.le_of_ble_eq_true rfl) ?_
    refine px_iinc (nI (j + 1)) (L2 := [.ref a, .ref (100000 + k), .int (nI (j + 1))]) (mx_d tX7_addText_0 11 rfl) rfl (nI_1 j) (by decide) rfl ?_
    refine px_goto (tgt := 2) (mx_d tX7_addText_0 12 rfl) (by decide) ?_
    exact ih (j + 1) r1 r (by omega) h hp
set_option maxRecDepth 20000 in
theorem CX7_addText {G : mG} {l : Launch} {a k : Nat} {e : mE} {m r : mB} (h0 : ly7 e a) (hk : k < 4) (hL : mx_sl.getD k 0 < 1000) (h : FX7_addText a k (mx_sl.getD k 0) 0 m = some r) : mx_CallN G l MX7_addText 6 0 0 [.ref a, .ref (100000 + k)] (e, m) (fun v z => v = none ∧ z = (e, r)) := by
  refine px_entryN (L := [.ref a, .ref (100000 + k), .float 0]) (by decide +kernel) (Nat.le_of_ble_eq_true rfl) rfl ?_
  refine px_iconst (0) (mx_d tX7_addText_0 0 rfl) (by decide) ?_
  refine px_istore_n (L2 := [.ref a, .ref (100000 + k), .int 0]) (mx_d tX7_addText_0 1 rfl) rfl (by decide) rfl ?_
  refine px_eqL (L' := [.ref a, .ref (100000 + k), .int (nI 0)]) (by rw [nI_0]) ?_
  exact KX7_addText_L h0 hk hL (mx_sl.getD k 0) 0 m r (by omega) h ⟨rfl, rfl⟩
def FX11_tag (a : Nat) (x0 : Int32) (m : mB) : Option (Int32 × mB) := Option.bind (FX4_hasPoint (a + 4) x0 m) (fun r1 => (if r1 = 0 then (some ((-1), m)) else Option.bind (FX7_clear (a + 186) m) (fun r3 => Option.bind (FX4_nameOf (a + 4) x0 r3) (fun r4 => Option.bind (FX7_addName (a + 186) r4 r3) (fun r5 => Option.bind (FX4_isLone (a + 4) x0 r5) (fun r6 => mx_let (fun (m8 : mB) => Option.bind (FX7_addText (a + 186) 3 (mx_sl.getD 3 0) 0 m8) (fun r10 => Option.bind (FX4_priceOf (a + 4) x0 r10) (fun r11 => Option.bind (FX7_addDigits (a + 186) r11 r10) (fun r12 => Option.bind (FX7_size (a + 186) r12) (fun r13 => (some (r13, r12))))))) (fun k9 => (if r6 = 0 then Option.bind (FX7_addText (a + 186) 2 (mx_sl.getD 2 0) 0 r5) (fun r14 => Option.bind (FX4_partnerOf (a + 4) x0 r14) (fun r15 => Option.bind (FX4_nameOf (a + 4) r15 r14) (fun r16 => Option.bind (FX7_addName (a + 186) r16 r14) (fun r17 => (k9 r17))))) else Option.bind (FX7_addText (a + 186) 1 (mx_sl.getD 1 0) 0 r5) (fun r18 => (k9 r18))))))))))
set_option maxRecDepth 20000 in
theorem CX11_tag {G : mG} {l : Launch} {e : mE} {a : Nat} {x0 : Int32} {m : mB} {r : (Int32 × mB)} (h0 : ly11 e a) (h : FX11_tag a x0 m = some r) : mx_CallN G l MX11_tag 7 0 0 [.ref a, .int x0] (e, m) (fun v z => v = some (.int r.1) ∧ z = (e, r.2)) := by
  refine px_entryN (L := [.ref a, .int x0]) (by decide +kernel) (Nat.le_of_ble_eq_true rfl) rfl ?_
  unfold FX11_tag at h
  refine px_aload_n (mx_d tX11_tag_0 0 rfl) rfl rfl ?_
  refine px_getR (mx_d tX11_tag_0 1 rfl) fX11_19 rfl rfl (ly11_o h0) (ly11_r1 h0) ?_
  refine px_iload_n (mx_d tX11_tag_0 2 rfl) rfl rfl ?_
  obtain ⟨r1, h_r1, h⟩ := Option.bind_eq_some_iff.mp h
  refine px_cVi (mx_d tX11_tag_0 3 rfl) iX11_147 rfl vX4_hasPoint ⟨_, rfl, rfl⟩ (ly4_o (ly11_s1 h0)) (CX4_hasPoint (ly11_s1 h0) h_r1) (by decide) rfl rfl (Nat.le_of_ble_eq_true rfl) ?_
  refine px_if_ne (tgt := 13) (mx_d tX11_tag_0 4 rfl) (by decide) (fun hc2 => ?_) (fun hc2 => ?_)
  · rw [if_neg hc2] at h
    refine px_aload_n (mx_d tX11_tag_0 7 rfl) rfl rfl ?_
    refine px_getR (mx_d tX11_tag_0 8 rfl) fX11_99 rfl rfl (ly11_o h0) (ly11_r15 h0) ?_
    obtain ⟨r3, h_r3, h⟩ := Option.bind_eq_some_iff.mp h
    refine px_cVv (mx_d tX11_tag_0 9 rfl) iX11_358 rfl vX7_clear ⟨_, rfl, rfl⟩ (ly7_o (ly11_s15 h0)) (CX7_clear (ly11_s15 h0) h_r3) (by decide) rfl rfl (Nat.le_of_ble_eq_true rfl) ?_
    refine px_aload_n (mx_d tX11_tag_0 10 rfl) rfl rfl ?_
    refine px_getR (mx_d tX11_tag_0 11 rfl) fX11_99 rfl rfl (ly11_o h0) (ly11_r15 h0) ?_
    refine px_aload_n (mx_d tX11_tag_0 12 rfl) rfl rfl ?_
    refine px_getR (mx_d tX11_tag_0 13 rfl) fX11_19 rfl rfl (ly11_o h0) (ly11_r1 h0) ?_
    refine px_iload_n (mx_d tX11_tag_0 14 rfl) rfl rfl ?_
    obtain ⟨r4, h_r4, h⟩ := Option.bind_eq_some_iff.mp h
    refine px_cVj (mx_d tX11_tag_0 15 rfl) iX11_359 rfl vX4_nameOf ⟨_, rfl, rfl⟩ (ly4_o (ly11_s1 h0)) (CX4_nameOf (ly11_s1 h0) h_r4) (by decide) rfl rfl (Nat.le_of_ble_eq_true rfl) ?_
    obtain ⟨r5, h_r5, h⟩ := Option.bind_eq_some_iff.mp h
    refine px_cVv (mx_d tX11_tag_0 16 rfl) iX11_363 rfl vX7_addName ⟨_, rfl, rfl⟩ (ly7_o (ly11_s15 h0)) (CX7_addName (ly11_s15 h0) h_r5) (by decide) rfl rfl (Nat.le_of_ble_eq_true rfl) ?_
    refine px_aload_n (mx_d tX11_tag_0 17 rfl) rfl rfl ?_
    refine px_getR (mx_d tX11_tag_0 18 rfl) fX11_19 rfl rfl (ly11_o h0) (ly11_r1 h0) ?_
    refine px_iload_n (mx_d tX11_tag_0 19 rfl) rfl rfl ?_
    obtain ⟨r6, h_r6, h⟩ := Option.bind_eq_some_iff.mp h
    refine px_cVi (mx_d tX11_tag_0 20 rfl) iX11_367 rfl vX4_isLone ⟨_, rfl, rfl⟩ (ly4_o (ly11_s1 h0)) (CX4_isLone (ly11_s1 h0) h_r6) (by decide) rfl rfl (Nat.le_of_ble_eq_true rfl) ?_
    refine mx_letK (J := fun k9 => ∀ {m8 : mB}, k9 m8 = some r → mx_FP (mx_N G) G l MX11_tag 7 0 0 (fun v z => v = some (.int r.1) ∧ z = (e, r.2)) 91 [.ref a, .int x0] [] (e, m8)) h ?_ (fun k9 j_k9 h => ?_)
    · intro m8 h
      dsimp only at h
      refine px_aload_n (mx_d tX11_tag_0 41 rfl) rfl rfl ?_
      refine px_getR (mx_d tX11_tag_0 42 rfl) fX11_99 rfl rfl (ly11_o h0) (ly11_r15 h0) ?_
      refine px_ldcSW (mx_d tX11_tag_0 43 rfl) rfl (k := 3) (List.mem_of_getElem? (i := 3) rfl) (fun _ h => h) ?_
      obtain ⟨r10, h_r10, h⟩ := Option.bind_eq_some_iff.mp h
      refine px_cNv (mx_d tX11_tag_0 44 rfl) iX11_372 rfl vX7_addText ⟨_, rfl, rfl⟩ (ly7_o (ly11_s15 h0)) (fun _ h => h) (CX7_addText (ly11_s15 h0) (by decide) (by decide +kernel) h_r10) (by decide) rfl rfl (Nat.le_of_ble_eq_true rfl) ?_
      refine px_aload_n (mx_d tX11_tag_0 45 rfl) rfl rfl ?_
      refine px_getR (mx_d tX11_tag_0 46 rfl) fX11_99 rfl rfl (ly11_o h0) (ly11_r15 h0) ?_
      refine px_aload_n (mx_d tX11_tag_0 47 rfl) rfl rfl ?_
      refine px_getR (mx_d tX11_tag_0 48 rfl) fX11_19 rfl rfl (ly11_o h0) (ly11_r1 h0) ?_
      refine px_iload_n (mx_d tX11_tag_0 49 rfl) rfl rfl ?_
      obtain ⟨r11, h_r11, h⟩ := Option.bind_eq_some_iff.mp h
      refine px_cVi (mx_d tX11_tag_0 50 rfl) iX11_158 rfl vX4_priceOf ⟨_, rfl, rfl⟩ (ly4_o (ly11_s1 h0)) (CX4_priceOf (ly11_s1 h0) h_r11) (by decide) rfl rfl (Nat.le_of_ble_eq_true rfl) ?_
      obtain ⟨r12, h_r12, h⟩ := Option.bind_eq_some_iff.mp h
      refine px_cVv (mx_d tX11_tag_0 51 rfl) iX11_380 rfl vX7_addDigits ⟨_, rfl, rfl⟩ (ly7_o (ly11_s15 h0)) (CX7_addDigits (ly11_s15 h0) h_r12) (by decide) rfl rfl (Nat.le_of_ble_eq_true rfl) ?_
      refine px_aload_n (mx_d tX11_tag_0 52 rfl) rfl rfl ?_
      refine px_getR (mx_d tX11_tag_0 53 rfl) fX11_99 rfl rfl (ly11_o h0) (ly11_r15 h0) ?_
      obtain ⟨r13, h_r13, h⟩ := Option.bind_eq_some_iff.mp h
      refine px_cVi (mx_d tX11_tag_0 54 rfl) iX11_271 rfl vX7_size ⟨_, rfl, rfl⟩ (ly7_o (ly11_s15 h0)) (CX7_size (ly11_s15 h0) h_r13) (by decide) rfl rfl (Nat.le_of_ble_eq_true rfl) ?_
      obtain rfl := Option.some.inj h
      exact px_ireturn (mx_d tX11_tag_0 55 rfl) rfl ⟨rfl, rfl⟩
    refine px_if_eq (tgt := 59) (mx_d tX11_tag_0 21 rfl) (by decide) (fun hc7 => ?_) (fun hc7 => ?_)
    · rw [if_pos hc7] at h
      refine px_aload_n (mx_d tX11_tag_0 27 rfl) rfl rfl ?_
      refine px_getR (mx_d tX11_tag_0 28 rfl) fX11_99 rfl rfl (ly11_o h0) (ly11_r15 h0) ?_
      refine px_ldcSW (mx_d tX11_tag_0 29 rfl) rfl (k := 2) (List.mem_of_getElem? (i := 2) rfl) (fun _ h => h) ?_
      obtain ⟨r14, h_r14, h⟩ := Option.bind_eq_some_iff.mp h
      refine px_cNv (mx_d tX11_tag_0 30 rfl) iX11_372 rfl vX7_addText ⟨_, rfl, rfl⟩ (ly7_o (ly11_s15 h0)) (fun _ h => h) (CX7_addText (ly11_s15 h0) (by decide) (by decide +kernel) h_r14) (by decide) rfl rfl (Nat.le_of_ble_eq_true rfl) ?_
      refine px_aload_n (mx_d tX11_tag_0 31 rfl) rfl rfl ?_
      refine px_getR (mx_d tX11_tag_0 32 rfl) fX11_99 rfl rfl (ly11_o h0) (ly11_r15 h0) ?_
      refine px_aload_n (mx_d tX11_tag_0 33 rfl) rfl rfl ?_
      refine px_getR (mx_d tX11_tag_0 34 rfl) fX11_19 rfl rfl (ly11_o h0) (ly11_r1 h0) ?_
      refine px_aload_n (mx_d tX11_tag_0 35 rfl) rfl rfl ?_
      refine px_getR (mx_d tX11_tag_0 36 rfl) fX11_19 rfl rfl (ly11_o h0) (ly11_r1 h0) ?_
      refine px_iload_n (mx_d tX11_tag_0 37 rfl) rfl rfl ?_
      obtain ⟨r15, h_r15, h⟩ := Option.bind_eq_some_iff.mp h
      refine px_cVi (mx_d tX11_tag_0 38 rfl) iX11_154 rfl vX4_partnerOf ⟨_, rfl, rfl⟩ (ly4_o (ly11_s1 h0)) (CX4_partnerOf (ly11_s1 h0) h_r15) (by decide) rfl rfl (Nat.le_of_ble_eq_true rfl) ?_
      obtain ⟨r16, h_r16, h⟩ := Option.bind_eq_some_iff.mp h
      refine px_cVj (mx_d tX11_tag_0 39 rfl) iX11_359 rfl vX4_nameOf ⟨_, rfl, rfl⟩ (ly4_o (ly11_s1 h0)) (CX4_nameOf (ly11_s1 h0) h_r16) (by decide) rfl rfl (Nat.le_of_ble_eq_true rfl) ?_
      obtain ⟨r17, h_r17, h⟩ := Option.bind_eq_some_iff.mp h
      refine px_cVv (mx_d tX11_tag_0 40 rfl) iX11_363 rfl vX7_addName ⟨_, rfl, rfl⟩ (ly7_o (ly11_s15 h0)) (CX7_addName (ly11_s15 h0) h_r17) (by decide) rfl rfl (Nat.le_of_ble_eq_true rfl) ?_
      exact j_k9 h
    · rw [if_neg hc7] at h
      refine px_aload_n (mx_d tX11_tag_0 22 rfl) rfl rfl ?_
      refine px_getR (mx_d tX11_tag_0 23 rfl) fX11_99 rfl rfl (ly11_o h0) (ly11_r15 h0) ?_
      refine px_ldcSW (mx_d tX11_tag_0 24 rfl) rfl (k := 1) (List.mem_of_getElem? (i := 1) rfl) (fun _ h => h) ?_
      obtain ⟨r18, h_r18, h⟩ := Option.bind_eq_some_iff.mp h
      refine px_cNv (mx_d tX11_tag_0 25 rfl) iX11_372 rfl vX7_addText ⟨_, rfl, rfl⟩ (ly7_o (ly11_s15 h0)) (fun _ h => h) (CX7_addText (ly11_s15 h0) (by decide) (by decide +kernel) h_r18) (by decide) rfl rfl (Nat.le_of_ble_eq_true rfl) ?_
      refine px_goto (tgt := 91) (mx_d tX11_tag_0 26 rfl) (by decide) ?_
      exact j_k9 h
  · rw [if_pos hc2] at h
    refine px_iconst ((-1)) (mx_d tX11_tag_0 5 rfl) (by decide) ?_
    obtain rfl := Option.some.inj h
    exact px_ireturn (mx_d tX11_tag_0 6 rfl) rfl ⟨rfl, rfl⟩
