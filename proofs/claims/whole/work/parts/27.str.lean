def TJ0_length_8abf5_0 : List (Nat × Instr × Nat) := [(0, .aload_n 0, 1), (1, .getfield 9, 3), (4, .arraylength, 1), (5, .aload_n 0, 1), (6, .invokevirtual 335, 3), (9, .ishr, 1), (10, .ireturn, 1)]
theorem tJ0_length_8abf5_0 : ∀ q ∈ TJ0_length_8abf5_0, decode cJ0_length_8abf5 q.1 = .ok (q.2.1, q.2.2) := by decide +kernel
def TJ0_charAt_5068e_0 : List (Nat × Instr × Nat) := [(0, .aload_n 0, 1), (1, .invokevirtual 492, 3), (4, .ifCond .eq 12, 3), (7, .aload_n 0, 1), (8, .getfield 9, 3), (11, .iload_n 1, 1), (12, .invokestatic 495, 3), (15, .ireturn, 1), (16, .aload_n 0, 1), (17, .getfield 9, 3), (20, .iload_n 1, 1), (21, .invokestatic 498, 3), (24, .ireturn, 1)]
theorem tJ0_charAt_5068e_0 : ∀ q ∈ TJ0_charAt_5068e_0, decode cJ0_charAt_5068e q.1 = .ok (q.2.1, q.2.2) := by decide +kernel
def TJ0_coder_7d493_0 : List (Nat × Instr × Nat) := [(0, .getstatic 38, 3), (3, .ifCond .eq 10, 3), (6, .aload_n 0, 1), (7, .getfield 15, 3), (10, .goto 4, 3), (13, .iconst 1, 1), (14, .ireturn, 1)]
theorem tJ0_coder_7d493_0 : ∀ q ∈ TJ0_coder_7d493_0, decode cJ0_coder_7d493 q.1 = .ok (q.2.1, q.2.2) := by decide +kernel
def TJ0_isLatin1_aae02_0 : List (Nat × Instr × Nat) := [(0, .getstatic 38, 3), (3, .ifCond .eq 14, 3), (6, .aload_n 0, 1), (7, .getfield 15, 3), (10, .ifCond .ne 7, 3), (13, .iconst 1, 1), (14, .goto 4, 3), (17, .iconst 0, 1), (18, .ireturn, 1)]
theorem tJ0_isLatin1_aae02_0 : ∀ q ∈ TJ0_isLatin1_aae02_0, decode cJ0_isLatin1_aae02 q.1 = .ok (q.2.1, q.2.2) := by decide +kernel
def TJ0_checkIndex_df160_0 : List (Nat × Instr × Nat) := [(0, .iload_n 0, 1), (1, .iload_n 1, 1), (2, .getstatic 1053, 3), (5, .invokestatic 1059, 3), (8, .pop, 1), (9, .return_, 1)]
theorem tJ0_checkIndex_df160_0 : ∀ q ∈ TJ0_checkIndex_df160_0, decode cJ0_checkIndex_df160 q.1 = .ok (q.2.1, q.2.2) := by decide +kernel
def TJ1_charAt_3b067_0 : List (Nat × Instr × Nat) := [(0, .iload_n 1, 1), (1, .aload_n 0, 1), (2, .arraylength, 1), (3, .invokestatic 9, 3), (6, .aload_n 0, 1), (7, .iload_n 1, 1), (8, .baload, 1), (9, .sipush 255, 3), (12, .iand, 1), (13, .i2c, 1), (14, .ireturn, 1)]
theorem tJ1_charAt_3b067_0 : ∀ q ∈ TJ1_charAt_3b067_0, decode cJ1_charAt_3b067 q.1 = .ok (q.2.1, q.2.2) := by decide +kernel
def TJ3_checkIndex_8e157_0 : List (Nat × Instr × Nat) := [(0, .iload_n 0, 1), (1, .ifCond .lt 8, 3), (4, .iload_n 0, 1), (5, .iload_n 1, 1), (6, .if_icmp .lt 10, 3), (9, .aload_n 2, 1), (10, .iload_n 0, 1), (11, .iload_n 1, 1), (12, .invokestatic 95, 3), (15, .athrow, 1), (16, .iload_n 0, 1), (17, .ireturn, 1)]
theorem tJ3_checkIndex_8e157_0 : ∀ q ∈ TJ3_checkIndex_8e157_0, decode cJ3_checkIndex_8e157 q.1 = .ok (q.2.1, q.2.2) := by decide +kernel
theorem w_s9 : Cond.fieldLink RJ0 9 "java/lang/String" "value" "[B" ∈ mx_TB := mx_in (i := 2300) (by decide +kernel) (by decide +kernel)
theorem w_s15 : Cond.fieldLink RJ0 15 "java/lang/String" "coder" "B" ∈ mx_TB := mx_in (i := 2301) (by decide +kernel) (by decide +kernel)
theorem w_s38 : Cond.fieldLink RJ0 38 "java/lang/String" "COMPACT_STRINGS" "Z" ∈ mx_TB := mx_in (i := 48) (by decide +kernel) (by decide +kernel)
theorem w_s1053 : Cond.fieldLink RJ0 1053 "jdk/internal/util/Preconditions" "SIOOBE_FORMATTER" "Ljava/util/function/BiFunction;" ∈ mx_TB := mx_in (i := 64) (by decide +kernel) (by decide +kernel)
section MST
variable {Y : State → Prop} {G : mG} {l : Launch} {M : mM} {d kc ks : Nat} {Post : Option Value → mS → Prop} {pc : Nat} {L st : List Value} {z : mS}
theorem mx_ad_o {i : Nat} (h : 100000 ≤ i) : mx_ad G i = G.2.2.2 i := if_neg (Nat.not_lt.mpr h)
theorem px_entryNF {av : List Value} (hp : plainFor M.2.1 = true ∧ M.1 = M.2.1.cls) (hn : (mx_L0 av).length ≤ M.2.2.2.1)
    (hL : mx_L0 av ++ List.replicate (M.2.2.2.1 - (mx_L0 av).length) (.float 0) = L) (kk : mx_FP (mx_N G) G l M d kc ks Post 0 L [] z) : mx_CallN G l M d kc ks av z Post := by
  subst hL
  unfold mx_CallN Met
  refine MetFree.of_bodySF (code := M.2.2.1) (maxLocals := M.2.2.2.1) (ret := M.2.2.2.2) hp.1 ?_ ?_
  · intro args s m h hn
    obtain ⟨meth, c, h1, h2, h3, h4, h5, h6, -, -⟩ := Cond.code_spec hn (atoms_spec (ws := mx_ws M) h _ List.mem_cons_self)
    exact ⟨meth, c, h1, h2, h3, h4, h5, h6⟩
  · intro p e s m args below meth c s₁ B hml hP _
    have hh0 : s₁.heap = s.heap := by rw [B.state]; rfl
    obtain ⟨⟨rfl, hH, hK⟩, hN⟩ := hP
    have hts := atoms_spec (ws := mx_ws M) B.pre
    have hown : s.vm.findClass M.1 = some m.cls := hp.2 ▸ findClass_of_methodNamed B.named
    have hl := lv_entry (av.map (mx_tr G)) (n := M.2.2.2.1) (by rw [mx_len]; exact hn)
    have K := kk p e (headSpec (mx_ws M) (mx_rm d kc ks)).room s m _ below meth c s.heap [] 0 0 _ ⟨⟨B.exec, B.bytes, hml, B.returns, B.notSynchronized, hown, (name_of_methodNamed B.named B.method).1, fun w hw => hts w (List.mem_cons_of_mem _ hw), hK⟩,
      ⟨Nat.le_refl _, Nat.le_refl _, by simp [headSpec, mx_rm], by simp [headSpec, mx_rm]⟩, va_S.rf, by rw [hH.1]; exact Nat.le_add_right _ _, hH, mx_has_mono hl (fun q hq => by rw [mx_al_app, mx_al_fl, List.append_nil] at hq; exact mx_al_args av 0 q hq)⟩ hN
    obtain ⟨t, a1, o, b1, b2, b3⟩ := K s₁ hh0 (Stand.of_body B)
    exact ⟨t, o, by rw [lg_entry_eq]; exact a1, b1, b2, ⟨b3.1, b3.2⟩⟩
theorem px_callVS {own : String} {idx n d' k : Nat} {M' : mM} {av st0 : List Value} {Post' : Option Value → mS → Prop} (hd : decode M.2.2.1 pc = .ok (.invokevirtual idx, 3)) (hi : mx_inv own idx M' n) (hM : M.1 = own)
    (hV : Cond.instanceMethod M'.2.1 ∈ mx_TB ∧ Cond.selects M'.2.1.cls M'.2.1 M'.2.1 ∈ mx_TB) (hcl : M'.2.1.cls = "java/lang/String") (hk : k < 4) (hYN : ∀ s, Y s → mx_N G s)
    (hc : mx_CallN G l M' d' 0 0 (.ref (100000 + k) :: av) z Post') (hd' : d' < d) (hst : st0 = av.reverse ++ (.ref (100000 + k) :: st)) (hn : av.length = n) (hW : (st.map fun v => v.category).sum ≤ 8)
    (kk : ∀ v z', Post' v z' → mx_FP Y G l M d kc ks Post (pc + 3) L (v.toList ++ st) z') : mx_FP Y G l M d kc ks Post pc L st0 z := by
  intro p en R s m args below meth c' H locs cells slots ls X hY
  obtain ⟨⟨hx, hcc, hml, hrt, hlk, hown, hnm, hts, hK⟩, hR, hS, hb, hH, hl⟩ := id X
  have hN := hYN s hY
  have hrecv : ∃ cell : Cell, H[mx_sK G k]? = some cell ∧ cell.vm.isStatics = false ∧ s.vm.findClass M'.2.1.cls = some cell.cls := by
    rw [hcl]
    exact vk_recv hN.2.2.2.1 hk hS
  have e1 : (mx_tr G (.ref (100000 + k))) = .ref (mx_sK G k) := by show Value.ref (mx_ad G _) = _; rw [mx_ad_o (by omega)]; rfl
  subst hst
  refine px_cont X hY (Nat.zero_le _) (Nat.zero_le _) (W.runV (C := M'.2.1.cls) (b := mx_sK G k) (As := av.map (mx_tr G)) (rest := st.map (mx_tr G)) (g := F0 m pc ls _) ⟨hx, hcc, hml, hM ▸ hown, hts⟩ hc ⟨mx_callB hi hts hd' hR.1 hR.2.1, hts _ hV.1, hts _ hV.2⟩ ⟨mx_blindN, hrecv, fun U hU hW' => ⟨⟨?_, by rw [hU]; exact hH, mx_K.moved hW'.alike hK⟩, mx_N.warm hW' hS hU hN⟩⟩ rfl (by simpa using hn) hl.1 ?_ (lv_room (by rw [mx_cats]; exact hW)) hd ⟨by omega, by omega⟩) kk
  · show _ = ((mx_tr G (.ref (100000 + k))) :: av.map (mx_tr G)).toArray
    rw [e1]
  · show (av.reverse ++ (.ref (100000 + k) :: st)).map (mx_tr G) = _
    rw [mx_stk]
    show _ ++ (mx_tr G (.ref (100000 + k)) :: st.map (mx_tr G)) = _
    rw [e1]
theorem px_callSN {own : String} {idx n d' : Nat} {M' : mM} {av st0 : List Value} {Post' : Option Value → mS → Prop} (hd : decode M.2.2.1 pc = .ok (.invokestatic idx, 3)) (hi : mx_inv own idx M' n) (hM : M.1 = own)
    (hV : Cond.static M'.2.1 ∈ mx_TB) (hYN : ∀ s, Y s → mx_N G s) (hc : mx_CallN G l M' d' 0 0 av z Post') (hd' : d' < d) (hst : st0 = av.reverse ++ st) (hn : av.length = n) (hW : (st.map fun v => v.category).sum ≤ 8)
    (kk : ∀ v z', Post' v z' → mx_FP Y G l M d kc ks Post (pc + 3) L (v.toList ++ st) z') : mx_FP Y G l M d kc ks Post pc L st0 z := by
  intro p en R s m args below meth c' H locs cells slots ls X hY
  obtain ⟨⟨hx, hcc, hml, hrt, hlk, hown, hnm, hts, hK⟩, hR, hS, hb, hH, hl⟩ := id X
  subst hst
  exact px_cont X hY (Nat.zero_le _) (Nat.zero_le _) (W.runS (As := av.map (mx_tr G)) (rest := st.map (mx_tr G)) (g := F0 m pc ls _) ⟨hx, hcc, hml, hM ▸ hown, hts⟩ hc ⟨mx_callB hi hts hd' hR.1 hR.2.1, hts _ hV⟩ ⟨mx_blindN, fun U hU hW' => ⟨⟨rfl, by rw [hU]; exact hH, mx_K.moved hW'.alike hK⟩, mx_N.warm hW' hS hU (hYN s hY)⟩⟩ rfl (by simpa using hn) hl.1 mx_stk (lv_room (by rw [mx_cats]; exact hW)) hd ⟨by omega, by omega⟩) kk
theorem px_ldcS {own tx : String} {idx k : Nat} (hd : decode M.2.2.1 pc = .ok (.ldc idx, 2)) (hM : M.1 = own) (hq : (own, idx, tx, k) ∈ mx_sr) (hYN : ∀ s, Y s → mx_N G s)
    (kk : mx_FP Y G l M d kc ks Post (pc + 2) L (.ref (100000 + k) :: st) z) : mx_FP Y G l M d kc ks Post pc L st z := by
  intro p en R s m args below meth c' H locs cells slots ls X hY
  obtain ⟨⟨hx, hcc, hml, hrt, hlk, hown, hnm, hts, hK⟩, hR, hS, hb, hH, hl⟩ := id X
  have hN := hYN s hY
  have e1 : (mx_tr G (.ref (100000 + k))) = .ref (mx_sK G k) := by show Value.ref (mx_ad G _) = _; rw [mx_ad_o (by omega)]; rfl
  have K := kk p en R s m args below meth c' H locs cells slots ls X hY
  have e2 : ((.ref (100000 + k) :: st).map (mx_tr G)) = .ref (mx_sK G k) :: st.map (mx_tr G) := by show mx_tr G _ :: _ = _; rw [e1]
  rw [e2] at K
  exact va_ldcS hx hcc (hM ▸ hown) (hN.2.2.2.2.1 _ hq) hd K
theorem px_getV {k : Nat} (hd : decode M.2.2.1 pc = .ok (.getfield 9, 3)) (hM : M.1 = RJ0) (hk : k < 4) (hYN : ∀ s, Y s → mx_N G s)
    (kk : mx_FP Y G l M d kc ks Post (pc + 3) L (.ref (200000 + k) :: st) z) : mx_FP Y G l M d kc ks Post pc L (.ref (100000 + k) :: st) z := by
  intro p en R s m args below meth c' H locs cells slots ls X hY
  obtain ⟨⟨hx, hcc, hml, hrt, hlk, hown, hnm, hts, hK⟩, hR, hS, hb, hH, hl⟩ := id X
  have hN := hYN s hY
  have K := kk p en R s m args below meth c' H locs cells slots ls X hY
  have e2 : ((.ref (200000 + k) :: st).map (mx_tr G)) = .ref (mx_sV G k) :: st.map (mx_tr G) := by show Value.ref (mx_ad G _) :: _ = _; rw [mx_ad_o (by omega)]; rfl
  have e1 : ((.ref (100000 + k) :: st).map (mx_tr G)) = .ref (mx_sK G k) :: st.map (mx_tr G) := by show Value.ref (mx_ad G _) :: _ = _; rw [mx_ad_o (by omega)]; rfl
  rw [e2] at K
  rw [e1]
  exact vk_getf hx hcc (hN.2.2.2.1.1 k hk).2.2.1 hS (hM ▸ hown) (hts _ w_s9) (fun _ h => h) hd K
theorem px_getC {k : Nat} (hd : decode M.2.2.1 pc = .ok (.getfield 15, 3)) (hM : M.1 = RJ0) (hk : k < 4) (hYN : ∀ s, Y s → mx_N G s)
    (kk : mx_FP Y G l M d kc ks Post (pc + 3) L (.int 0 :: st) z) : mx_FP Y G l M d kc ks Post pc L (.ref (100000 + k) :: st) z := by
  intro p en R s m args below meth c' H locs cells slots ls X hY
  obtain ⟨⟨hx, hcc, hml, hrt, hlk, hown, hnm, hts, hK⟩, hR, hS, hb, hH, hl⟩ := id X
  have hN := hYN s hY
  have K := kk p en R s m args below meth c' H locs cells slots ls X hY
  have e1 : ((.ref (100000 + k) :: st).map (mx_tr G)) = .ref (mx_sK G k) :: st.map (mx_tr G) := by show Value.ref (mx_ad G _) :: _ = _; rw [mx_ad_o (by omega)]; rfl
  rw [e1]
  exact vk_getf hx hcc (hN.2.2.2.1.1 k hk).2.1 hS (hM ▸ hown) (hts _ w_s15) (fun _ h => h) hd K
theorem px_getsC (hd : decode M.2.2.1 pc = .ok (.getstatic 38, 3)) (hM : M.1 = RJ0) (hYN : ∀ s, Y s → mx_N G s)
    (kk : mx_FP Y G l M d kc ks Post (pc + 3) L (.int 1 :: st) z) : mx_FP Y G l M d kc ks Post pc L st z := by
  intro p en R s m args below meth c' H locs cells slots ls X hY
  obtain ⟨⟨hx, hcc, hml, hrt, hlk, hown, hnm, hts, hK⟩, hR, hS, hb, hH, hl⟩ := id X
  exact va_gets hx hcc (hYN s hY).2.2.2.2.2.1 hS (hM ▸ hown) (hts _ w_s38) (fun _ h => h) hd (kk p en R s m args below meth c' H locs cells slots ls X hY)
theorem px_getsF (hd : decode M.2.2.1 pc = .ok (.getstatic 1053, 3)) (hM : M.1 = RJ0) (hYN : ∀ s, Y s → mx_N G s)
    (k1 : mx_FP Y G l M d kc ks Post (pc + 3) L (.null :: st) z) (k2 : mx_FP Y G l M d kc ks Post (pc + 3) L (.ref 300000 :: st) z) : mx_FP Y G l M d kc ks Post pc L st z := by
  intro p en R s m args below meth c' H locs cells slots ls X hY
  obtain ⟨⟨hx, hcc, hml, hrt, hlk, hown, hnm, hts, hK⟩, hR, hS, hb, hH, hl⟩ := id X
  rcases (hYN s hY).2.2.2.2.2.2 with h | h
  · exact va_gets hx hcc h hS (hM ▸ hown) (hts _ w_s1053) (fun _ h => h) hd (k1 p en R s m args below meth c' H locs cells slots ls X hY)
  · have K := k2 p en R s m args below meth c' H locs cells slots ls X hY
    have e2 : ((.ref 300000 :: st).map (mx_tr G)) = .ref (G.2.2.2 300000) :: st.map (mx_tr G) := by show Value.ref (mx_ad G _) :: _ = _; rw [mx_ad_o (by omega)]
    rw [e2] at K
    exact va_gets hx hcc h hS (hM ▸ hown) (hts _ w_s1053) (fun _ h => h) hd K
theorem px_slen {k : Nat} (hd : decode M.2.2.1 pc = .ok (.arraylength, 1)) (hk : k < 4) (hYN : ∀ s, Y s → mx_N G s)
    (kk : mx_FP Y G l M d kc ks Post (pc + 1) L (.int (nI (mx_sl.getD k 0)) :: st) z) : mx_FP Y G l M d kc ks Post pc L (.ref (200000 + k) :: st) z := by
  intro p en R s m args below meth c' H locs cells slots ls X hY
  obtain ⟨⟨hx, hcc, hml, hrt, hlk, hown, hnm, hts, hK⟩, hR, hS, hb, hH, hl⟩ := id X
  have e1 : ((.ref (200000 + k) :: st).map (mx_tr G)) = .ref (mx_sV G k) :: st.map (mx_tr G) := by show Value.ref (mx_ad G _) :: _ = _; rw [mx_ad_o (by omega)]; rfl
  rw [e1]
  exact va_tlen hx hcc ((hYN s hY).2.2.2.1.1 k hk).2.2.2 hS rfl hd (kk p en R s m args below meth c' H locs cells slots ls X hY)
theorem px_sbald {k : Nat} {i : Int32} (hd : decode M.2.2.1 pc = .ok (.baload, 1)) (hk : k < 4) (hi : vp_in i (mx_sl.getD k 0)) (hYN : ∀ s, Y s → mx_N G s)
    (kk : mx_FP Y G l M d kc ks Post (pc + 1) L (.int ((mx_sb.getD k []).getD i.toNatClampNeg 0) :: st) z) : mx_FP Y G l M d kc ks Post pc L (.int i :: .ref (200000 + k) :: st) z := by
  intro p en R s m args below meth c' H locs cells slots ls X hY
  obtain ⟨⟨hx, hcc, hml, hrt, hlk, hown, hnm, hts, hK⟩, hR, hS, hb, hH, hl⟩ := id X
  have e1 : ((.int i :: .ref (200000 + k) :: st).map (mx_tr G)) = .int i :: .ref (mx_sV G k) :: st.map (mx_tr G) := by show _ :: Value.ref (mx_ad G _) :: _ = _; rw [mx_ad_o (by omega)]; rfl
  rw [e1]
  exact va_tb hx hcc ((hYN s hY).2.2.2.1.1 k hk).2.2.2 hS hi rfl hd (kk p en R s m args below meth c' H locs cells slots ls X hY)
theorem px_i2c {x : Int32} (hd : decode M.2.2.1 pc = .ok (.i2c, 1)) (kk : mx_FP Y G l M d kc ks Post (pc + 1) L (.int ((x.toUInt32 % 65536).toInt32) :: st) z) : mx_FP Y G l M d kc ks Post pc L (.int x :: st) z := by
  intro p en R s m args below meth c' H locs cells slots ls X hY
  obtain ⟨⟨hx, hcc, hml, hrt, hlk, hown, hnm, hts, hK⟩, hR, hS, hb, hH, hl⟩ := id X
  exact lv_i2c hx hcc hd rfl (kk p en R s m args below meth c' H locs cells slots ls X hY)
end MST
/-- the char k of string i -/
def mx_ch (i k : Nat) : Int32 := ((((mx_sb.getD i []).getD k 0) &&& 255).toUInt32 % 65536).toInt32
set_option maxRecDepth 20000 in
theorem KJ0_coder {G : mG} {l : Launch} {k : Nat} {z : mS} (hk : k < 4) : mx_CallN G l MJ0_coder_7d493 1 0 0 [.ref (100000 + k)] z (fun v z' => v = some (.int 0) ∧ z' = z) := by
  refine px_entryNF (L := [.ref (100000 + k)]) (by decide +kernel) (Nat.le_of_ble_eq_true rfl) rfl ?_
  refine px_getsC (mx_d tJ0_coder_7d493_0 0 rfl) rfl (fun _ h => h) ?_
  refine px_if_eq (tgt := 13) (mx_d tJ0_coder_7d493_0 1 rfl) (by decide) (fun hc => absurd hc (by decide)) (fun _ => ?_)
  refine px_aload_n (mx_d tJ0_coder_7d493_0 2 rfl) rfl rfl ?_
  refine px_getC (mx_d tJ0_coder_7d493_0 3 rfl) rfl hk (fun _ h => h) ?_
  refine px_goto (tgt := 14) (mx_d tJ0_coder_7d493_0 4 rfl) (by decide) ?_
  exact px_zreturn (mx_d tJ0_coder_7d493_0 6 rfl) rfl (by decide) ⟨rfl, rfl⟩
set_option maxRecDepth 20000 in
theorem KJ0_isLatin1 {G : mG} {l : Launch} {k : Nat} {z : mS} (hk : k < 4) : mx_CallN G l MJ0_isLatin1_aae02 1 0 0 [.ref (100000 + k)] z (fun v z' => v = some (.int 1) ∧ z' = z) := by
  refine px_entryNF (L := [.ref (100000 + k)]) (by decide +kernel) (Nat.le_of_ble_eq_true rfl) rfl ?_
  refine px_getsC (mx_d tJ0_isLatin1_aae02_0 0 rfl) rfl (fun _ h => h) ?_
  refine px_if_eq (tgt := 17) (mx_d tJ0_isLatin1_aae02_0 1 rfl) (by decide) (fun hc => absurd hc (by decide)) (fun _ => ?_)
  refine px_aload_n (mx_d tJ0_isLatin1_aae02_0 2 rfl) rfl rfl ?_
  refine px_getC (mx_d tJ0_isLatin1_aae02_0 3 rfl) rfl hk (fun _ h => h) ?_
  refine px_if_ne (tgt := 17) (mx_d tJ0_isLatin1_aae02_0 4 rfl) (by decide) (fun hc => absurd rfl hc) (fun _ => ?_)
  refine px_iconst (1) (mx_d tJ0_isLatin1_aae02_0 5 rfl) (by decide) ?_
  refine px_goto (tgt := 18) (mx_d tJ0_isLatin1_aae02_0 6 rfl) (by decide) ?_
  exact px_zreturn (mx_d tJ0_isLatin1_aae02_0 8 rfl) rfl rfl ⟨rfl, rfl⟩
theorem mx_slen_lt : ∀ k, k < 4 → nI (mx_sl.getD k 0) >>> ((0 : Int32) &&& 31) = nI (mx_sl.getD k 0) := by decide +kernel
set_option maxRecDepth 20000 in
theorem KJ0_length {G : mG} {l : Launch} {k : Nat} {z : mS} (hk : k < 4) : mx_CallN G l MJ0_length_8abf5 2 0 0 [.ref (100000 + k)] z (fun v z' => v = some (.int (nI (mx_sl.getD k 0))) ∧ z' = z) := by
  refine px_entryNF (L := [.ref (100000 + k)]) (by decide +kernel) (Nat.le_of_ble_eq_true rfl) rfl ?_
  refine px_aload_n (mx_d tJ0_length_8abf5_0 0 rfl) rfl rfl ?_
  refine px_getV (mx_d tJ0_length_8abf5_0 1 rfl) rfl hk (fun _ h => h) ?_
  refine px_slen (mx_d tJ0_length_8abf5_0 2 rfl) hk (fun _ h => h) ?_
  refine px_aload_n (mx_d tJ0_length_8abf5_0 3 rfl) rfl rfl ?_
  refine px_callVS (mx_d tJ0_length_8abf5_0 4 rfl) iJ0_335 rfl vJ0_coder_7d493 rfl hk (fun _ h => h) (KJ0_coder hk) (by decide) rfl rfl (Nat.le_of_ble_eq_true rfl) (fun v z' hv => ?_)
  obtain ⟨rfl, rfl⟩ := hv
  refine px_ishr (mx_d tJ0_length_8abf5_0 5 rfl) ?_
  rw [mx_slen_lt k hk]
  exact px_ireturn (mx_d tJ0_length_8abf5_0 6 rfl) rfl ⟨rfl, rfl⟩
set_option maxRecDepth 20000 in
theorem KJ3_checkIndex {G : mG} {l : Launch} {i n : Int32} {f : Value} {z : mS} (hf : f = .null ∨ f = .ref 300000) (h1 : ¬ i < 0) (h2 : i < n) : mx_CallN G l MJ3_checkIndex_8e157 1 0 0 [.int i, .int n, f] z (fun v z' => v = some (.int i) ∧ z' = z) := by
  have key : ∀ f : Value, (f = .null ∨ f = .ref 300000) → mx_FP (mx_N G) G l MJ3_checkIndex_8e157 1 0 0 (fun v z' => v = some (.int i) ∧ z' = z) 0 [.int i, .int n, f] [] z := by
    intro f _
    refine px_iload_n (mx_d tJ3_checkIndex_8e157_0 0 rfl) rfl rfl ?_
    refine px_if_lt (tgt := 9) (mx_d tJ3_checkIndex_8e157_0 1 rfl) (by decide) (fun hc => absurd hc h1) (fun _ => ?_)
    refine px_iload_n (mx_d tJ3_checkIndex_8e157_0 2 rfl) rfl rfl ?_
    refine px_iload_n (mx_d tJ3_checkIndex_8e157_0 3 rfl) rfl rfl ?_
    refine px_icmp_lt (tgt := 16) (mx_d tJ3_checkIndex_8e157_0 4 rfl) (by decide) (fun _ => ?_) (fun hc => absurd h2 hc)
    refine px_iload_n (mx_d tJ3_checkIndex_8e157_0 10 rfl) rfl rfl ?_
    exact px_ireturn (mx_d tJ3_checkIndex_8e157_0 11 rfl) rfl ⟨rfl, rfl⟩
  rcases hf with rfl | rfl
  · exact px_entryNF (L := [.int i, .int n, .null]) (by decide +kernel) (Nat.le_of_ble_eq_true rfl) rfl (key _ (Or.inl rfl))
  · exact px_entryNF (L := [.int i, .int n, .ref 300000]) (by decide +kernel) (Nat.le_of_ble_eq_true rfl) rfl (key _ (Or.inr rfl))
set_option maxRecDepth 20000 in
theorem KJ0_checkIndex {G : mG} {l : Launch} {i n : Int32} {z : mS} (h1 : ¬ i < 0) (h2 : i < n) : mx_CallN G l MJ0_checkIndex_df160 2 0 0 [.int i, .int n] z (fun v z' => v = none ∧ z' = z) := by
  refine px_entryNF (L := [.int i, .int n]) (by decide +kernel) (Nat.le_of_ble_eq_true rfl) rfl ?_
  refine px_iload_n (mx_d tJ0_checkIndex_df160_0 0 rfl) rfl rfl ?_
  refine px_iload_n (mx_d tJ0_checkIndex_df160_0 1 rfl) rfl rfl ?_
  refine px_getsF (mx_d tJ0_checkIndex_df160_0 2 rfl) rfl (fun _ h => h) ?_ ?_
  · refine px_callSN (mx_d tJ0_checkIndex_df160_0 3 rfl) iJ0_1059 rfl sJ3_checkIndex_8e157 (fun _ h => h) (KJ3_checkIndex (Or.inl rfl) h1 h2) (by decide) rfl rfl (Nat.le_of_ble_eq_true rfl) (fun v z' hv => ?_)
    obtain ⟨rfl, rfl⟩ := hv
    refine px_pop (mx_d tJ0_checkIndex_df160_0 4 rfl) rfl ?_
    exact px_return (mx_d tJ0_checkIndex_df160_0 5 rfl) rfl ⟨rfl, rfl⟩
  · refine px_callSN (mx_d tJ0_checkIndex_df160_0 3 rfl) iJ0_1059 rfl sJ3_checkIndex_8e157 (fun _ h => h) (KJ3_checkIndex (Or.inr rfl) h1 h2) (by decide) rfl rfl (Nat.le_of_ble_eq_true rfl) (fun v z' hv => ?_)
    obtain ⟨rfl, rfl⟩ := hv
    refine px_pop (mx_d tJ0_checkIndex_df160_0 4 rfl) rfl ?_
    exact px_return (mx_d tJ0_checkIndex_df160_0 5 rfl) rfl ⟨rfl, rfl⟩
set_option maxRecDepth 20000 in
theorem KJ1_charAt {G : mG} {l : Launch} {k j : Nat} {z : mS} (hk : k < 4) (hj : j < mx_sl.getD k 0) (hL : mx_sl.getD k 0 < 1000) : mx_CallN G l MJ1_charAt_3b067 3 0 0 [.ref (200000 + k), .int (nI j)] z (fun v z' => v = some (.int (mx_ch k j)) ∧ z' = z) := by
  refine px_entryNF (L := [.ref (200000 + k), .int (nI j)]) (by decide +kernel) (Nat.le_of_ble_eq_true rfl) rfl ?_
  refine px_iload_n (mx_d tJ1_charAt_3b067_0 0 rfl) rfl rfl ?_
  refine px_aload_n (mx_d tJ1_charAt_3b067_0 1 rfl) rfl rfl ?_
  refine px_slen (mx_d tJ1_charAt_3b067_0 2 rfl) hk (fun _ h => h) ?_
  refine px_callSN (mx_d tJ1_charAt_3b067_0 3 rfl) iJ1_9 rfl sJ0_checkIndex_df160 (fun _ h => h) (KJ0_checkIndex (nI_pos (by omega)) (nI_lt hj (by omega))) (by decide) rfl rfl (Nat.le_of_ble_eq_true rfl) (fun v z' hv => ?_)
  obtain ⟨rfl, rfl⟩ := hv
  refine px_aload_n (mx_d tJ1_charAt_3b067_0 4 rfl) rfl rfl ?_
  refine px_iload_n (mx_d tJ1_charAt_3b067_0 5 rfl) rfl rfl ?_
  refine px_sbald (mx_d tJ1_charAt_3b067_0 6 rfl) hk (vp_in_nI hj (by omega)) (fun _ h => h) ?_
  refine px_sipush (255) (mx_d tJ1_charAt_3b067_0 7 rfl) (by decide) ?_
  refine px_iand (mx_d tJ1_charAt_3b067_0 8 rfl) ?_
  refine px_i2c (mx_d tJ1_charAt_3b067_0 9 rfl) ?_
  rw [nI_clamp (by omega)]
  exact px_zreturn (mx_d tJ1_charAt_3b067_0 10 rfl) rfl (pk_nc _) ⟨rfl, rfl⟩
set_option maxRecDepth 20000 in
theorem KJ0_charAt {G : mG} {l : Launch} {k j : Nat} {z : mS} (hk : k < 4) (hj : j < mx_sl.getD k 0) (hL : mx_sl.getD k 0 < 1000) : mx_CallN G l MJ0_charAt_5068e 4 0 0 [.ref (100000 + k), .int (nI j)] z (fun v z' => v = some (.int (mx_ch k j)) ∧ z' = z) := by
  refine px_entryNF (L := [.ref (100000 + k), .int (nI j)]) (by decide +kernel) (Nat.le_of_ble_eq_true rfl) rfl ?_
  refine px_aload_n (mx_d tJ0_charAt_5068e_0 0 rfl) rfl rfl ?_
  refine px_callVS (mx_d tJ0_charAt_5068e_0 1 rfl) iJ0_492 rfl vJ0_isLatin1_aae02 rfl hk (fun _ h => h) (KJ0_isLatin1 hk) (by decide) rfl rfl (Nat.le_of_ble_eq_true rfl) (fun v z' hv => ?_)
  obtain ⟨rfl, rfl⟩ := hv
  refine px_if_eq (tgt := 16) (mx_d tJ0_charAt_5068e_0 2 rfl) (by decide) (fun hc => absurd hc (by decide)) (fun _ => ?_)
  refine px_aload_n (mx_d tJ0_charAt_5068e_0 3 rfl) rfl rfl ?_
  refine px_getV (mx_d tJ0_charAt_5068e_0 4 rfl) rfl hk (fun _ h => h) ?_
  refine px_iload_n (mx_d tJ0_charAt_5068e_0 5 rfl) rfl rfl ?_
  refine px_callSN (mx_d tJ0_charAt_5068e_0 6 rfl) iJ0_495 rfl sJ1_charAt_3b067 (fun _ h => h) (KJ1_charAt hk hj hL) (by decide) rfl rfl (Nat.le_of_ble_eq_true rfl) (fun v z' hv => ?_)
  obtain ⟨rfl, rfl⟩ := hv
  exact px_zreturn (mx_d tJ0_charAt_5068e_0 7 rfl) rfl (pk_nc _) ⟨rfl, rfl⟩

