/-! ===== the four methods where they throw; the law's four that catch ===== -/
theorem DX11_point {G : mG} {l : Launch} {e : mE} {a : Nat} {x0 x1 b : Int32} {m : mB} (hl : l.stackTraces = false) (hcap : e.1 < 100000) (h0 : ly11 e a) (h : FX4_hasPoint (a + 4) x0 m = some b) (hb : b = 0 ∨ x1 < 0 ∨ ¬ x1 ≤ 4) : mx_CallX G l MX11_point 8 1 6 [.ref a, .int x0, .int x1] (e, m) := by
  refine qx_entryT (L := [.ref a, .int x0, .int x1]) (by decide +kernel) (Nat.le_of_ble_eq_true rfl) rfl ?_
  have th : ∀ L, mx_FC (mx_YT G) (mx_QT G (e, m)) G l MX11_point 8 1 6 20 L [] (e, m) := fun L => qx_throw rfl hl (by decide) (by decide) (by decide) hcap (mx_d tX11_point_0 10 rfl) (mx_d tX11_point_0 11 rfl) (mx_d tX11_point_0 12 rfl) (mx_d tX11_point_0 13 rfl)
  refine qx_aload_n (mx_d tX11_point_0 0 rfl) rfl rfl ?_
  refine qx_getR (mx_d tX11_point_0 1 rfl) fX11_19 rfl rfl (ly11_o h0) (ly11_r1 h0) ?_
  refine qx_iload_n (mx_d tX11_point_0 2 rfl) rfl rfl ?_
  refine qx_cVi (mx_d tX11_point_0 3 rfl) iX11_147 rfl vX4_hasPoint ⟨_, rfl, rfl⟩ (ly4_o (ly11_s1 h0)) (CX4_hasPoint (ly11_s1 h0) h) (by decide) rfl rfl (Nat.le_of_ble_eq_true rfl) ?_
  refine qx_if_eq (tgt := 20) (mx_d tX11_point_0 4 rfl) (by decide) (fun _ => th _) (fun h1 => ?_)
  refine qx_iload_n (mx_d tX11_point_0 5 rfl) rfl rfl ?_
  refine qx_if_lt (tgt := 20) (mx_d tX11_point_0 6 rfl) (by decide) (fun _ => th _) (fun h2 => ?_)
  refine qx_iload_n (mx_d tX11_point_0 7 rfl) rfl rfl ?_
  refine qx_iconst (4) (mx_d tX11_point_0 8 rfl) (by decide) ?_
  exact qx_icmp_le (tgt := 28) (mx_d tX11_point_0 9 rfl) (by decide) (fun h3 => absurd h3 ((hb.resolve_left h1).resolve_left h2)) (fun _ => th _)
theorem DX11_slack {G : mG} {l : Launch} {e : mE} {a : Nat} {x0 : Int32} {m : mB} (hl : l.stackTraces = false) (hcap : e.1 < 100000) (h0 : ly11 e a) (h : FX4_hasLink (a + 4) x0 m = some 0) : mx_CallX G l MX11_slack 8 1 6 [.ref a, .int x0] (e, m) := by
  refine qx_entryT (L := [.ref a, .int x0]) (by decide +kernel) (Nat.le_of_ble_eq_true rfl) rfl ?_
  refine qx_aload_n (mx_d tX11_slack_0 0 rfl) rfl rfl ?_
  refine qx_getR (mx_d tX11_slack_0 1 rfl) fX11_19 rfl rfl (ly11_o h0) (ly11_r1 h0) ?_
  refine qx_iload_n (mx_d tX11_slack_0 2 rfl) rfl rfl ?_
  refine qx_cVi (mx_d tX11_slack_0 3 rfl) iX11_170 rfl vX4_hasLink ⟨_, rfl, rfl⟩ (ly4_o (ly11_s1 h0)) (CX4_hasLink (ly11_s1 h0) h) (by decide) rfl rfl (Nat.le_of_ble_eq_true rfl) ?_
  refine qx_if_ne (tgt := 19) (mx_d tX11_slack_0 4 rfl) (by decide) (fun hc => absurd rfl hc) (fun _ => ?_)
  exact qx_throw rfl hl (by decide) (by decide) (by decide) hcap (mx_d tX11_slack_0 5 rfl) (mx_d tX11_slack_0 6 rfl) (mx_d tX11_slack_0 7 rfl) (mx_d tX11_slack_0 8 rfl)
theorem DX11_proofBy {G : mG} {l : Launch} {e : mE} {a : Nat} {m : mB} (hl : l.stackTraces = false) (hcap : e.1 < 100000) (h0 : ly11 e a) (h : m.1 a 16 = -1) : mx_CallX G l MX11_proofBy 8 1 6 [.ref a] (e, m) := by
  refine qx_entryT (L := [.ref a]) (by decide +kernel) (Nat.le_of_ble_eq_true rfl) rfl ?_
  refine qx_aload_n (mx_d tX11_proofBy_0 0 rfl) rfl rfl ?_
  refine qx_getI (mx_d tX11_proofBy_0 1 rfl) fX11_102 rfl (Or.inl rfl) (ly11_o h0) ?_
  refine qx_iconst ((-1)) (mx_d tX11_proofBy_0 2 rfl) (by decide) ?_
  refine qx_icmp_ne (tgt := 16) (mx_d tX11_proofBy_0 3 rfl) (by decide) (fun hc => absurd h hc) (fun _ => ?_)
  exact qx_throw rfl hl (by decide) (by decide) (by decide) hcap (mx_d tX11_proofBy_0 4 rfl) (mx_d tX11_proofBy_0 5 rfl) (mx_d tX11_proofBy_0 6 rfl) (mx_d tX11_proofBy_0 7 rfl)
theorem DX11_mean {G : mG} {l : Launch} {e : mE} {a : Nat} {x0 b : Int32} {m : mB} (hl : l.stackTraces = false) (hcap : e.1 < 100000) (h0 : ly11 e a) (h : FX4_pairs (a + 4) m = some b) (hb : b < 1 ∨ x0 < 0 ∨ ¬ x0 ≤ 1) : mx_CallX G l MX11_mean 8 1 6 [.ref a, .int x0] (e, m) := by
  refine qx_entryT (L := [.ref a, .int x0, .float 0, .float 0, .float 0]) (by decide +kernel) (Nat.le_of_ble_eq_true rfl) rfl ?_
  have th : ∀ L, mx_FC (mx_YT G) (mx_QT G (e, m)) G l MX11_mean 8 1 6 22 L [] (e, m) := fun L => qx_throw rfl hl (by decide) (by decide) (by decide) hcap (mx_d tX11_mean_0 12 rfl) (mx_d tX11_mean_0 13 rfl) (mx_d tX11_mean_0 14 rfl) (mx_d tX11_mean_0 15 rfl)
  refine qx_aload_n (mx_d tX11_mean_0 0 rfl) rfl rfl ?_
  refine qx_getR (mx_d tX11_mean_0 1 rfl) fX11_19 rfl rfl (ly11_o h0) (ly11_r1 h0) ?_
  refine qx_cVi (mx_d tX11_mean_0 2 rfl) iX11_209 rfl vX4_pairs ⟨_, rfl, rfl⟩ (ly4_o (ly11_s1 h0)) (CX4_pairs (ly11_s1 h0) h) (by decide) rfl rfl (Nat.le_of_ble_eq_true rfl) ?_
  refine qx_istore_n (L2 := [.ref a, .int x0, .int b, .float 0, .float 0]) (mx_d tX11_mean_0 3 rfl) rfl (by decide) (by rfl) ?_
  refine qx_iload_n (mx_d tX11_mean_0 4 rfl) rfl rfl ?_
  refine qx_iconst (1) (mx_d tX11_mean_0 5 rfl) (by decide) ?_
  refine qx_icmp_lt (tgt := 22) (mx_d tX11_mean_0 6 rfl) (by decide) (fun _ => th _) (fun h1 => ?_)
  refine qx_iload_n (mx_d tX11_mean_0 7 rfl) rfl rfl ?_
  refine qx_if_lt (tgt := 22) (mx_d tX11_mean_0 8 rfl) (by decide) (fun _ => th _) (fun h2 => ?_)
  refine qx_iload_n (mx_d tX11_mean_0 9 rfl) rfl rfl ?_
  refine qx_iconst (1) (mx_d tX11_mean_0 10 rfl) (by decide) ?_
  exact qx_icmp_le (tgt := 30) (mx_d tX11_mean_0 11 rfl) (by decide) (fun h3 => absurd h3 ((hb.resolve_left h1).resolve_left h2)) (fun _ => th _)
/-! methods with a table -/
def mx_wsW (M : mM) (hh : List (Nat × Nat × Nat × Nat)) : List Cond := .codeWith M.2.1 M.2.2.1 M.2.2.2.1 M.2.2.2.2 hh :: mx_TB
def mx_CallW (G : mG) (l : Launch) (M : mM) (hh : List (Nat × Nat × Nat × Nat)) (d kc ks : Nat) (av : List Value) (z : mS) (Post : Option Value → mS → Prop) : Prop :=
  Met l M.2.1 (mx_wsW M hh) (mx_rm d kc ks) (mx_PcX G av z) (mx_Q G Post) kc ks (mx_fr G)
def mx_YW (G : mG) (hh : List (Nat × Nat × Nat × Nat)) : Code → State → Prop := fun c s => c.exceptionTable.toList = tableOf hh ∧ mx_XN G s
def mx_QN (G : mG) (Post : Option Value → mS → Prop) : List Frame → Array Value → State → Room → State → Prop := fun below args s R => MQ below (mx_Q G Post) args s R.cells R.slots (mx_fr G)
theorem qx_ofFr {Y : Code → State → Prop} {G : mG} {l : Launch} {M : mM} {d kc ks pc : Nat} {Post : Option Value → mS → Prop} {L st : List Value} {z : mS} (h : mx_Fr G l M d kc ks Post pc L st z) : mx_FC Y (mx_QN G Post) G l M d kc ks pc L st z :=
  fun p e R s m args below meth c H locs cells slots ls X _ => h p e R s m args below meth c H locs cells slots ls X
theorem qx_entryW {G : mG} {l : Launch} {M : mM} {hh : List (Nat × Nat × Nat × Nat)} {d kc ks : Nat} {Post : Option Value → mS → Prop} {L : List Value} {z : mS} {av : List Value} (hp : plainName M.2.1.cls = true ∧ M.1 = M.2.1.cls) (hn : (mx_L0 av).length ≤ M.2.2.2.1)
    (hL : mx_L0 av ++ List.replicate (M.2.2.2.1 - (mx_L0 av).length) (.float 0) = L) (kk : mx_FC (mx_YW G hh) (mx_QN G Post) G l M d kc ks 0 L [] z) : mx_CallW G l M hh d kc ks av z Post := by
  subst hL
  refine va_MetW (cc := M.2.2.1) (maxL := M.2.2.2.1) (ret := M.2.2.2.2) (hh := hh) hp.1 rfl ?_
  intro p e s m args below meth c s₁ B hml hP
  obtain ⟨⟨rfl, hH, hK⟩, hN⟩ := hP
  have hts := atoms_spec (ws := mx_wsW M hh) B.pre
  have hown : s.vm.findClass M.1 = some m.cls := hp.2 ▸ findClass_of_methodNamed B.named
  have hl := lv_entry (av.map (mx_tr G)) (n := M.2.2.2.1) (by rw [mx_len]; exact hn)
  rw [lg_entry_eq]
  exact kk p e _ s m _ below meth c s.heap [] 0 0 _ ⟨⟨B.exec, B.bytes, hml, B.returns, B.notSynchronized, hown, (name_of_methodNamed B.named B.method).1, fun w hw => hts w (List.mem_cons_of_mem _ hw), hK⟩,
    ⟨Nat.le_refl _, Nat.le_refl _, by simp [headSpec, mx_rm], by simp [headSpec, mx_rm]⟩, va_S.rf, by rw [hH.1]; exact Nat.le_add_right _ _, hH, mx_has_mono hl (fun q hq => by rw [mx_al_app, mx_al_fl, List.append_nil] at hq; exact mx_al_args av 0 q hq)⟩ ⟨vx_table (x := M.2.1) B (hts _ List.mem_cons_self), hN⟩
theorem qx_s1f {G : mG} {L : List Value} {i : Nat} {q : Nat × Value} (h : q ∈ mx_al G 0 (mx_s1 L i (.float 0))) : q ∈ (mx_al G 0 L).filter (fun q => !(q.1 == i) && !(q.1 + 1 == i && q.2.category == 2)) := by
  obtain ⟨j, w, e, hj, hw⟩ := mx_al_out h
  rw [Nat.zero_add] at e
  subst e
  rcases mx_s1_get hj hw with ⟨rfl, rfl⟩ | ⟨hji, hL, hn⟩
  · exact absurd rfl (hw 0)
  · refine List.mem_filter.mpr ⟨by have := mx_al_in (G := G) (n := 0) hL hw; simpa using this, ?_⟩
    simp only [Bool.and_eq_true, Bool.not_eq_true', beq_eq_false_iff_ne, ne_eq, Bool.and_eq_false_iff]
    refine ⟨hji, ?_⟩
    by_cases h1 : j + 1 = i
    · right; rw [mx_tr_cat]; exact fun q => hn ⟨h1, q⟩
    · left; exact h1
theorem w_xl : Cond.classLink RLaw 13 xN ∈ mx_TB := mx_in (i := 1420) (by decide +kernel) (by decide +kernel)
/-- a call that throws, in a frame whose table catches it -/
theorem qx_callVX {G : mG} {l : Launch} {M : mM} {d kc ks pc : Nat} {Post : Option Value → mS → Prop} {L st : List Value} {e : mE} {mi : mI} {mj : mJ} {idx n d' c0 n0 i a0 b0 hpc k len : Nat} {M' : mM} {av st0 L' : List Value} (hd : decode M.2.2.1 pc = .ok (.invokevirtual idx, 3)) (hi : mx_inv RLaw idx M' n) (hM : M.1 = RLaw)
    (hV : Cond.instanceMethod M'.2.1 ∈ mx_TB ∧ Cond.selects M'.2.1.cls M'.2.1 M'.2.1 ∈ mx_TB) (hcl : ∃ r : vw_C, vwCl[c0]? = some r ∧ r.1 = M'.2.1.cls) (ho : mx_is e i c0 n0)
    (hc : mx_CallX G l M' d' 1 6 (.ref i :: av) (e, mi, mj)) (hd' : d' < d) (h1 : 1 ≤ kc) (h2 : 6 ≤ ks) (hst : st0 = av.reverse ++ (.ref i :: st)) (hn : av.length = n) (hW : (st.map fun v => v.category).sum ≤ 8)
    (hcov : covers ⟨a0, b0, hpc, 13⟩ pc = true) (hk : k < M.2.2.2.1) (hL' : mx_s1 L k (.float 0) = L') (hh : (decode M.2.2.1 hpc = .ok (.astore k, 2) ∧ len = 2) ∨ (∃ k' : Fin 4, decode M.2.2.1 hpc = .ok (.astore_n k', 1) ∧ (k' : Nat) = k ∧ len = 1))
    (kk : ∀ n', e.1 ≤ n' → n' ≤ e.1 + 1 → mx_Fr G l M d (kc - 1) (ks - 6) Post (hpc + len) L' [] (mx_ej e n', mi, mj)) : mx_FC (mx_YW G [(a0, b0, hpc, 13)]) (mx_QN G Post) G l M d kc ks pc L st0 (e, mi, mj) := by
  intro p en R s m args below meth c' H locs cells slots ls X hY
  obtain ⟨⟨hx, hcc, hml, hrt, hlk, hown, hnm, hts, hK⟩, hR, hS, hb, hH, hl⟩ := id X
  obtain ⟨hT, hN⟩ := hY
  obtain ⟨r, hr, hrc⟩ := hcl
  have hc13 : c0 < 13 := (List.getElem?_eq_some_iff.mp hr).1
  have hrecv : ∃ cell : Cell, H[G.1 + i]? = some cell ∧ cell.vm.isStatics = false ∧ s.vm.findClass M'.2.1.cls = some cell.cls := by
    obtain ⟨r', h1', cell, q1, q2, q3, q4⟩ := mx_cellO ho hc13 hH
    exact ⟨cell, q1, by rw [q3]; rfl, by rw [q2, ← hrc]; exact (hK.1 c0 _ hr).2.1⟩
  have e1 : (mx_tr G (.ref i)) = .ref (G.1 + i) := by show Value.ref (mx_ad G i) = _; rw [mx_isl ho hH]
  subst hst
  have hr := vx_runV (below := below) (meth := meth) (locs := locs) (p := p) (e := en) (C := M'.2.1.cls) (b := G.1 + i) (As := av.map (mx_tr G)) (rest := st.map (mx_tr G)) (g := F0 m pc ls ((av.reverse ++ (.ref i :: st)).map (mx_tr G))) ⟨hx, hcc, hml, hM ▸ hown, hts⟩ hc ⟨mx_callB hi hts hd' hR.1 hR.2.1, hts _ hV.1, hts _ hV.2⟩ ⟨mx_blindX, hrecv, fun U hU hW' => ⟨⟨by show _ = ((mx_tr G (.ref i)) :: av.map (mx_tr G)).toArray; rw [e1], by rw [hU]; exact hH, mx_K.moved hW'.alike hK⟩, mx_XN.warm hW' hS hU hN⟩⟩ rfl (by simpa using hn) hl.1 (by
    show (av.reverse ++ (.ref i :: st)).map (mx_tr G) = _
    rw [mx_stk]
    show _ ++ (mx_tr G (.ref i) :: st.map (mx_tr G)) = _
    rw [e1]) (lv_room (by rw [mx_cats]; exact hW)) hd ⟨show cells + 1 ≤ _ by omega, show slots + 6 ≤ _ by omega⟩
  intro T hT' XT
  rcases hr T hT' XT with ⟨v, st₀, t, T', Lc, -, -, -, -, -, hQ, -⟩ | ⟨q, st₀, t, T', Lc, E, ce, g0, X', hLc, f1, f2, ⟨rfl, ⟨n', hn1, hn2, hH'⟩, hF⟩, hce, hcv, hcl2, step⟩
  · exact hQ.elim
  · have hS' : va_S (mx_fr G) s.heap t.heap (locs ++ Lc) := by
      refine ⟨Nat.le_trans hS.1 (by rw [← g0]; exact hF.1), fun q h3 h4 => ?_, fun q hq => ?_⟩
      · rw [hF.2 q (by rw [g0]; exact Nat.lt_of_lt_of_le h3 hS.1) h4, g0]
        exact hS.2.1 q h3 h4
      · rcases List.mem_append.mp hq with h | h
        · exact hS.2.2 q h
        · exact hLc q h
    have key : ∀ ls', lv_has ls' M.2.2.2.1 ((k, Value.ref q) :: (mx_al G 0 L).filter (fun q => !(q.1 == k) && !(q.1 + 1 == k && q.2.category == 2))) → W p l en R s m args below meth c' t.heap (locs ++ Lc) (cells + 1) (slots + 6) (mx_QN G Post below args s R) (F0 m (hpc + len) ls' []) := by
      intro ls' hl'
      exact kk n' hn1 hn2 p en R s m args below meth c' t.heap (locs ++ Lc) (cells + 1) (slots + 6) ls' ⟨X.1, ⟨hR.1, hR.2.1, by omega, by omega⟩, hS', hb, hH', mx_has_mono hl' (fun x hx => List.mem_cons_of_mem _ (qx_s1f (by rw [hL']; exact hx)))⟩
    have hcat := qx_catch (p := p) (l := l) (e := en) (R := R) (below := below) (meth := meth) (locs := locs ++ Lc) (cells := cells + 1) (slots := slots + 6) (Q := mx_QN G Post below args s R) (pc := pc) (ls := ls) (rest := st.map (mx_tr G)) (own := RLaw) (name := xN) (hM ▸ hown) ⟨a0, b0, hpc, 13⟩ hT hcov (show (13 : Nat) ≠ 0 by decide) (hts _ w_xl) (va_Nw.use rfl hN.2.1) hce hcv hcl2 (by
      show W p l en R s m args below meth c' t.heap (locs ++ Lc) (cells + 1) (slots + 6) (mx_QN G Post below args s R) (F0 m hpc ls [.ref q])
      rcases hh with ⟨hh, hlen⟩ | ⟨k', hh, hk', hlen⟩
      · subst hlen; exact lv_astore hx hcc hh hl hk rfl (fun ls' hl' => key ls' hl')
      · subst hlen; exact lv_astore_n hx hcc hh hk' hl hk rfl (fun ls' hl' => key ls' hl'))
    obtain ⟨t2, a1, b1⟩ := hcat T' f1 X'
    exact ⟨t2, step.trans a1, b1⟩
abbrev ML_point : mM := (RLaw, yL_point, cL_point, 5, (some .int))
def TL_point : List (Nat × Instr × Nat) := [(0, .aload_n 3, 1), (1, .iconst 0, 1), (2, .aload_n 0, 1), (3, .iload_n 1, 1), (4, .iload_n 2, 1), (5, .invokevirtual 7, 3), (8, .i2l, 1), (9, .lastore, 1), (10, .goto 7, 3), (13, .astore 4, 2), (15, .iconst 1, 1), (16, .ireturn, 1), (17, .iconst 0, 1), (18, .ireturn, 1)]
theorem tL_point : ∀ q ∈ TL_point, decode cL_point q.1 = .ok (q.2.1, q.2.2) := by decide +kernel
theorem CL_point {G : mG} {l : Launch} {e : mE} {a o : Nat} {x0 x1 : Int32} {m : mB} {r : Int32} (h0 : ly11 e a) (ho : mx_is e o 101 1) (h : FX11_point a x0 x1 m = some r) : mx_CallW G l ML_point [(0, 10, 13, 13)] 9 1 6 [.ref a, .int x0, .int x1, .ref o] (e, m) (fun v z => v = some (.int 0) ∧ z = (e, m.1, mx_ul m.2 o 0 (Int32.toInt64 r))) := by
  refine qx_entryW (L := [.ref a, .int x0, .int x1, .ref o, .float 0]) (by decide +kernel) (Nat.le_of_ble_eq_true rfl) rfl (qx_ofFr ?_)
  refine mx_aload_n (mx_d tL_point 0 rfl) rfl rfl ?_
  refine mx_iconst (0) (mx_d tL_point 1 rfl) (by decide) ?_
  refine mx_aload_n (mx_d tL_point 2 rfl) rfl rfl ?_
  refine mx_iload_n (mx_d tL_point 3 rfl) rfl rfl ?_
  refine mx_iload_n (mx_d tL_point 4 rfl) rfl rfl ?_
  refine mx_callV (d' := 5) (kc' := 0) (ks' := 0) (av := [.int x0, .int x1]) (mx_d tL_point 5 rfl) iL_7 rfl vX11_point ⟨_, rfl, rfl⟩ (ly11_o h0) (CX11_point h0 h) (by decide) (Nat.zero_le _) (Nat.zero_le _) rfl rfl (Nat.le_of_ble_eq_true rfl) (fun v z' hp => ?_)
  obtain ⟨rfl, rfl⟩ := hp
  refine mx_i2l (mx_d tL_point 6 rfl) ?_
  refine mx_lastore (mx_d tL_point 7 rfl) ho (fun q => by rcases q with q | q <;> revert q <;> decide) ?_
  refine mx_goto (tgt := 17) (mx_d tL_point 8 rfl) (by decide) ?_
  refine mx_iconst (0) (mx_d tL_point 12 rfl) (by decide) ?_
  exact mx_ireturn (mx_d tL_point 13 rfl) rfl ⟨rfl, rfl⟩
theorem EL_point {G : mG} {l : Launch} {e : mE} {a o : Nat} {x0 x1 : Int32} {m : mB} (hl : l.stackTraces = false) (hcap : e.1 < 100000) (h0 : ly11 e a) {b : Int32} (h : FX4_hasPoint (a + 4) x0 m = some b) (hb : b = 0 ∨ x1 < 0 ∨ ¬ x1 ≤ 4) : mx_CallW G l ML_point [(0, 10, 13, 13)] 9 1 6 [.ref a, .int x0, .int x1, .ref o] (e, m) (fun v z => v = some (.int 1) ∧ ∃ n, e.1 ≤ n ∧ n ≤ e.1 + 1 ∧ z = (mx_ej e n, m)) := by
  refine qx_entryW (L := [.ref a, .int x0, .int x1, .ref o, .float 0]) (by decide +kernel) (Nat.le_of_ble_eq_true rfl) rfl ?_
  refine qx_aload_n (mx_d tL_point 0 rfl) rfl rfl ?_
  refine qx_iconst (0) (mx_d tL_point 1 rfl) (by decide) ?_
  refine qx_aload_n (mx_d tL_point 2 rfl) rfl rfl ?_
  refine qx_iload_n (mx_d tL_point 3 rfl) rfl rfl ?_
  refine qx_iload_n (mx_d tL_point 4 rfl) rfl rfl ?_
  refine qx_callVX (av := [.int x0, .int x1]) (L' := [.ref a, .int x0, .int x1, .ref o, .float 0]) (mx_d tL_point 5 rfl) iL_7 rfl vX11_point ⟨_, rfl, rfl⟩ (ly11_o h0) (DX11_point hl hcap h0 h hb) (by decide) (by decide) (by decide) rfl rfl (Nat.le_of_ble_eq_true rfl) (by decide) (k := 4) (by decide) rfl (Or.inl ⟨(mx_d tL_point 9 rfl), rfl⟩) (fun n' h1 h2 => ?_)
  refine mx_iconst (1) (mx_d tL_point 10 rfl) (by decide) ?_
  exact mx_ireturn (mx_d tL_point 11 rfl) rfl ⟨rfl, n', h1, h2, rfl⟩
abbrev ML_slack : mM := (RLaw, yL_slack, cL_slack, 4, (some .int))
def TL_slack : List (Nat × Instr × Nat) := [(0, .aload_n 2, 1), (1, .iconst 0, 1), (2, .aload_n 0, 1), (3, .iload_n 1, 1), (4, .invokevirtual 15, 3), (7, .i2l, 1), (8, .lastore, 1), (9, .goto 6, 3), (12, .astore_n 3, 1), (13, .iconst 1, 1), (14, .ireturn, 1), (15, .iconst 0, 1), (16, .ireturn, 1)]
theorem tL_slack : ∀ q ∈ TL_slack, decode cL_slack q.1 = .ok (q.2.1, q.2.2) := by decide +kernel
theorem CL_slack {G : mG} {l : Launch} {e : mE} {a o : Nat} {x0 : Int32} {m : mB} {r : Int32} (h0 : ly11 e a) (ho : mx_is e o 101 1) (h : FX11_slack a x0 m = some r) : mx_CallW G l ML_slack [(0, 9, 12, 13)] 9 1 6 [.ref a, .int x0, .ref o] (e, m) (fun v z => v = some (.int 0) ∧ z = (e, m.1, mx_ul m.2 o 0 (Int32.toInt64 r))) := by
  refine qx_entryW (L := [.ref a, .int x0, .ref o, .float 0]) (by decide +kernel) (Nat.le_of_ble_eq_true rfl) rfl (qx_ofFr ?_)
  refine mx_aload_n (mx_d tL_slack 0 rfl) rfl rfl ?_
  refine mx_iconst (0) (mx_d tL_slack 1 rfl) (by decide) ?_
  refine mx_aload_n (mx_d tL_slack 2 rfl) rfl rfl ?_
  refine mx_iload_n (mx_d tL_slack 3 rfl) rfl rfl ?_
  refine mx_callV (d' := 4) (kc' := 0) (ks' := 0) (av := [.int x0]) (mx_d tL_slack 4 rfl) iL_15 rfl vX11_slack ⟨_, rfl, rfl⟩ (ly11_o h0) (CX11_slack h0 h) (by decide) (Nat.zero_le _) (Nat.zero_le _) rfl rfl (Nat.le_of_ble_eq_true rfl) (fun v z' hp => ?_)
  obtain ⟨rfl, rfl⟩ := hp
  refine mx_i2l (mx_d tL_slack 5 rfl) ?_
  refine mx_lastore (mx_d tL_slack 6 rfl) ho (fun q => by rcases q with q | q <;> revert q <;> decide) ?_
  refine mx_goto (tgt := 15) (mx_d tL_slack 7 rfl) (by decide) ?_
  refine mx_iconst (0) (mx_d tL_slack 11 rfl) (by decide) ?_
  exact mx_ireturn (mx_d tL_slack 12 rfl) rfl ⟨rfl, rfl⟩
theorem EL_slack {G : mG} {l : Launch} {e : mE} {a o : Nat} {x0 : Int32} {m : mB} (hl : l.stackTraces = false) (hcap : e.1 < 100000) (h0 : ly11 e a) (h : FX4_hasLink (a + 4) x0 m = some 0) : mx_CallW G l ML_slack [(0, 9, 12, 13)] 9 1 6 [.ref a, .int x0, .ref o] (e, m) (fun v z => v = some (.int 1) ∧ ∃ n, e.1 ≤ n ∧ n ≤ e.1 + 1 ∧ z = (mx_ej e n, m)) := by
  refine qx_entryW (L := [.ref a, .int x0, .ref o, .float 0]) (by decide +kernel) (Nat.le_of_ble_eq_true rfl) rfl ?_
  refine qx_aload_n (mx_d tL_slack 0 rfl) rfl rfl ?_
  refine qx_iconst (0) (mx_d tL_slack 1 rfl) (by decide) ?_
  refine qx_aload_n (mx_d tL_slack 2 rfl) rfl rfl ?_
  refine qx_iload_n (mx_d tL_slack 3 rfl) rfl rfl ?_
  refine qx_callVX (av := [.int x0]) (L' := [.ref a, .int x0, .ref o, .float 0]) (mx_d tL_slack 4 rfl) iL_15 rfl vX11_slack ⟨_, rfl, rfl⟩ (ly11_o h0) (DX11_slack hl hcap h0 h) (by decide) (by decide) (by decide) rfl rfl (Nat.le_of_ble_eq_true rfl) (by decide) (k := 3) (by decide) rfl (Or.inr ⟨3, (mx_d tL_slack 8 rfl), rfl, rfl⟩) (fun n' h1 h2 => ?_)
  refine mx_iconst (1) (mx_d tL_slack 9 rfl) (by decide) ?_
  exact mx_ireturn (mx_d tL_slack 10 rfl) rfl ⟨rfl, n', h1, h2, rfl⟩
abbrev ML_proofBy : mM := (RLaw, yL_proofBy, cL_proofBy, 3, (some .int))
def TL_proofBy : List (Nat × Instr × Nat) := [(0, .aload_n 1, 1), (1, .iconst 0, 1), (2, .aload_n 0, 1), (3, .invokevirtual 19, 3), (6, .i2l, 1), (7, .lastore, 1), (8, .goto 6, 3), (11, .astore_n 2, 1), (12, .iconst 1, 1), (13, .ireturn, 1), (14, .iconst 0, 1), (15, .ireturn, 1)]
theorem tL_proofBy : ∀ q ∈ TL_proofBy, decode cL_proofBy q.1 = .ok (q.2.1, q.2.2) := by decide +kernel
theorem CL_proofBy {G : mG} {l : Launch} {e : mE} {a o : Nat} {m : mB} {r : Int32} (h0 : ly11 e a) (ho : mx_is e o 101 1) (h : FX11_proofBy a m = some r) : mx_CallW G l ML_proofBy [(0, 8, 11, 13)] 9 1 6 [.ref a, .ref o] (e, m) (fun v z => v = some (.int 0) ∧ z = (e, m.1, mx_ul m.2 o 0 (Int32.toInt64 r))) := by
  refine qx_entryW (L := [.ref a, .ref o, .float 0]) (by decide +kernel) (Nat.le_of_ble_eq_true rfl) rfl (qx_ofFr ?_)
  refine mx_aload_n (mx_d tL_proofBy 0 rfl) rfl rfl ?_
  refine mx_iconst (0) (mx_d tL_proofBy 1 rfl) (by decide) ?_
  refine mx_aload_n (mx_d tL_proofBy 2 rfl) rfl rfl ?_
  refine mx_callV (d' := 1) (kc' := 0) (ks' := 0) (av := []) (mx_d tL_proofBy 3 rfl) iL_19 rfl vX11_proofBy ⟨_, rfl, rfl⟩ (ly11_o h0) (CX11_proofBy h0 h) (by decide) (Nat.zero_le _) (Nat.zero_le _) rfl rfl (Nat.le_of_ble_eq_true rfl) (fun v z' hp => ?_)
  obtain ⟨rfl, rfl⟩ := hp
  refine mx_i2l (mx_d tL_proofBy 4 rfl) ?_
  refine mx_lastore (mx_d tL_proofBy 5 rfl) ho (fun q => by rcases q with q | q <;> revert q <;> decide) ?_
  refine mx_goto (tgt := 14) (mx_d tL_proofBy 6 rfl) (by decide) ?_
  refine mx_iconst (0) (mx_d tL_proofBy 10 rfl) (by decide) ?_
  exact mx_ireturn (mx_d tL_proofBy 11 rfl) rfl ⟨rfl, rfl⟩
theorem EL_proofBy {G : mG} {l : Launch} {e : mE} {a o : Nat} {m : mB} (hl : l.stackTraces = false) (hcap : e.1 < 100000) (h0 : ly11 e a) (h : m.1 a 16 = -1) : mx_CallW G l ML_proofBy [(0, 8, 11, 13)] 9 1 6 [.ref a, .ref o] (e, m) (fun v z => v = some (.int 1) ∧ ∃ n, e.1 ≤ n ∧ n ≤ e.1 + 1 ∧ z = (mx_ej e n, m)) := by
  refine qx_entryW (L := [.ref a, .ref o, .float 0]) (by decide +kernel) (Nat.le_of_ble_eq_true rfl) rfl ?_
  refine qx_aload_n (mx_d tL_proofBy 0 rfl) rfl rfl ?_
  refine qx_iconst (0) (mx_d tL_proofBy 1 rfl) (by decide) ?_
  refine qx_aload_n (mx_d tL_proofBy 2 rfl) rfl rfl ?_
  refine qx_callVX (av := []) (L' := [.ref a, .ref o, .float 0]) (mx_d tL_proofBy 3 rfl) iL_19 rfl vX11_proofBy ⟨_, rfl, rfl⟩ (ly11_o h0) (DX11_proofBy hl hcap h0 h) (by decide) (by decide) (by decide) rfl rfl (Nat.le_of_ble_eq_true rfl) (by decide) (k := 2) (by decide) rfl (Or.inr ⟨2, (mx_d tL_proofBy 7 rfl), rfl, rfl⟩) (fun n' h1 h2 => ?_)
  refine mx_iconst (1) (mx_d tL_proofBy 8 rfl) (by decide) ?_
  exact mx_ireturn (mx_d tL_proofBy 9 rfl) rfl ⟨rfl, n', h1, h2, rfl⟩
abbrev ML_mean : mM := (RLaw, yL_mean, cL_mean, 4, (some .int))
def TL_mean : List (Nat × Instr × Nat) := [(0, .aload_n 2, 1), (1, .iconst 0, 1), (2, .aload_n 0, 1), (3, .iload_n 1, 1), (4, .invokevirtual 23, 3), (7, .i2l, 1), (8, .lastore, 1), (9, .goto 6, 3), (12, .astore_n 3, 1), (13, .iconst 1, 1), (14, .ireturn, 1), (15, .iconst 0, 1), (16, .ireturn, 1)]
theorem tL_mean : ∀ q ∈ TL_mean, decode cL_mean q.1 = .ok (q.2.1, q.2.2) := by decide +kernel
theorem CL_mean {G : mG} {l : Launch} {e : mE} {a o : Nat} {x0 : Int32} {m : mB} {r : Int32} (h0 : ly11 e a) (ho : mx_is e o 101 1) (h : FX11_mean a x0 m = some r) : mx_CallW G l ML_mean [(0, 9, 12, 13)] 9 1 6 [.ref a, .int x0, .ref o] (e, m) (fun v z => v = some (.int 0) ∧ z = (e, m.1, mx_ul m.2 o 0 (Int32.toInt64 r))) := by
  refine qx_entryW (L := [.ref a, .int x0, .ref o, .float 0]) (by decide +kernel) (Nat.le_of_ble_eq_true rfl) rfl (qx_ofFr ?_)
  refine mx_aload_n (mx_d tL_mean 0 rfl) rfl rfl ?_
  refine mx_iconst (0) (mx_d tL_mean 1 rfl) (by decide) ?_
  refine mx_aload_n (mx_d tL_mean 2 rfl) rfl rfl ?_
  refine mx_iload_n (mx_d tL_mean 3 rfl) rfl rfl ?_
  refine mx_callV (d' := 5) (kc' := 0) (ks' := 0) (av := [.int x0]) (mx_d tL_mean 4 rfl) iL_23 rfl vX11_mean ⟨_, rfl, rfl⟩ (ly11_o h0) (CX11_mean h0 h) (by decide) (Nat.zero_le _) (Nat.zero_le _) rfl rfl (Nat.le_of_ble_eq_true rfl) (fun v z' hp => ?_)
  obtain ⟨rfl, rfl⟩ := hp
  refine mx_i2l (mx_d tL_mean 5 rfl) ?_
  refine mx_lastore (mx_d tL_mean 6 rfl) ho (fun q => by rcases q with q | q <;> revert q <;> decide) ?_
  refine mx_goto (tgt := 15) (mx_d tL_mean 7 rfl) (by decide) ?_
  refine mx_iconst (0) (mx_d tL_mean 11 rfl) (by decide) ?_
  exact mx_ireturn (mx_d tL_mean 12 rfl) rfl ⟨rfl, rfl⟩
theorem EL_mean {G : mG} {l : Launch} {e : mE} {a o : Nat} {x0 : Int32} {m : mB} (hl : l.stackTraces = false) (hcap : e.1 < 100000) (h0 : ly11 e a) {b : Int32} (h : FX4_pairs (a + 4) m = some b) (hb : b < 1 ∨ x0 < 0 ∨ ¬ x0 ≤ 1) : mx_CallW G l ML_mean [(0, 9, 12, 13)] 9 1 6 [.ref a, .int x0, .ref o] (e, m) (fun v z => v = some (.int 1) ∧ ∃ n, e.1 ≤ n ∧ n ≤ e.1 + 1 ∧ z = (mx_ej e n, m)) := by
  refine qx_entryW (L := [.ref a, .int x0, .ref o, .float 0]) (by decide +kernel) (Nat.le_of_ble_eq_true rfl) rfl ?_
  refine qx_aload_n (mx_d tL_mean 0 rfl) rfl rfl ?_
  refine qx_iconst (0) (mx_d tL_mean 1 rfl) (by decide) ?_
  refine qx_aload_n (mx_d tL_mean 2 rfl) rfl rfl ?_
  refine qx_iload_n (mx_d tL_mean 3 rfl) rfl rfl ?_
  refine qx_callVX (av := [.int x0]) (L' := [.ref a, .int x0, .ref o, .float 0]) (mx_d tL_mean 4 rfl) iL_23 rfl vX11_mean ⟨_, rfl, rfl⟩ (ly11_o h0) (DX11_mean hl hcap h0 h hb) (by decide) (by decide) (by decide) rfl rfl (Nat.le_of_ble_eq_true rfl) (by decide) (k := 3) (by decide) rfl (Or.inr ⟨3, (mx_d tL_mean 8 rfl), rfl, rfl⟩) (fun n' h1 h2 => ?_)
  refine mx_iconst (1) (mx_d tL_mean 9 rfl) (by decide) ?_
  exact mx_ireturn (mx_d tL_mean 10 rfl) rfl ⟨rfl, n', h1, h2, rfl⟩
/-- the words of a static callee with a table -/
def mx_invW (own : String) (idx : Nat) (M : mM) (hh : List (Nat × Nat × Nat × Nat)) (n : Nat) : Prop := Cond.methodLink own idx M.2.1 ∈ mx_TB ∧ Cond.codeWith M.2.1 M.2.2.1 M.2.2.2.1 M.2.2.2.2 hh ∈ mx_TB ∧ Cond.initialized M.2.1.cls ∈ mx_TB ∧ (M.2.1.cls ≠ "java/lang/invoke/MethodHandle" ∧ M.2.1.cls ≠ "java/lang/invoke/VarHandle") ∧ (parseMethodDescriptor M.2.1.desc).map (fun d => d.parameters.length) = some n ∧ M.2.2.2.1 ≤ 40 ∧ Cond.static M.2.1 ∈ mx_TB
theorem px_callSW {Y : State → Prop} {G : mG} {l : Launch} {M : mM} {d kc ks pc : Nat} {Post : Option Value → mS → Prop} {L st : List Value} {own : String} {idx n d' kc' ks' : Nat} {M' : mM} {hh : List (Nat × Nat × Nat × Nat)} {av st0 : List Value} {z : mS} {Post' : Option Value → mS → Prop} (hd : decode M.2.2.1 pc = .ok (.invokestatic idx, 3)) (hi : mx_invW own idx M' hh n) (hM : M.1 = own) (hYN : ∀ s, Y s → mx_XN G s)
    (hc : mx_CallW G l M' hh d' kc' ks' av z Post') (hd' : d' < d) (h1 : kc' ≤ kc) (h2 : ks' ≤ ks) (hst : st0 = av.reverse ++ st) (hn : av.length = n) (hW : (st.map fun v => v.category).sum ≤ 8)
    (kk : ∀ v z', Post' v z' → mx_FP Y G l M d (kc - kc') (ks - ks') Post (pc + 3) L (v.toList ++ st) z') : mx_FP Y G l M d kc ks Post pc L st0 z := by
  intro p en R s m args below meth c' H locs cells slots ls X hY
  obtain ⟨⟨hx, hcc, hml, hrt, hlk, hown, hnm, hts, hK⟩, hR, hS, hb, hH, hl⟩ := id X
  obtain ⟨w1, w2, w3, w4, w5, w6, w7⟩ := hi
  subst hst
  have hG : GoodIn mx_TB (mx_wsW M' hh) := fun w hw => by
    rcases List.mem_cons.mp hw with rfl | hw
    · exact mx_TBg _ w2
    · exact mx_TBg _ hw
  have cw : vx_CSW R s args own idx M'.2.1 M'.2.2.1 M'.2.2.2.1 M'.2.2.2.2 hh (mx_wsW M' hh) (mx_rm d' kc' ks') kc' ks' n := by
    refine ⟨⟨rfl, rfl, by show d' + 1 ≤ _; omega, by show 8 + (M'.2.2.2.1 + 11) + 60 * d' ≤ _; omega, pay_in hts hG, List.mem_cons_self⟩, hts _ w2, hts _ w3, w4, fun sig h => ?_, hts _ w1, hts _ w7⟩
    rw [h] at w5
    exact (Option.some.inj w5).symm
  exact px_cont X hY h1 h2 (va_Run.run (vx_runSW (As := av.map (mx_tr G)) (rest := st.map (mx_tr G)) (g := F0 m pc ls _) ⟨hx, hcc, hml, hM ▸ hown, hts⟩ hc cw ⟨mx_blindX, fun U hU hW' => ⟨⟨rfl, by rw [hU]; exact hH, mx_K.moved hW'.alike hK⟩, mx_XN.warm hW' hS hU (hYN s hY)⟩⟩ rfl (by simpa using hn) hl.1 mx_stk (lv_room (by rw [mx_cats]; exact hW)) hd ⟨by omega, by omega⟩)) kk
