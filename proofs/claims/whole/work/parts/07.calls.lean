section MC
variable {G : mG} {l : Launch} {M : mM} {d kc ks : Nat} {Post : Option Value → mS → Prop} {pc : Nat} {L st : List Value} {e : mE} {mi : mI} {mj : mJ}
/-- a field that is not final -/
def mx_nf (c k : Nat) : Prop := ∃ r : vw_C, vwCl[c]? = some r ∧ (r.2.1 k).2.2.2 = false
theorem mx_put {own : String} {idx c k i n : Nat} {v : Value} {mi' : mI} {mj' : mJ} (hd : decode M.2.2.1 pc = .ok (.putfield idx, 3)) (hf : mx_fld own idx c k) (hM : M.1 = own) (hnf : mx_nf c k) (ho : mx_is e i c n)
    (hn : narrow (mx_ty c k) (mx_tr G v) = mx_tr G v) (hfit : fits (mx_ty c k) (mx_tr G v) = true)
    (hsame : ∀ j, j ≠ i → (∀ k, mi' j k = mi j k) ∧ (∀ k, mj' j k = mj j k)) (hV : ∀ j, updV (fun q => mx_fv G (e, mi, mj) (mx_ty c q) i q) k (mx_tr G v) j = mx_fv G (e, mi', mj') (mx_ty c j) i j)
    (kk : mx_Fr G l M d kc ks Post (pc + 3) L st (e, mi', mj')) : mx_Fr G l M d kc ks Post pc L (v :: .ref i :: st) (e, mi, mj) := by
  intro p en R s m args below meth c' H locs cells slots ls X
  obtain ⟨⟨hx, hcc, hml, hrt, hlk, hown, hnm, hts, hK⟩, hR, hS, hb, hH, hl⟩ := id X
  have hc13 := mx_fld_c hf
  obtain ⟨C, T, N, hcl, hk, hlink, hT1, hlay, hty, hnn⟩ := hf
  obtain ⟨r0, hr0, hfin⟩ := hnf
  have : r0 = (C, T, N) := Option.some.inj (hr0.symm.trans hcl)
  subst this
  obtain ⟨r, h1, cell, q1, q2, q3, q4⟩ := mx_cellO ho hc13 hH
  have hr : r = (C, T, N) := Option.some.inj (h1.symm.trans hcl)
  subst hr
  have hap := va_apart (own := own) hts hlay (mx_ty c) hty hnn hK hcl
  obtain ⟨hSl, hfc, kC, hkC, hkind⟩ := hK.1 c _ hcl
  obtain ⟨cf, kf, fi, f, hi, hsl⟩ := hSl k hk
  have hlay1 := hts _ (hlay _ (u_in_lay (C := C) hk))
  unfold u_lay at hlay1
  rw [if_neg (by rw [hfin]; decide)] at hlay1
  have hst := (u_facts hfc hkC (u_lays (T := T) (N := N) hts hlay hk) hi).1
  have h6 := u_store hfc hkC hkind hlay1 hi (hty k hk) hn hfit
  have e1 : (mx_tr G (.ref i)) = .ref (G.1 + i) := by show Value.ref (mx_ad G i) = _; rw [mx_isl ho hH]
  show W p l en R s m args below meth c' H locs cells slots _ (F0 m pc ls (mx_tr G v :: mx_tr G (.ref i) :: st.map (mx_tr G)))
  rw [e1]
  refine W.putK hx hcc (f := f) ⟨hM ▸ hown, hts _ hlink, ⟨_, _, _, hT1 ▸ hi⟩, hst⟩ (by rw [q2]; exact h6) q1 q3 (by rw [hsl]; exact k2_hasslot (q4 k hk)) rfl rfl hd fun H1 w1 w2 w3 => ?_
  rw [hsl] at w1
  refine kk p en R s m args below meth c' H1 _ cells slots ls ⟨X.1, hR, mx_S_put hS w2 w3, hb, ?_, hl⟩
  refine mx_H_one (i := i) hH w2 w3 rfl hsame (fun _ => ?_)
  unfold mx_cell
  dsimp only
  rw [ho.2]
  simp only [show ¬ c = 100 by omega, show ¬ c = 101 by omega, show ¬ c = 102 by omega, show ¬ c = 103 by omega, show ¬ c = 104 by omega, show ¬ c = 999 by omega, if_false]
  exact ⟨(C, T, N), hcl, t_OB.to (V := updV (fun q => mx_fv G (e, mi, mj) (mx_ty c q) i q) k (mx_tr G v)) ⟨_, w1, q2, q3, t_set q4 hap hk _⟩ (fun j _ => hV j)⟩
theorem mx_putI {own : String} {idx c k i n : Nat} {x : Int32} (hd : decode M.2.2.1 pc = .ok (.putfield idx, 3)) (hf : mx_fld own idx c k) (hM : M.1 = own) (hnf : mx_nf c k) (ht : mx_ty c k = .int) (ho : mx_is e i c n)
    (kk : mx_Fr G l M d kc ks Post (pc + 3) L st (e, mx_up mi i k x, mj)) : mx_Fr G l M d kc ks Post pc L (.int x :: .ref i :: st) (e, mi, mj) := by
  refine mx_put hd hf hM hnf ho (by rw [ht]; rfl) (by rw [ht]; rfl) (fun j hj => ⟨fun q => mx_up_ne _ _ (fun w => absurd w hj), fun q => rfl⟩) (fun j => ?_) kk
  unfold updV
  by_cases hj : j = k
  · subst hj
    rw [if_pos rfl, ht]
    show _ = Value.int (mx_up mi i j x i j)
    rw [mx_up_self]; rfl
  · rw [if_neg hj]
    unfold mx_fv
    dsimp only
    rw [mx_up_ne _ _ (fun _ => hj)]
theorem mx_putZ {own : String} {idx c k i n : Nat} {x : Int32} (hd : decode M.2.2.1 pc = .ok (.putfield idx, 3)) (hf : mx_fld own idx c k) (hM : M.1 = own) (hnf : mx_nf c k) (ht : mx_ty c k = .boolean) (hx : x = 0 ∨ x = 1) (ho : mx_is e i c n)
    (kk : mx_Fr G l M d kc ks Post (pc + 3) L st (e, mx_up mi i k x, mj)) : mx_Fr G l M d kc ks Post pc L (.int x :: .ref i :: st) (e, mi, mj) := by
  refine mx_put hd hf hM hnf ho (by rw [ht]; rcases hx with rfl | rfl <;> rfl) (by rw [ht]; rcases hx with rfl | rfl <;> rfl) (fun j hj => ⟨fun q => mx_up_ne _ _ (fun w => absurd w hj), fun q => rfl⟩) (fun j => ?_) kk
  unfold updV
  by_cases hj : j = k
  · subst hj
    rw [if_pos rfl, ht]
    show _ = Value.int (mx_up mi i j x i j)
    rw [mx_up_self]; rfl
  · rw [if_neg hj]
    unfold mx_fv
    dsimp only
    rw [mx_up_ne _ _ (fun _ => hj)]
theorem mx_putJ {own : String} {idx c k i n : Nat} {x : Int64} (hd : decode M.2.2.1 pc = .ok (.putfield idx, 3)) (hf : mx_fld own idx c k) (hM : M.1 = own) (hnf : mx_nf c k) (ht : mx_ty c k = .long) (ho : mx_is e i c n)
    (kk : mx_Fr G l M d kc ks Post (pc + 3) L st (e, mi, mx_ul mj i k x)) : mx_Fr G l M d kc ks Post pc L (.long x :: .ref i :: st) (e, mi, mj) := by
  refine mx_put hd hf hM hnf ho (by rw [ht]; rfl) (by rw [ht]; rfl) (fun j hj => ⟨fun q => rfl, fun q => by show mx_ul mj i k x j q = _; unfold mx_ul; rw [if_neg (fun w => hj w.1)]⟩) (fun j => ?_) kk
  unfold updV
  by_cases hj : j = k
  · subst hj
    rw [if_pos rfl, ht]
    show _ = Value.long (mx_ul mj i j x i j)
    simp [mx_ul, mx_tr]
  · rw [if_neg hj]
    unfold mx_fv
    dsimp only
    simp [mx_ul, hj]
/-- the words of a callee -/
def mx_inv (own : String) (idx : Nat) (M : mM) (n : Nat) : Prop := Cond.methodLink own idx M.2.1 ∈ mx_TB ∧ Cond.code M.2.1 M.2.2.1 M.2.2.2.1 M.2.2.2.2 ∈ mx_TB ∧ Cond.initialized M.2.1.cls ∈ mx_TB ∧ (M.2.1.cls ≠ "java/lang/invoke/MethodHandle" ∧ M.2.1.cls ≠ "java/lang/invoke/VarHandle") ∧ (parseMethodDescriptor M.2.1.desc).map (fun d => d.parameters.length) = some n ∧ M.2.2.2.1 ≤ 40
theorem mx_wsg {M : mM} (h : Cond.code M.2.1 M.2.2.1 M.2.2.2.1 M.2.2.2.2 ∈ mx_TB) : GoodIn mx_TB (mx_ws M) := fun w hw => by
  rcases List.mem_cons.mp hw with rfl | hw
  · exact mx_TBg _ h
  · exact mx_TBg _ hw
theorem mx_callB {own : String} {idx n d d' k' s' : Nat} {M' : mM} {R : Room} {s : State} {args : Array Value} (hi : mx_inv own idx M' n) (hts : ∀ w ∈ mx_TB, w.before args s = true) (hd : d' < d) (h1 : d ≤ R.frames) (h2 : 60 * d ≤ R.locals) :
    CallB R s args own idx M'.2.1 M'.2.2.1 M'.2.2.2.1 M'.2.2.2.2 (mx_ws M') (mx_rm d' k' s') k' s' n := by
  obtain ⟨hl, hc, hin, hy, hp, hm⟩ := hi
  refine callB_of n hts (mx_wsg hc) rfl rfl rfl (hts _ hin) (hts _ hl) ⟨hy.1, hy.2, hp⟩ ⟨?_, ?_⟩
  · show d' + 1 ≤ _; omega
  · show 8 + (M'.2.2.2.1 + 11) + 60 * d' ≤ _; omega
/-- behind a call -/
theorem mx_cont {p : Program} {en : Env} {R : Room} {s : State} {m : MethodId} {args : Array Value} {below : List Frame} {meth : Method} {c : Code} {H : Heap} {locs : List Loc} {cells slots : Nat} {ls : Array Slot} {z : mS} {kc' ks' : Nat} {st0 : List Value} {a : Array Value} {Post' : Option Value → mS → Prop}
    (X : mx_X G M d kc ks L z p R s m args meth c H locs cells slots ls) (h1 : kc' ≤ kc) (h2 : ks' ≤ ks)
    (hr : CallRun p l en R s m args below meth c H locs cells slots kc' ks' (F0 m pc ls st0) (st.map (mx_tr G)) (mx_Q G Post' a) (mx_fr G))
    (kk : ∀ v z', Post' v z' → mx_Fr G l M d (kc - kc') (ks - ks') Post (pc + 3) L (v.toList ++ st) z') :
    W p l en R s m args below meth c H locs cells slots (MQ below (mx_Q G Post) args s R.cells R.slots (mx_fr G)) (F0 m pc ls st0) := by
  obtain ⟨hC, hR, hS, hb, hH, hl⟩ := X
  intro T hT XT
  obtain ⟨v, st₀, t, T', Lc, h0, X', hL, e1, ⟨⟨v', z', hv, hp, hH'⟩, hF⟩, step⟩ := hr T hT XT
  have hv' : v = v'.map (mx_tr G) := Outcome.returned.inj hv
  subst hv'
  have hS' : va_S (mx_fr G) s.heap t.heap (locs ++ Lc) := by
    refine ⟨Nat.le_trans hS.1 (by rw [← h0]; exact hF.1), fun q h3 h4 => ?_, fun q hq => ?_⟩
    · rw [hF.2 q (by rw [h0]; exact Nat.lt_of_lt_of_le h3 hS.1) h4, h0]
      exact hS.2.1 q h3 h4
    · rcases List.mem_append.mp hq with h | h
      · exact hS.2.2 q h
      · exact hL q h
  obtain ⟨t2, a1, b1⟩ := kk v' z' hp p en R s m args below meth c t.heap (locs ++ Lc) (cells + kc') (slots + ks') ls ⟨hC, ⟨hR.1, hR.2.1, by omega, by omega⟩, hS', hb, hH', hl⟩ T' e1 X'
  refine ⟨t2, step t2 ?_, b1⟩
  have e2 : (v'.toList ++ st).map (mx_tr G) = (v'.map (mx_tr G)).toList ++ st.map (mx_tr G) := by cases v' <;> rfl
  rw [e2] at a1
  exact a1
theorem mx_cats (st : List Value) : ((st.map (mx_tr G)).map fun v => v.category) = st.map fun v => v.category := by
  rw [List.map_map]
  congr 1
  funext v
  exact mx_tr_cat G v
theorem mx_stk {av : List Value} : (av.reverse ++ st).map (mx_tr G) = (av.map (mx_tr G)).reverse ++ st.map (mx_tr G) := by simp
theorem mx_callV {own : String} {idx n d' kc' ks' c0 n0 i : Nat} {M' : mM} {av st0 : List Value} {Post' : Option Value → mS → Prop} (hd : decode M.2.2.1 pc = .ok (.invokevirtual idx, 3)) (hi : mx_inv own idx M' n) (hM : M.1 = own)
    (hV : Cond.instanceMethod M'.2.1 ∈ mx_TB ∧ Cond.selects M'.2.1.cls M'.2.1 M'.2.1 ∈ mx_TB) (hcl : ∃ r : vw_C, vwCl[c0]? = some r ∧ r.1 = M'.2.1.cls) (ho : mx_is e i c0 n0)
    (hc : mx_Call G l M' d' kc' ks' (.ref i :: av) (e, mi, mj) Post') (hd' : d' < d) (h1 : kc' ≤ kc) (h2 : ks' ≤ ks) (hst : st0 = av.reverse ++ (.ref i :: st)) (hn : av.length = n) (hW : (st.map fun v => v.category).sum ≤ 8)
    (kk : ∀ v z', Post' v z' → mx_Fr G l M d (kc - kc') (ks - ks') Post (pc + 3) L (v.toList ++ st) z') : mx_Fr G l M d kc ks Post pc L st0 (e, mi, mj) := by
  intro p en R s m args below meth c' H locs cells slots ls X
  obtain ⟨⟨hx, hcc, hml, hrt, hlk, hown, hnm, hts, hK⟩, hR, hS, hb, hH, hl⟩ := id X
  obtain ⟨r, hr, hrc⟩ := hcl
  have hc13 : c0 < 13 := (List.getElem?_eq_some_iff.mp hr).1
  have hrecv : ∃ cell : Cell, H[G.1 + i]? = some cell ∧ cell.vm.isStatics = false ∧ s.vm.findClass M'.2.1.cls = some cell.cls := by
    obtain ⟨r', h1', cell, q1, q2, q3, q4⟩ := mx_cellO ho hc13 hH
    exact ⟨cell, q1, by rw [q3]; rfl, by rw [q2, ← hrc]; exact (hK.1 c0 _ hr).2.1⟩
  have e1 : (mx_tr G (.ref i)) = .ref (G.1 + i) := by show Value.ref (mx_ad G i) = _; rw [mx_isl ho hH]
  subst hst
  refine mx_cont X h1 h2 (W.runV (C := M'.2.1.cls) (b := G.1 + i) (As := av.map (mx_tr G)) (rest := st.map (mx_tr G)) (g := F0 m pc ls _) ⟨hx, hcc, hml, hM ▸ hown, hts⟩ hc ⟨mx_callB hi hts hd' hR.1 hR.2.1, hts _ hV.1, hts _ hV.2⟩ ⟨mx_blind, hrecv, fun U hU hW' => ⟨?_, by rw [hU]; exact hH, mx_K.moved hW'.alike hK⟩⟩ rfl (by simpa using hn) hl.1 ?_ (lv_room (by rw [mx_cats]; exact hW)) hd ⟨by omega, by omega⟩) kk
  · show _ = ((mx_tr G (.ref i)) :: av.map (mx_tr G)).toArray
    rw [e1]
  · show (av.reverse ++ (.ref i :: st)).map (mx_tr G) = _
    rw [mx_stk]
    show _ ++ (mx_tr G (.ref i) :: st.map (mx_tr G)) = _
    rw [e1]
theorem mx_callS {own : String} {idx n d' kc' ks' : Nat} {M' : mM} {av st0 : List Value} {z : mS} {Post' : Option Value → mS → Prop} (hd : decode M.2.2.1 pc = .ok (.invokestatic idx, 3)) (hi : mx_inv own idx M' n) (hM : M.1 = own)
    (hV : Cond.static M'.2.1 ∈ mx_TB) (hc : mx_Call G l M' d' kc' ks' av z Post') (hd' : d' < d) (h1 : kc' ≤ kc) (h2 : ks' ≤ ks) (hst : st0 = av.reverse ++ st) (hn : av.length = n) (hW : (st.map fun v => v.category).sum ≤ 8)
    (kk : ∀ v z', Post' v z' → mx_Fr G l M d (kc - kc') (ks - ks') Post (pc + 3) L (v.toList ++ st) z') : mx_Fr G l M d kc ks Post pc L st0 z := by
  intro p en R s m args below meth c' H locs cells slots ls X
  obtain ⟨⟨hx, hcc, hml, hrt, hlk, hown, hnm, hts, hK⟩, hR, hS, hb, hH, hl⟩ := id X
  subst hst
  exact mx_cont X h1 h2 (W.runS (As := av.map (mx_tr G)) (rest := st.map (mx_tr G)) (g := F0 m pc ls _) ⟨hx, hcc, hml, hM ▸ hown, hts⟩ hc ⟨mx_callB hi hts hd' hR.1 hR.2.1, hts _ hV⟩ ⟨mx_blind, fun U hU hW' => ⟨rfl, by rw [hU]; exact hH, mx_K.moved hW'.alike hK⟩⟩ rfl (by simpa using hn) hl.1 mx_stk (lv_room (by rw [mx_cats]; exact hW)) hd ⟨by omega, by omega⟩) kk
/-- less depth, less room, a weaker end -/
theorem mx_Call.post {d' : Nat} {av : List Value} {z : mS} {P' : Option Value → mS → Prop} (h : mx_Call G l M d kc ks av z Post) (hp : ∀ v z', Post v z' → P' v z') : mx_Call G l M d kc ks av z P' := by
  intro p e ha hcr hk s m args below hf hap hP hK
  obtain ⟨t, o, h1, h2, h3, ⟨⟨v, z', hv, hq, hH⟩, hF⟩, h5⟩ := h p e ha hcr hk s m args below hf hap hP hK
  exact ⟨t, o, h1, h2, h3, ⟨⟨v, z', hv, hp v z' hq, hH⟩, hF⟩, h5⟩
end MC
