/-! ===== frames with a word on code and state; what throws, what catches ===== -/
def xN : String := "java/util/NoSuchElementException"
def xnm : List String := ["java/lang/RuntimeException", "java/lang/Exception"]
def xds : List MethodName := [Bundle.init0 "java/lang/RuntimeException", Bundle.init0 "java/lang/Exception", Bundle.init0 Bundle.tN]
/-- what must hold where an exception is made -/
def mx_XN (G : mG) (U : State) : Prop := (∀ x ∈ xds, va_Nw (.declares x) U) ∧ va_Nw (.castable xN xN) U ∧ vx_Zq Bundle.tN "UNASSIGNED_STACK" Bundle.steD (mx_fr G) U U.heap ∧ vx_Zq Bundle.tN "SUPPRESSED_SENTINEL" Bundle.listD (mx_fr G) U U.heap
theorem mx_XN.warm {G : mG} {s U : State} {H : Heap} {locs : List Loc} (hW : s.WarmedH U.vm) (hS : va_S (mx_fr G) s.heap H locs) (hU : U.heap = H) (h : mx_XN G s) : mx_XN G U := by
  subst hU
  exact ⟨fun x hx => va_Nw.warmD hW (h.1 x hx), va_Nw.warmC hW h.2.1, (h.2.2.1.kept hS.2.1).moved hW.alike, (h.2.2.2.kept hS.2.1).moved hW.alike⟩
theorem mx_XN.same {G : mG} {s U : State} (hv : s.vm = U.vm) (hh : U.heap = s.heap) (h : mx_XN G s) : mx_XN G U := by
  have hA : s.vm.Alike U.vm := hv ▸ Vm.Alike.refl s.vm
  refine ⟨fun x hx => va_Nw.same rfl hv (h.1 x hx), va_Nw.same rfl hv h.2.1, ?_, ?_⟩ <;> rw [hh]
  · exact h.2.2.1.moved hA
  · exact h.2.2.2.moved hA
def mx_PcX (G : mG) (av : List Value) (z : mS) : Array Value → State → Prop := fun a U => mx_Pc G av z a U ∧ mx_XN G U
theorem mx_blindX {G : mG} {av : List Value} {z : mS} : FrameBlind (mx_PcX G av z) := fun a U g mk q => ⟨mx_blind a U g mk q.1, mx_XN.same (s := U) rfl rfl q.2⟩
/-- more cells, of which nothing is known -/
def mx_ej (e : mE) (n : Nat) : mE := (n, fun i => if i < e.1 then e.2.1 i else (999, 0), e.2.2)
theorem mx_H_ej {G : mG} {e : mE} {mi : mI} {mj : mJ} {H H1 : Heap} {n : Nat} (hH : mx_H G (e, mi, mj) H) (hz : H1.size = G.1 + n) (hn : n ≤ 100000) (hen : e.1 ≤ n) (ho : ∀ q, q < H.size → H1[q]? = H[q]?) : mx_H G (mx_ej e n, mi, mj) H1 := by
  refine ⟨hz, hn, fun i hi => ?_⟩
  by_cases q : i < e.1
  · refine mx_cell_same (hH.2.2 i q) (ho _ (by rw [hH.1]; show G.1 + i < G.1 + e.1; omega)) (if_pos q) (fun _ => rfl) (fun _ => rfl) (fun _ => rfl)
  · unfold mx_cell
    have e1 : (mx_ej e n, mi, mj).1.2.1 i = (999, 0) := if_neg q
    rw [e1]
    simp
def mx_XC (G : mG) (z : mS) : String → State → State → Prop := fun E st t => E = xN ∧ (∃ n, z.1.1 ≤ n ∧ n ≤ z.1.1 + 1 ∧ mx_H G (mx_ej z.1 n, z.2) t.heap) ∧ va_F (mx_fr G) st t
/-- a call that throws -/
def mx_CallX (G : mG) (l : Launch) (M : mM) (d kc ks : Nat) (av : List Value) (z : mS) : Prop := vx_Met l M.2.1 (mx_ws M) (mx_rm d kc ks) (mx_PcX G av z) (fun _ _ _ _ => False) (mx_XC G z) kc ks (mx_fr G)
def mx_FC (Y : Code → State → Prop) (QQ : List Frame → Array Value → State → Room → State → Prop) (G : mG) (l : Launch) (M : mM) (d kc ks : Nat) (pc : Nat) (L st : List Value) (z : mS) : Prop :=
  ∀ (p : Program) (e : Env) (R : Room) (s : State) (m : MethodId) (args : Array Value) (below : List Frame) (meth : Method) (c : Code) (H : Heap) (locs : List Loc) (cells slots : Nat) (ls : Array Slot),
    mx_X G M d kc ks L z p R s m args meth c H locs cells slots ls → Y c s →
    W p l e R s m args below meth c H locs cells slots (QQ below args s R) (F0 m pc ls (st.map (mx_tr G)))
section QMX
variable {Y : Code → State → Prop} {QQ : List Frame → Array Value → State → Room → State → Prop} {G : mG} {l : Launch} {M : mM} {d kc ks : Nat} {pc : Nat} {L st : List Value} {z : mS}
theorem qx_iconst {n : Int} (v : Int32) (hd : decode M.2.2.1 pc = .ok (.iconst n, 1)) (hv : Int32.ofInt n = v) (kk : mx_FC Y QQ G l M d kc ks (pc + 1) L (.int v :: st) z) : mx_FC Y QQ G l M d kc ks pc L st z := by
  intro p e R s m args below meth c H locs cells slots ls X hY
  obtain ⟨⟨hx, hcc, hml, hrt, hlk, hown, hnm, hts, hK⟩, hR, hS, hb, hH, hl⟩ := id X
  exact lv_iconst hx hcc hd hv (kk p e R s m args below meth c H locs cells slots ls X hY)
theorem qx_iload_n {k : Fin 4} {i : Nat} {x : Int32} (hd : decode M.2.2.1 pc = .ok (.iload_n k, 1)) (hi : (k : Nat) = i) (hv : L[i]? = some (.int x)) (kk : mx_FC Y QQ G l M d kc ks (pc + 1) L (.int x :: st) z) : mx_FC Y QQ G l M d kc ks pc L st z := by
  intro p e R s m args below meth c H locs cells slots ls X hY
  obtain ⟨⟨hx, hcc, hml, hrt, hlk, hown, hnm, hts, hK⟩, hR, hS, hb, hH, hl⟩ := id X
  exact lv_iload_n hx hcc hd hi (mx_at hl hv (fun f q => by cases q)) (kk p e R s m args below meth c H locs cells slots ls X hY)
theorem qx_aload_n {k : Fin 4} {i : Nat} {x : Nat} (hd : decode M.2.2.1 pc = .ok (.aload_n k, 1)) (hi : (k : Nat) = i) (hv : L[i]? = some (.ref x)) (kk : mx_FC Y QQ G l M d kc ks (pc + 1) L (.ref x :: st) z) : mx_FC Y QQ G l M d kc ks pc L st z := by
  intro p e R s m args below meth c H locs cells slots ls X hY
  obtain ⟨⟨hx, hcc, hml, hrt, hlk, hown, hnm, hts, hK⟩, hR, hS, hb, hH, hl⟩ := id X
  exact lv_aload_n hx hcc hd hi (mx_at hl hv (fun f q => by cases q)) (kk p e R s m args below meth c H locs cells slots ls X hY)
theorem qx_istore_n {k : Fin 4} {i : Nat} {x : Int32} {L2 : List Value} (hd : decode M.2.2.1 pc = .ok (.istore_n k, 1)) (hi : (k : Nat) = i) (hn : i < M.2.2.2.1) (hL : mx_s1 L i (.int x) = L2) (kk : mx_FC Y QQ G l M d kc ks (pc + 1) L2 st z) : mx_FC Y QQ G l M d kc ks pc L (.int x :: st) z := by
  intro p e R s m args below meth c H locs cells slots ls X hY
  obtain ⟨⟨hx, hcc, hml, hrt, hlk, hown, hnm, hts, hK⟩, hR, hS, hb, hH, hl⟩ := id X
  exact lv_istore_n hx hcc hd hi hl hn rfl (fun ls2 hl2 => kk p e R s m args below meth c H locs cells slots ls2 ⟨X.1, hR, hS, hb, hH, hL ▸ mx_has_mono hl2 (fun q hq => mx_s1_in (v := .int x) hq)⟩ hY)
theorem qx_if_eq {x : Int32} {off : Int} {tgt : Nat} (hd : decode M.2.2.1 pc = .ok (.ifCond .eq off, 3)) (ht : (pc : Int) + off = (tgt : Int)) (kt : x = 0 → mx_FC Y QQ G l M d kc ks tgt L st z) (kf : ¬ x = 0 → mx_FC Y QQ G l M d kc ks (pc + 3) L st z) : mx_FC Y QQ G l M d kc ks pc L (.int x :: st) z := by
  intro p e R s m args below meth c H locs cells slots ls X hY
  obtain ⟨⟨hx, hcc, hml, hrt, hlk, hown, hnm, hts, hK⟩, hR, hS, hb, hH, hl⟩ := id X
  exact lv_if_eq hx hcc hd ht (fun h => kt h p e R s m args below meth c H locs cells slots ls X hY) (fun h => kf h p e R s m args below meth c H locs cells slots ls X hY)
theorem qx_if_ne {x : Int32} {off : Int} {tgt : Nat} (hd : decode M.2.2.1 pc = .ok (.ifCond .ne off, 3)) (ht : (pc : Int) + off = (tgt : Int)) (kt : ¬ x = 0 → mx_FC Y QQ G l M d kc ks tgt L st z) (kf : x = 0 → mx_FC Y QQ G l M d kc ks (pc + 3) L st z) : mx_FC Y QQ G l M d kc ks pc L (.int x :: st) z := by
  intro p e R s m args below meth c H locs cells slots ls X hY
  obtain ⟨⟨hx, hcc, hml, hrt, hlk, hown, hnm, hts, hK⟩, hR, hS, hb, hH, hl⟩ := id X
  exact lv_if_ne hx hcc hd ht (fun h => kt h p e R s m args below meth c H locs cells slots ls X hY) (fun h => kf h p e R s m args below meth c H locs cells slots ls X hY)
theorem qx_if_lt {x : Int32} {off : Int} {tgt : Nat} (hd : decode M.2.2.1 pc = .ok (.ifCond .lt off, 3)) (ht : (pc : Int) + off = (tgt : Int)) (kt : x < 0 → mx_FC Y QQ G l M d kc ks tgt L st z) (kf : ¬ x < 0 → mx_FC Y QQ G l M d kc ks (pc + 3) L st z) : mx_FC Y QQ G l M d kc ks pc L (.int x :: st) z := by
  intro p e R s m args below meth c H locs cells slots ls X hY
  obtain ⟨⟨hx, hcc, hml, hrt, hlk, hown, hnm, hts, hK⟩, hR, hS, hb, hH, hl⟩ := id X
  exact lv_if_lt hx hcc hd ht (fun h => kt h p e R s m args below meth c H locs cells slots ls X hY) (fun h => kf h p e R s m args below meth c H locs cells slots ls X hY)
theorem qx_icmp_ne {x y : Int32} {off : Int} {tgt : Nat} (hd : decode M.2.2.1 pc = .ok (.if_icmp .ne off, 3)) (ht : (pc : Int) + off = (tgt : Int)) (kt : ¬ x = y → mx_FC Y QQ G l M d kc ks tgt L st z) (kf : x = y → mx_FC Y QQ G l M d kc ks (pc + 3) L st z) : mx_FC Y QQ G l M d kc ks pc L (.int y :: .int x :: st) z := by
  intro p e R s m args below meth c H locs cells slots ls X hY
  obtain ⟨⟨hx, hcc, hml, hrt, hlk, hown, hnm, hts, hK⟩, hR, hS, hb, hH, hl⟩ := id X
  exact lv_icmp_ne hx hcc hd ht (fun h => kt h p e R s m args below meth c H locs cells slots ls X hY) (fun h => kf h p e R s m args below meth c H locs cells slots ls X hY)
theorem qx_icmp_lt {x y : Int32} {off : Int} {tgt : Nat} (hd : decode M.2.2.1 pc = .ok (.if_icmp .lt off, 3)) (ht : (pc : Int) + off = (tgt : Int)) (kt : x < y → mx_FC Y QQ G l M d kc ks tgt L st z) (kf : ¬ x < y → mx_FC Y QQ G l M d kc ks (pc + 3) L st z) : mx_FC Y QQ G l M d kc ks pc L (.int y :: .int x :: st) z := by
  intro p e R s m args below meth c H locs cells slots ls X hY
  obtain ⟨⟨hx, hcc, hml, hrt, hlk, hown, hnm, hts, hK⟩, hR, hS, hb, hH, hl⟩ := id X
  exact lv_icmp_lt hx hcc hd ht (fun h => kt h p e R s m args below meth c H locs cells slots ls X hY) (fun h => kf h p e R s m args below meth c H locs cells slots ls X hY)
theorem qx_icmp_le {x y : Int32} {off : Int} {tgt : Nat} (hd : decode M.2.2.1 pc = .ok (.if_icmp .le off, 3)) (ht : (pc : Int) + off = (tgt : Int)) (kt : x ≤ y → mx_FC Y QQ G l M d kc ks tgt L st z) (kf : ¬ x ≤ y → mx_FC Y QQ G l M d kc ks (pc + 3) L st z) : mx_FC Y QQ G l M d kc ks pc L (.int y :: .int x :: st) z := by
  intro p e R s m args below meth c H locs cells slots ls X hY
  obtain ⟨⟨hx, hcc, hml, hrt, hlk, hown, hnm, hts, hK⟩, hR, hS, hb, hH, hl⟩ := id X
  exact lv_icmp_le hx hcc hd ht (fun h => kt h p e R s m args below meth c H locs cells slots ls X hY) (fun h => kf h p e R s m args below meth c H locs cells slots ls X hY)
end QMX
section QMH
variable {Y : Code → State → Prop} {QQ : List Frame → Array Value → State → Room → State → Prop} {G : mG} {l : Launch} {M : mM} {d kc ks : Nat} {pc : Nat} {L st : List Value} {e : mE} {mi : mI} {mj : mJ}
theorem qx_get {own : String} {idx c k i n : Nat} {v : Value} (hd : decode M.2.2.1 pc = .ok (.getfield idx, 3)) (hf : mx_fld own idx c k) (hM : M.1 = own) (ho : mx_is e i c n) (hv : mx_tr G v = mx_fv G (e, mi, mj) (mx_ty c k) i k)
    (kk : mx_FC Y QQ G l M d kc ks (pc + 3) L (v :: st) (e, mi, mj)) : mx_FC Y QQ G l M d kc ks pc L (.ref i :: st) (e, mi, mj) := by
  intro p en R s m args below meth c' H locs cells slots ls X hY
  obtain ⟨⟨hx, hcc, hml, hrt, hlk, hown, hnm, hts, hK⟩, hR, hS, hb, hH, hl⟩ := id X
  have hc13 := mx_fld_c hf
  obtain ⟨C, T, N, hcl, hk, hlink, hT1, hlay, hty, hnn⟩ := hf
  obtain ⟨r, h1, cell, q1, q2, q3, q4⟩ := mx_cellO ho hc13 hH
  have hr : r = (C, T, N) := Option.some.inj (h1.symm.trans hcl)
  subst hr
  obtain ⟨hSl, hfc, kC, hkC, hkind⟩ := hK.1 c _ hcl
  obtain ⟨cf, kf, fi, f, hi, hsl⟩ := hSl k hk
  have e1 : (mx_tr G (.ref i)) = .ref (G.1 + i) := by show Value.ref (mx_ad G i) = _; rw [mx_isl ho hH]
  show W p l en R s m args below meth c' H locs cells slots _ (F0 m pc ls (mx_tr G (.ref i) :: st.map (mx_tr G)))
  rw [e1]
  rw [hT1] at hi
  refine W.getf (v := mx_tr G v) hx hcc (hM ▸ hown) (hts _ hlink) hi (u_facts hfc hkC (u_lays (T := T) (N := N) hts hlay hk) (hT1 ▸ hi)).1 q1 (by rw [q3]; exact fun h => by cases h) ?_ rfl rfl hd (kk p en R s m args below meth c' H locs cells slots ls X hY)
  rw [hsl, q4 k hk, hv]
theorem qx_getI {own : String} {idx c k i n : Nat} (hd : decode M.2.2.1 pc = .ok (.getfield idx, 3)) (hf : mx_fld own idx c k) (hM : M.1 = own) (ht : mx_ty c k = .int ∨ mx_ty c k = .boolean) (ho : mx_is e i c n)
    (kk : mx_FC Y QQ G l M d kc ks (pc + 3) L (.int (mi i k) :: st) (e, mi, mj)) : mx_FC Y QQ G l M d kc ks pc L (.ref i :: st) (e, mi, mj) :=
  qx_get hd hf hM ho (by rcases ht with h | h <;> (rw [h]; rfl)) kk
theorem qx_getR {own : String} {idx c k i n a : Nat} (hd : decode M.2.2.1 pc = .ok (.getfield idx, 3)) (hf : mx_fld own idx c k) (hM : M.1 = own) (ht : mx_isR (mx_ty c k) = true) (ho : mx_is e i c n) (hr : e.2.2 i k = some a)
    (kk : mx_FC Y QQ G l M d kc ks (pc + 3) L (.ref a :: st) (e, mi, mj)) : mx_FC Y QQ G l M d kc ks pc L (.ref i :: st) (e, mi, mj) :=
  qx_get hd hf hM ho (by rw [mx_fvR ht]; show _ = mx_rv G (e.2.2 i k); rw [hr]; rfl) kk
end QMH
section QMC
variable {Y : Code → State → Prop} {QQ : List Frame → Array Value → State → Room → State → Prop} {G : mG} {l : Launch} {M : mM} {d kc ks : Nat} {pc : Nat} {L st : List Value} {e : mE} {mi : mI} {mj : mJ}
theorem qx_cont {p : Program} {en : Env} {R : Room} {s : State} {m : MethodId} {args : Array Value} {below : List Frame} {meth : Method} {c : Code} {H : Heap} {locs : List Loc} {cells slots : Nat} {ls : Array Slot} {z : mS} {kc' ks' : Nat} {st0 : List Value} {a : Array Value} {Post' : Option Value → mS → Prop}
    (X : mx_X G M d kc ks L z p R s m args meth c H locs cells slots ls) (hY : Y c s) (h1 : kc' ≤ kc) (h2 : ks' ≤ ks)
    (hr : CallRun p l en R s m args below meth c H locs cells slots kc' ks' (F0 m pc ls st0) (st.map (mx_tr G)) (mx_Q G Post' a) (mx_fr G))
    (kk : ∀ v z', Post' v z' → mx_FC Y QQ G l M d (kc - kc') (ks - ks') (pc + 3) L (v.toList ++ st) z') :
    W p l en R s m args below meth c H locs cells slots (QQ below args s R) (F0 m pc ls st0) := by
  obtain ⟨hC, hR, hS, hb, hH, hl⟩ := X
  intro T hT XT
  obtain ⟨v, st₀, t, T', Lc, h0, X', hL, e1, ⟨⟨v', z', hv, hp, hH'⟩, hF⟩, step⟩ := hr T hT XT
  have hv' : v = v'.map (mx_tr G) := Outcome.returned.inj hv
  subst hv'
  have hS' : va_S (mx_fr G) s.heap t.heap (locs ++ Lc) := by
    refine ⟨Nat.le_trans hS.1 (by rw [← h0]; exact hF.1), fun q h3 h4 => ?_, fun q hq => ?_⟩
    · rw [hF.2 q (by rw [h0]; exact Nat.lt_of_lt_of_le h3 hS.1) h4, h0]
      exact hS.2.1 q h3 h4
    · rcases List.mem_append.mp hq with h | h
      · exact hS.2.2 q h
      · exact hL q h
  obtain ⟨t2, a1, b1⟩ := kk v' z' hp p en R s m args below meth c t.heap (locs ++ Lc) (cells + kc') (slots + ks') ls ⟨hC, ⟨hR.1, hR.2.1, by omega, by omega⟩, hS', hb, hH', hl⟩ hY T' e1 X'
  refine ⟨t2, step t2 ?_, b1⟩
  have e2 : (v'.toList ++ st).map (mx_tr G) = (v'.map (mx_tr G)).toList ++ st.map (mx_tr G) := by cases v' <;> rfl
  rw [e2] at a1
  exact a1
theorem qx_callV {own : String} {idx n d' kc' ks' c0 n0 i : Nat} {M' : mM} {av st0 : List Value} {Post' : Option Value → mS → Prop} (hd : decode M.2.2.1 pc = .ok (.invokevirtual idx, 3)) (hi : mx_inv own idx M' n) (hM : M.1 = own)
    (hV : Cond.instanceMethod M'.2.1 ∈ mx_TB ∧ Cond.selects M'.2.1.cls M'.2.1 M'.2.1 ∈ mx_TB) (hcl : ∃ r : vw_C, vwCl[c0]? = some r ∧ r.1 = M'.2.1.cls) (ho : mx_is e i c0 n0)
    (hc : mx_Call G l M' d' kc' ks' (.ref i :: av) (e, mi, mj) Post') (hd' : d' < d) (h1 : kc' ≤ kc) (h2 : ks' ≤ ks) (hst : st0 = av.reverse ++ (.ref i :: st)) (hn : av.length = n) (hW : (st.map fun v => v.category).sum ≤ 8)
    (kk : ∀ v z', Post' v z' → mx_FC Y QQ G l M d (kc - kc') (ks - ks') (pc + 3) L (v.toList ++ st) z') : mx_FC Y QQ G l M d kc ks pc L st0 (e, mi, mj) := by
  intro p en R s m args below meth c' H locs cells slots ls X hY
  obtain ⟨⟨hx, hcc, hml, hrt, hlk, hown, hnm, hts, hK⟩, hR, hS, hb, hH, hl⟩ := id X
  obtain ⟨r, hr, hrc⟩ := hcl
  have hc13 : c0 < 13 := (List.getElem?_eq_some_iff.mp hr).1
  have hrecv : ∃ cell : Cell, H[G.1 + i]? = some cell ∧ cell.vm.isStatics = false ∧ s.vm.findClass M'.2.1.cls = some cell.cls := by
    obtain ⟨r', h1', cell, q1, q2, q3, q4⟩ := mx_cellO ho hc13 hH
    exact ⟨cell, q1, by rw [q3]; rfl, by rw [q2, ← hrc]; exact (hK.1 c0 _ hr).2.1⟩
  have e1 : (mx_tr G (.ref i)) = .ref (G.1 + i) := by show Value.ref (mx_ad G i) = _; rw [mx_isl ho hH]
  subst hst
  refine qx_cont X hY h1 h2 (W.runV (C := M'.2.1.cls) (b := G.1 + i) (As := av.map (mx_tr G)) (rest := st.map (mx_tr G)) (g := F0 m pc ls _) ⟨hx, hcc, hml, hM ▸ hown, hts⟩ hc ⟨mx_callB hi hts hd' hR.1 hR.2.1, hts _ hV.1, hts _ hV.2⟩ ⟨mx_blind, hrecv, fun U hU hW' => ⟨?_, by rw [hU]; exact hH, mx_K.moved hW'.alike hK⟩⟩ rfl (by simpa using hn) hl.1 ?_ (lv_room (by rw [mx_cats]; exact hW)) hd ⟨by omega, by omega⟩) kk
  · show _ = ((mx_tr G (.ref i)) :: av.map (mx_tr G)).toArray
    rw [e1]
  · show (av.reverse ++ (.ref i :: st)).map (mx_tr G) = _
    rw [mx_stk]
    show _ ++ (mx_tr G (.ref i) :: st.map (mx_tr G)) = _
    rw [e1]
end QMC
section QMR
variable {Y : Code → State → Prop} {QQ : List Frame → Array Value → State → Room → State → Prop} {G : mG} {l : Launch} {M : mM} {d kc ks : Nat} {pc : Nat} {L st : List Value} {e : mE} {mi : mI} {mj : mJ}
theorem qx_cVi {own : String} {idx n d' c0 n0 i : Nat} {M' : mM} {av st0 : List Value} {r : Int32} {z1 : mS} (hd : decode M.2.2.1 pc = .ok (.invokevirtual idx, 3)) (hi : mx_inv own idx M' n) (hM : M.1 = own)
    (hV : Cond.instanceMethod M'.2.1 ∈ mx_TB ∧ Cond.selects M'.2.1.cls M'.2.1 M'.2.1 ∈ mx_TB) (hcl : ∃ r : vw_C, vwCl[c0]? = some r ∧ r.1 = M'.2.1.cls) (ho : mx_is e i c0 n0)
    (hc : mx_Call G l M' d' 0 0 (.ref i :: av) (e, mi, mj) (fun v z => v = some (.int r) ∧ z = z1)) (hd' : d' < d) (hst : st0 = av.reverse ++ (.ref i :: st)) (hn : av.length = n) (hW : (st.map fun v => v.category).sum ≤ 8)
    (kk : mx_FC Y QQ G l M d kc ks (pc + 3) L (.int r :: st) z1) : mx_FC Y QQ G l M d kc ks pc L st0 (e, mi, mj) :=
  qx_callV hd hi hM hV hcl ho hc hd' (Nat.zero_le _) (Nat.zero_le _) hst hn hW (fun v z' h => by obtain ⟨rfl, rfl⟩ := h; exact kk)
end QMR
section QTH
variable {p : Program} {l : Launch} {e : Env} {R : Room} {s : State} {m : MethodId} {args : Array Value} {below : List Frame} {meth : Method} {c : Code} {H : Heap} {locs : List Loc} {cells slots : Nat} {Q : State → Prop}
variable {mc ms : Nat} {free : Addr → Prop} {A0 A1 : Nat → Prop} {H0 : Heap} {a : Array Value} {ls : Array Slot} {st0 rest : List Value}
variable {Qc : Array Value → State → Outcome → State → Prop} {XC : String → State → State → Prop}
/-- 'throw new E()': new; dup; invokespecial; athrow -/
theorem qx_throw0 {cc : ByteArray} {pc : Nat} (hexec : p.tables.exec = Jvm.exec) (hb : c.code = cc) (hl : l.stackTraces = false) {own cls : String} {names : List String} {ik ic mc ms : Nat} {A : Nat → Prop}
    (hown : s.vm.findClass own = some m.cls) (hcls : Bundle.fit cls = true) (hnames : ∀ n ∈ names, Bundle.fit n = true)
    (hk : (Cond.classLink own ik cls).before args s = true) (hini : (Cond.initialized cls).before args s = true) (hat : ∀ w ∈ vx_at0 own ic cls names, w.before args s = true)
    (hgood : ∀ w ∈ Cond.classLink own ik cls :: Cond.initialized cls :: vx_at0 own ic cls names, vx_ot w = true)
    (hU : vx_Zq Bundle.tN "UNASSIGNED_STACK" Bundle.steD A s s.heap) (hN : vx_Zq Bundle.tN "SUPPRESSED_SENTINEL" Bundle.listD A s s.heap) (hS : va_S A s.heap H locs) (hsize : ls.size = c.maxLocals)
    (d0 : decode cc pc = .ok (.new ik, 3)) (d3 : decode cc (pc + 3) = .ok (.dup, 1)) (d4 : decode cc (pc + 4) = .ok (.invokespecial ic, 3)) (d7 : decode cc (pc + 7) = .ok (.athrow, 1))
    (hout : ∀ x ∈ c.exceptionTable.toList, covers x (pc + 7) = false)
    (hRframes : names.length + 3 < R.frames) (hRlocals : (rest.map fun v => v.category).sum + (13 * (names.length + 1) + 42) ≤ R.locals) (hRcells : cells + 1 ≤ R.cells) (hRslots : slots + 6 ≤ R.slots) (hlocks : meth.locks = false)
    (hx : ∀ t : State, s.vm.Alike t.vm → H.size ≤ t.heap.size → t.heap.size ≤ H.size + 1 → (∀ q : Nat, q < H.size → t.heap[q]? = H[q]?) → XC cls s t)
    (hf : ∀ z ∈ locs, free z.base) (hc : cells + 1 ≤ mc) (hs : slots + 6 ≤ ms) :
    W p l e R s m args below meth c H locs cells slots (vx_MQ below Qc XC args s mc ms free) (F0 m pc ls rest) := by
  intro T hT X
  have htr : e.platform.stackTraces = false := (show e.platform.stackTraces = l.stackTraces by rw [X.admits.platform]).trans hl
  have Y := vx_rebase X (R' := { frames := R.frames, locals := R.locals, cells := 1, slots := 6 }) (Nat.le_refl _) (Nat.le_refl _) hRcells hRslots
  obtain ⟨s', hA⟩ : ∃ z, z = (T.setVm s.vm).setFrames (.invoking m args :: below) := ⟨_, rfl⟩
  rw [← hA] at Y
  have hvm : s'.vm = s.vm := by rw [hA]; rfl
  have hhp : s'.heap = H := by rw [hA]; exact hT
  have hW0 : s.WarmedH s'.vm := by rw [hvm]; exact State.WarmedH.refl s
  have hat' : ∀ w ∈ vx_at0 own ic cls names, w.before args s' = true := fun w hw => vx_ot_at hW0 hvm.symm (hgood w (List.mem_cons_of_mem _ (List.mem_cons_of_mem _ hw))) (hat w hw)
  have hk' : (Cond.classLink own ik cls).before args s' = true := vx_ot_at hW0 hvm.symm (hgood _ List.mem_cons_self) hk
  have hini' : (Cond.initialized cls).before args s' = true := vx_ot_at hW0 hvm.symm (hgood _ (List.mem_cons_of_mem _ List.mem_cons_self)) hini
  have hU' : vx_Zq Bundle.tN "UNASSIGNED_STACK" Bundle.steD A s' s'.heap := by rw [hhp]; exact vx_Zq.moved hW0.alike (hU.kept hS.2.1)
  have hN' : vx_Zq Bundle.tN "SUPPRESSED_SENTINEL" Bundle.listD A s' s'.heap := by rw [hhp]; exact vx_Zq.moved hW0.alike (hN.kept hS.2.1)
  have h : ∀ w ∈ Bundle.ownAtoms0 own ic cls names, w.before args s' = true := vx_own hat' (vx_isRefq hU'.1) (vx_isRefq hN'.1) hU'.2.word hN'.2.word
  have hown' : s'.vm.findClass own = some m.cls := by rw [hvm]; exact hown
  have hins : (Cond.instantiable cls 6).before args s' = true := h _ (by simp [Bundle.ownAtoms0])
  obtain ⟨vm₁, cX, kX, hfX, hkX, -, -, X₁, st1⟩ := Y.newCold hexec (own := own) (C := cls) (index := ik) (n := 6) hown' hk' hins hini'
    (g := F0 m pc ls rest) rfl (by rw [hb]; exact d0) (Nat.le_refl _) (Nat.le_refl _)
  generalize hT1 : (T.setVm vm₁).pushCell { cls := cX, slots := kX.instanceTypes.map defaultValue, vm := .none } = T1 at X₁ st1
  have hcat : (Value.ref T.heap.size).category = 1 := rfl
  have hcellA : T1.heap[T.heap.size]? = some (freshCell cX kX) := by rw [← hT1]; exact State.heap_pushCell_size _ _
  have d3' : decode c.code (pc + 3) = .ok (.dup, 1) := by rw [hb]; exact d3
  obtain ⟨U, hsteps, hrun, hend, hW, hsame, ce, hce, hO⟩ := X₁.ctorThrow0 hexec htr (own := own) (cls := cls) (names := names) (ic := ic) hown' hcls hnames h (fun x hx => nomatch hx) hfX hkX hcellA (by rw [hhp, hT]; exact Nat.le_refl _)
    (g := { method := m, pc := pc + 4, locals := ls, stack := .ref T.heap.size :: .ref T.heap.size :: rest, locked := none }) rfl hsize rfl rfl (rest := rest) rfl
    (by rw [hb]; exact d4) (by rw [hb]; exact d7) hout hRframes (by simp only [List.map_cons, List.sum_cons, hcat]; omega) hlocks
  obtain ⟨f1, f2⟩ := vx_frame hsame
  have f3 : U.heap.size ≤ s'.heap.size + (0 + 1) := hsame.2.2.1
  rw [hhp] at f1 f2 f3
  have hWs : s.WarmedH U.vm := State.WarmedH.trans hW0 hW
  have hcl : s.vm.findClass cls = some ce.cls := by
    have h9 := hO.cls
    rw [hvm] at h9
    exact h9
  have hall : s.sameButNew ({ U with vm := s.vm } : State) locs mc ms := by
    subst hA
    obtain ⟨e1, e2⟩ := hsame
    rw [State.setFrames_setFrames] at e1
    have h2 : (T.setVm s.vm).sameButNew ({ U with vm := s.vm } : State) [] (0 + 1) (0 + 6) := ⟨e1, e2⟩
    have h3 := X.same.trans h2
    rw [List.append_nil] at h3
    exact h3.mono hc hs
  refine ⟨U, ?_, .threw T.heap.size, hrun, hend, Or.inr ⟨T.heap.size, rfl, cls, ce, locs, hx U hWs.alike f1 f3 (fun q hq => f2 q hq (fun z hz => nomatch hz)), hce, hO.vm, hcl, hWs, hall, hf⟩⟩
  refine st1 _ ?_
  show Steps p.tables e below (T1.setTop { method := m, pc := pc + 3, locals := ls, stack := .ref T.heap.size :: rest, locked := none }) _
  jvm_step X₁.here [X₁.here.top, hexec, d3', Value.category]
  exact hsteps
end QTH
def mx_YT (G : mG) : Code → State → Prop := fun c s => (∀ x ∈ c.exceptionTable.toList, False) ∧ mx_XN G s
def mx_QT (G : mG) (z : mS) : List Frame → Array Value → State → Room → State → Prop := fun below args s R => vx_MQ below (fun _ _ _ _ => False) (mx_XC G z) args s R.cells R.slots (mx_fr G)
theorem w_xk : Cond.classLink RX11 151 xN ∈ mx_TB := mx_in (i := 1425) (by decide +kernel) (by decide +kernel)
theorem w_xi : Cond.initialized xN ∈ mx_TB := mx_in (i := 23) (by decide +kernel) (by decide +kernel)
def xgi : List Nat := [20, 1447, 1456, 1458, 1461, 1463, 1448, 1449, 31, 32, 1450, 1455, 1459, 1475, 1437, 1476, 1439, 1477, 1441, 1451, 1453, 1443, 1465, 1466, 1467, 1468, 1468, 1469, 1470, 1471, 1471, 1472, 1473, 1448, 1464, 1426, 1434, 1435, 1436, 1438, 1440, 1442, 1446, 1445, 1444]
theorem w_xg0 : (vx_at0 RX11 153 xN xnm).filter goodWord = xgi.filterMap (fun i => tables_1[i]?) := by decide +kernel
theorem w_xg : ∀ w ∈ (vx_at0 RX11 153 xN xnm).filter goodWord, w ∈ mx_TB := fun w hw => by
  have h2 := hw
  rw [w_xg0] at h2
  obtain ⟨i, -, hi⟩ := List.mem_filterMap.mp h2
  exact mx_in hi (List.mem_filter.mp hw).2
theorem w_xb : (vx_at0 RX11 153 xN xnm).filter (fun w => !goodWord w) = [.declares (Bundle.init0 "java/lang/RuntimeException"), .declares (Bundle.init0 "java/lang/Exception"), .declares (Bundle.init0 Bundle.tN), .castable xN xN] := by decide +kernel
theorem w_xo : ∀ w ∈ Cond.classLink RX11 151 xN :: Cond.initialized xN :: vx_at0 RX11 153 xN xnm, vx_ot w = true := by decide +kernel
theorem qx_throw {G : mG} {l : Launch} {M : mM} {d kc ks pc : Nat} {L : List Value} {e : mE} {mi : mI} {mj : mJ} (hM : M.1 = RX11) (hl : l.stackTraces = false) (hd6 : 6 ≤ d) (hk1 : 1 ≤ kc) (hk6 : 6 ≤ ks) (hcap : e.1 < 100000)
    (d0 : decode M.2.2.1 pc = .ok (.new 151, 3)) (d3 : decode M.2.2.1 (pc + 3) = .ok (.dup, 1)) (d4 : decode M.2.2.1 (pc + 4) = .ok (.invokespecial 153, 3)) (d7 : decode M.2.2.1 (pc + 7) = .ok (.athrow, 1)) :
    mx_FC (mx_YT G) (mx_QT G (e, mi, mj)) G l M d kc ks pc L [] (e, mi, mj) := by
  intro p en R s m args below meth c H locs cells slots ls X hY
  obtain ⟨⟨hx, hcc, hml, hrt, hlk, hown, hnm, hts, hK⟩, hR, hS, hb, hH, hll⟩ := id X
  obtain ⟨hT, hN1, hN2, hN3, hN4⟩ := hY
  have hat : ∀ w ∈ vx_at0 RX11 153 xN xnm, w.before args s = true := by
    refine vx_hat (B := [.declares (Bundle.init0 "java/lang/RuntimeException"), .declares (Bundle.init0 "java/lang/Exception"), .declares (Bundle.init0 Bundle.tN), .castable xN xN]) (fun w hw => hts w (w_xg w hw)) (fun w hw => by rw [w_xb] at hw; exact hw) ?_
    exact vx_c (va_Nw.use rfl (hN1 _ (List.mem_of_getElem? (i := 0) rfl))) (vx_c (va_Nw.use rfl (hN1 _ (List.mem_of_getElem? (i := 1) rfl))) (vx_c (va_Nw.use rfl (hN1 _ (List.mem_of_getElem? (i := 2) rfl))) (vx_c (va_Nw.use rfl hN2) vx_n)))
  refine qx_throw0 (names := xnm) (A := mx_fr G) hx hcc hl (hM ▸ hown) (by decide +kernel) (by decide +kernel) (hts _ w_xk) (hts _ w_xi) hat w_xo hN3 hN4 hS (by rw [hml]; exact hll.1) d0 d3 d4 d7 (fun x h => (hT x h).elim) ?_ ?_ (by omega) (by omega) hlk ?_ (fun z hz => hS.2.2 z hz) (by omega) (by omega)
  · show 2 + 3 < _; omega
  · show 0 + (13 * (2 + 1) + 42) ≤ _; omega
  · intro t hA h1 h2 h3
    have hs : H.size = G.1 + e.1 := hH.1
    have g1 : e.1 ≤ t.heap.size - G.1 := by omega
    have g2 : t.heap.size - G.1 ≤ e.1 + 1 := by omega
    have g3 : t.heap.size = G.1 + (t.heap.size - G.1) := by omega
    have g4 : mx_H G (mx_ej e (t.heap.size - G.1), mi, mj) t.heap := mx_H_ej hH g3 (by omega) g1 h3
    refine ⟨rfl, ⟨t.heap.size - G.1, g1, g2, g4⟩, Nat.le_trans hS.1 h1, fun q h4 h5 => ?_⟩
    rw [h3 q (Nat.lt_of_lt_of_le h4 hS.1)]
    exact hS.2.1 q h4 h5
theorem qx_entryT {G : mG} {l : Launch} {M : mM} {d kc ks : Nat} {L : List Value} {z : mS} {av : List Value} (hp : plainName M.2.1.cls = true ∧ M.1 = M.2.1.cls) (hn : (mx_L0 av).length ≤ M.2.2.2.1)
    (hL : mx_L0 av ++ List.replicate (M.2.2.2.1 - (mx_L0 av).length) (.float 0) = L) (kk : mx_FC (mx_YT G) (mx_QT G z) G l M d kc ks 0 L [] z) : mx_CallX G l M d kc ks av z := by
  subst hL
  refine vx_ofW (cc := M.2.2.1) (maxL := M.2.2.2.1) (ret := M.2.2.2.2) hp.1 rfl ?_
  intro p e s m args below meth c s₁ B hml hT hP
  obtain ⟨⟨rfl, hH, hK⟩, hN⟩ := hP
  have hts := atoms_spec (ws := mx_ws M) B.pre
  have hown : s.vm.findClass M.1 = some m.cls := hp.2 ▸ findClass_of_methodNamed B.named
  have hl := lv_entry (av.map (mx_tr G)) (n := M.2.2.2.1) (by rw [mx_len]; exact hn)
  rw [lg_entry_eq]
  exact kk p e _ s m _ below meth c s.heap [] 0 0 _ ⟨⟨B.exec, B.bytes, hml, B.returns, B.notSynchronized, hown, (name_of_methodNamed B.named B.method).1, fun w hw => hts w (List.mem_cons_of_mem _ hw), hK⟩,
    ⟨Nat.le_refl _, Nat.le_refl _, by simp [headSpec, mx_rm], by simp [headSpec, mx_rm]⟩, va_S.rf, by rw [hH.1]; exact Nat.le_add_right _ _, hH, mx_has_mono hl (fun q hq => by rw [mx_al_app, mx_al_fl, List.append_nil] at hq; exact mx_al_args av 0 q hq)⟩ ⟨hT, hN⟩
