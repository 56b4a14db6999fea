/-! ===== constructors: links between nest mates ===== -/
def mx_nest : List (String × Nat × MethodName × String) := [(RX11, 18, yX4_init, RX11), (RX11, 28, yX5_init, RX11), (RX5, 11, yX4_init, RX11), (RX11, 35, yX9_init, RX11), (RX11, 54, yX2_init, RX11), (RX2, 11, yX4_init, RX11), (RX3, 17, yX4_init, RX11), (RX11, 71, yX0_init, RX11), (RX11, 78, yX8_init, RX11), (RX11, 94, yX1_init, RX11), (RX11, 109, yX6_init, RX11), (RX6, 9, yX4_init, RX11), (RX6, 18, yX8_init, RX11)]
/-- the string constants: lengths, bytes; where they are loaded -/
def mx_sl : List Nat := [117, 5, 6, 4]
def mx_sb : List (List Int32) := [[112, 111, 105, 110, 116, 32, 108, 105, 110, 107, 32, 112, 97, 105, 114, 32, 112, 114, 105, 99, 101, 32, 111, 100, 100, 32, 112, 97, 114, 116, 32, 119, 101, 105, 103, 104, 32, 99, 114, 111, 119, 110, 32, 111, 112, 101, 110, 32, 103, 114, 111, 119, 32, 111, 114, 32, 97, 110, 100, 32, 110, 111, 116, 32, 108, 111, 110, 101, 32, 116, 105, 103, 104, 116, 32, 119, 105, 116, 104, 32, 108, 105, 110, 107, 101, 100, 32, 105, 110, 32, 112, 114, 105, 99, 101, 100, 32, 108, 105, 110, 107, 115, 32, 119, 101, 105, 103, 104, 116, 32, 110, 117, 109, 98, 101, 114, 32], [32, 108, 111, 110, 101], [32, 119, 105, 116, 104, 32], [32, 97, 116, 32]]
def mx_sr : List (String × Nat × String × Nat) := [(RX10, 19, "point link pair price odd part weigh crown open grow or and not lone tight with linked in priced links weight number ", 0), (RX11, 370, " lone", 1), (RX11, 376, " with ", 2), (RX11, 378, " at ", 3)]
def mx_sK (G : mG) (k : Nat) : Nat := G.2.2.2 (100000 + k)
def mx_sV (G : mG) (k : Nat) : Nat := G.2.2.2 (200000 + k)
def mx_YS (G : mG) (U : State) (H : Heap) : Prop := vk_S 4 mx_sl mx_sb (mx_sK G) (mx_sV G) (mx_fr G) U H ∧ (∀ q ∈ mx_sr, vk_R q.1 q.2.1 q.2.2.1 (mx_sK G q.2.2.2) U) ∧ va_Z "java/lang/String" "COMPACT_STRINGS" "Z" (.int 1) (mx_fr G) U H ∧
  (va_Z "jdk/internal/util/Preconditions" "SIOOBE_FORMATTER" "Ljava/util/function/BiFunction;" .null (mx_fr G) U H ∨ va_Z "jdk/internal/util/Preconditions" "SIOOBE_FORMATTER" "Ljava/util/function/BiFunction;" (.ref (G.2.2.2 300000)) (mx_fr G) U H)
theorem mx_YS.on {G : mG} {s U : State} {locs : List Loc} (hW : s.WarmedH U.vm) (hS : va_S (mx_fr G) s.heap U.heap locs) (h : mx_YS G s s.heap) : mx_YS G U U.heap := by
  obtain ⟨h1, h2, h3, h4⟩ := h
  exact ⟨(h1.kept hS.2.1).moved hW.alike, fun q hq => (h2 q hq).warm hW, (h3.kept hS.2.1).moved hW.alike, h4.elim (fun h => Or.inl ((h.kept hS.2.1).moved hW.alike)) (fun h => Or.inr ((h.kept hS.2.1).moved hW.alike))⟩
theorem mx_YS.same {G : mG} {s U : State} (hv : s.vm = U.vm) (hh : U.heap = s.heap) (h : mx_YS G s s.heap) : mx_YS G U U.heap := by
  obtain ⟨h1, h2, h3, h4⟩ := h
  rw [hh]
  have hA : s.vm.Alike U.vm := hv ▸ Vm.Alike.refl s.vm
  exact ⟨h1.moved hA, fun q hq => (h2 q hq).same hv.symm, h3.moved hA, h4.elim (fun h => Or.inl (h.moved hA)) (fun h => Or.inr (h.moved hA))⟩
def mx_N (G : mG) (U : State) : Prop := (∀ q ∈ mx_nest, va_Nw (.methodLinkNest q.1 q.2.1 q.2.2.1 q.2.2.2) U) ∧ va_AO RX4 U ∧ va_AO RX6 U ∧ mx_YS G U U.heap
theorem mx_N.warm {G : mG} {s U : State} {H : Heap} {locs : List Loc} (hW : s.WarmedH U.vm) (hS : va_S (mx_fr G) s.heap H locs) (hU : U.heap = H) (h : mx_N G s) : mx_N G U := ⟨fun q hq => va_Nw.warmM hW (h.1 q hq), va_AO.moved hW.alike h.2.1, va_AO.moved hW.alike h.2.2.1, mx_YS.on hW (hU ▸ hS) h.2.2.2⟩
theorem mx_N.same {G : mG} {s U : State} (hv : s.vm = U.vm) (hh : U.heap = s.heap) (h : mx_N G s) : mx_N G U := ⟨fun q hq => va_Nw.same rfl hv (h.1 q hq), va_AO.moved (hv ▸ Vm.Alike.refl s.vm) h.2.1, va_AO.moved (hv ▸ Vm.Alike.refl s.vm) h.2.2.1, mx_YS.same hv hh h.2.2.2⟩
def mx_PcN (G : mG) (av : List Value) (z : mS) : Array Value → State → Prop := fun a U => mx_Pc G av z a U ∧ mx_N G U
theorem mx_blindN {G : mG} {av : List Value} {z : mS} : FrameBlind (mx_PcN G av z) := fun a U g mk q => ⟨mx_blind a U g mk q.1, mx_N.same (s := U) rfl rfl q.2⟩
/-- a call of a constructor -/
def mx_CallN (G : mG) (l : Launch) (M : mM) (d kc ks : Nat) (av : List Value) (z : mS) (Post : Option Value → mS → Prop) : Prop :=
  Met l M.2.1 (mx_ws M) (mx_rm d kc ks) (mx_PcN G av z) (mx_Q G Post) kc ks (mx_fr G)
section MNE
variable {Y : State → Prop} {G : mG} {l : Launch} {M : mM} {d kc ks : Nat} {Post : Option Value → mS → Prop} {pc : Nat} {L st : List Value} {z : mS}
theorem px_entryN {av : List Value} (hp : plainName M.2.1.cls = true ∧ M.1 = M.2.1.cls) (hn : (mx_L0 av).length ≤ M.2.2.2.1)
    (hL : mx_L0 av ++ List.replicate (M.2.2.2.1 - (mx_L0 av).length) (.float 0) = L) (kk : mx_FP (mx_N G) G l M d kc ks Post 0 L [] z) : mx_CallN G l M d kc ks av z Post := by
  subst hL
  refine Met.ofW (cc := M.2.2.1) (maxL := M.2.2.2.1) (ret := M.2.2.2.2) hp.1 rfl ?_
  intro p e s m args below meth c s₁ B hml hP
  obtain ⟨⟨rfl, hH, hK⟩, hN⟩ := hP
  have hts := atoms_spec (ws := mx_ws M) B.pre
  have hown : s.vm.findClass M.1 = some m.cls := hp.2 ▸ findClass_of_methodNamed B.named
  have hl := lv_entry (av.map (mx_tr G)) (n := M.2.2.2.1) (by rw [mx_len]; exact hn)
  rw [lg_entry_eq]
  exact kk p e _ s m _ below meth c s.heap [] 0 0 _ ⟨⟨B.exec, B.bytes, hml, B.returns, B.notSynchronized, hown, (name_of_methodNamed B.named B.method).1, fun w hw => hts w (List.mem_cons_of_mem _ hw), hK⟩,
    ⟨Nat.le_refl _, Nat.le_refl _, by simp [headSpec, mx_rm], by simp [headSpec, mx_rm]⟩, va_S.rf, by rw [hH.1]; exact Nat.le_add_right _ _, hH, mx_has_mono hl (fun q hq => by rw [mx_al_app, mx_al_fl, List.append_nil] at hq; exact mx_al_args av 0 q hq)⟩ hN
/-- the constructor of a class that may be called from everywhere -/
theorem px_callI {own : String} {idx n d' kc' ks' i : Nat} {M' : mM} {av st0 : List Value} {Post' : Option Value → mS → Prop} (hd : decode M.2.2.1 pc = .ok (.invokespecial idx, 3)) (hi : mx_inv own idx M' n) (hM : M.1 = own) (hr0 : M'.2.2.2.2 = none) (hnm' : M'.2.1.name = "<init>") (hV : Cond.instanceMethod M'.2.1 ∈ mx_TB)
    (hYN : ∀ s, Y s → mx_N G s) (hc : mx_CallN G l M' d' kc' ks' (.ref i :: av) z Post') (hd' : d' < d) (h1 : kc' ≤ kc) (h2 : ks' ≤ ks) (hst : st0 = av.reverse ++ (.ref i :: st)) (hn : av.length = n) (hW : (st.map fun v => v.category).sum ≤ 8)
    (kk : ∀ v z', Post' v z' → mx_FP Y G l M d (kc - kc') (ks - ks') Post (pc + 3) L (v.toList ++ st) z') : mx_FP Y G l M d kc ks Post pc L st0 z := by
  intro p en R s m args below meth c' H locs cells slots ls X hY
  obtain ⟨⟨hx, hcc, hml, hrt, hlk, hown, hnm, hts, hK⟩, hR, hS, hb, hH, hl⟩ := id X
  subst hst
  have hB := mx_callB (k' := kc') (s' := ks') hi hts hd' hR.1 hR.2.1
  rw [hr0] at hB
  refine px_cont X hY h1 h2 (W.runI (b := mx_ad G i) (As := av.map (mx_tr G)) (rest := st.map (mx_tr G)) (g := F0 m pc ls _) ⟨hx, hcc, hml, hM ▸ hown, hts⟩ hc ⟨hB, hnm', hts _ hV⟩ ⟨mx_blindN, fun U hU hW' => ⟨⟨rfl, by rw [hU]; exact hH, mx_K.moved hW'.alike hK⟩, mx_N.warm hW' hS hU (hYN s hY)⟩⟩ rfl (by simpa using hn) hl.1 mx_stk (lv_room (by rw [mx_cats]; exact hW)) hd ⟨by omega, by omega⟩) kk
/-- the words of a nest mate's constructor -/
def mx_inn (own : String) (idx : Nat) (M : mM) (n : Nat) : Prop := (own, idx, M.2.1, RX11) ∈ mx_nest ∧ Cond.code M.2.1 M.2.2.1 M.2.2.2.1 M.2.2.2.2 ∈ mx_TB ∧ Cond.initialized M.2.1.cls ∈ mx_TB ∧ (M.2.1.cls ≠ "java/lang/invoke/MethodHandle" ∧ M.2.1.cls ≠ "java/lang/invoke/VarHandle") ∧ (parseMethodDescriptor M.2.1.desc).map (fun d => d.parameters.length) = some n ∧ M.2.2.2.1 ≤ 40
theorem px_callIN {own : String} {idx n d' kc' ks' i : Nat} {M' : mM} {av st0 : List Value} {Post' : Option Value → mS → Prop} (hd : decode M.2.2.1 pc = .ok (.invokespecial idx, 3)) (hi : mx_inn own idx M' n) (hM : M.1 = own) (hr0 : M'.2.2.2.2 = none) (hnm' : M'.2.1.name = "<init>") (hV : Cond.instanceMethod M'.2.1 ∈ mx_TB)
    (hYN : ∀ s, Y s → mx_N G s) (hc : mx_CallN G l M' d' kc' ks' (.ref i :: av) z Post') (hd' : d' < d) (h1 : kc' ≤ kc) (h2 : ks' ≤ ks) (hst : st0 = av.reverse ++ (.ref i :: st)) (hn : av.length = n) (hW : (st.map fun v => v.category).sum ≤ 8)
    (kk : ∀ v z', Post' v z' → mx_FP Y G l M d (kc - kc') (ks - ks') Post (pc + 3) L (v.toList ++ st) z') : mx_FP Y G l M d kc ks Post pc L st0 z := by
  intro p en R s m args below meth c' H locs cells slots ls X hY
  obtain ⟨⟨hx, hcc, hml, hrt, hlk, hown, hnm, hts, hK⟩, hR, hS, hb, hH, hl⟩ := id X
  subst hst
  obtain ⟨hl1, hc1, hin, hy, hp, hm⟩ := hi
  have hB : va_CN R s args own idx M'.2.1 RX11 M'.2.2.1 M'.2.2.2.1 none (mx_ws M') (mx_rm d' kc' ks') kc' ks' n := by
    refine va_cnB n hts (mx_wsg hc1) (by rw [← hr0]; rfl) rfl rfl ((hYN s hY).1 _ hl1) (hts _ hin) ⟨hy.1, hy.2, hp⟩ ⟨?_, ?_⟩
    · show d' + 1 ≤ _; omega
    · show 8 + (M'.2.2.2.1 + 11) + 60 * d' ≤ _; omega
  refine px_cont X hY h1 h2 (va_Run.run (va_runIN (b := mx_ad G i) (As := av.map (mx_tr G)) (rest := st.map (mx_tr G)) (g := F0 m pc ls _) ⟨hx, hcc, hml, hM ▸ hown, hts⟩ hc ⟨hB, hnm', hts _ hV⟩ ⟨mx_blindN, fun U hU hW' => ⟨⟨rfl, by rw [hU]; exact hH, mx_K.moved hW'.alike hK⟩, mx_N.warm hW' hS hU (hYN s hY)⟩⟩ rfl (by simpa using hn) hl.1 mx_stk (lv_room (by rw [mx_cats]; exact hW)) hd ⟨by omega, by omega⟩)) kk
theorem px_objInit {own : String} {idx i : Nat} (hd : decode M.2.2.1 pc = .ok (.invokespecial idx, 3)) (hM : M.1 = own) (hw : Cond.methodLink own idx Lib.objectInit ∈ mx_TB) (hw2 : Cond.instanceMethod Lib.objectInit ∈ mx_TB) (hw3 : Cond.code Lib.objectInit ⟨#[0xb1]⟩ 1 none ∈ mx_TB) (hd1 : 1 ≤ d) (hW : (st.map fun v => v.category).sum ≤ 8)
    (kk : mx_FP Y G l M d kc ks Post (pc + 3) L st z) : mx_FP Y G l M d kc ks Post pc L (.ref i :: st) z := by
  intro p en R s m args below meth c' H locs cells slots ls X hY
  obtain ⟨⟨hx, hcc, hml, hrt, hlk, hown, hnm, hts, hK⟩, hR, hS, hb, hH, hl⟩ := id X
  refine W.objInit hx hcc (hM ▸ hown) (hts _ hw) (hts _ hw2) (hts _ hw3) rfl (by rw [hml]; exact hl.1) rfl hd (by omega) ?_ (kk p en R s m args below meth c' H locs cells slots ls X hY)
  have := lv_room (m := m) (pc := pc) (ls := ls) (rest := st.map (mx_tr G)) (st := st.map (mx_tr G)) (by rw [mx_cats]; exact hW)
  have h3 : 2 * (F0 m pc ls (st.map (mx_tr G))).monitorRoom + ((st.map (mx_tr G)).map fun v => v.category).sum ≤ 8 := this
  show 2 * (F0 m pc ls (.ref (mx_ad G i) :: st.map (mx_tr G))).monitorRoom + _ + 12 ≤ _
  have h4 : (F0 m pc ls (.ref (mx_ad G i) :: st.map (mx_tr G))).monitorRoom = (F0 m pc ls (st.map (mx_tr G))).monitorRoom := rfl
  rw [h4]
  omega
end MNE
theorem nX11_18 : mx_inn RX11 18 MX4_init 0 := ⟨List.mem_of_getElem? (i := 0) rfl, mx_in (i := 133) (by decide +kernel) (by decide +kernel), mx_in (i := 7) (by decide +kernel) (by decide +kernel), by decide +kernel, by decide +kernel, by decide⟩
theorem nX11_28 : mx_inn RX11 28 MX5_init 0 := ⟨List.mem_of_getElem? (i := 1) rfl, mx_in (i := 185) (by decide +kernel) (by decide +kernel), mx_in (i := 8) (by decide +kernel) (by decide +kernel), by decide +kernel, by decide +kernel, by decide⟩
theorem nX5_11 : mx_inn RX5 11 MX4_init 0 := ⟨List.mem_of_getElem? (i := 2) rfl, mx_in (i := 133) (by decide +kernel) (by decide +kernel), mx_in (i := 7) (by decide +kernel) (by decide +kernel), by decide +kernel, by decide +kernel, by decide⟩
theorem nX11_35 : mx_inn RX11 35 MX9_init 0 := ⟨List.mem_of_getElem? (i := 3) rfl, mx_in (i := 203) (by decide +kernel) (by decide +kernel), mx_in (i := 9) (by decide +kernel) (by decide +kernel), by decide +kernel, by decide +kernel, by decide⟩
theorem nX11_54 : mx_inn RX11 54 MX2_init 0 := ⟨List.mem_of_getElem? (i := 4) rfl, mx_in (i := 234) (by decide +kernel) (by decide +kernel), mx_in (i := 12) (by decide +kernel) (by decide +kernel), by decide +kernel, by decide +kernel, by decide⟩
theorem nX2_11 : mx_inn RX2 11 MX4_init 0 := ⟨List.mem_of_getElem? (i := 5) rfl, mx_in (i := 133) (by decide +kernel) (by decide +kernel), mx_in (i := 7) (by decide +kernel) (by decide +kernel), by decide +kernel, by decide +kernel, by decide⟩
theorem nX3_17 : mx_inn RX3 17 MX4_init 0 := ⟨List.mem_of_getElem? (i := 6) rfl, mx_in (i := 133) (by decide +kernel) (by decide +kernel), mx_in (i := 7) (by decide +kernel) (by decide +kernel), by decide +kernel, by decide +kernel, by decide⟩
theorem nX11_71 : mx_inn RX11 71 MX0_init 0 := ⟨List.mem_of_getElem? (i := 7) rfl, mx_in (i := 310) (by decide +kernel) (by decide +kernel), mx_in (i := 14) (by decide +kernel) (by decide +kernel), by decide +kernel, by decide +kernel, by decide⟩
theorem nX11_78 : mx_inn RX11 78 MX8_init 0 := ⟨List.mem_of_getElem? (i := 8) rfl, mx_in (i := 347) (by decide +kernel) (by decide +kernel), mx_in (i := 15) (by decide +kernel) (by decide +kernel), by decide +kernel, by decide +kernel, by decide⟩
theorem nX11_94 : mx_inn RX11 94 MX1_init 0 := ⟨List.mem_of_getElem? (i := 9) rfl, mx_in (i := 377) (by decide +kernel) (by decide +kernel), mx_in (i := 16) (by decide +kernel) (by decide +kernel), by decide +kernel, by decide +kernel, by decide⟩
theorem nX11_109 : mx_inn RX11 109 MX6_init 0 := ⟨List.mem_of_getElem? (i := 10) rfl, mx_in (i := 386) (by decide +kernel) (by decide +kernel), mx_in (i := 17) (by decide +kernel) (by decide +kernel), by decide +kernel, by decide +kernel, by decide⟩
theorem nX6_9 : mx_inn RX6 9 MX4_init 0 := ⟨List.mem_of_getElem? (i := 11) rfl, mx_in (i := 133) (by decide +kernel) (by decide +kernel), mx_in (i := 7) (by decide +kernel) (by decide +kernel), by decide +kernel, by decide +kernel, by decide⟩
theorem nX6_18 : mx_inn RX6 18 MX8_init 0 := ⟨List.mem_of_getElem? (i := 12) rfl, mx_in (i := 347) (by decide +kernel) (by decide +kernel), mx_in (i := 15) (by decide +kernel) (by decide +kernel), by decide +kernel, by decide +kernel, by decide⟩
theorem mX0_init : Cond.instanceMethod yX0_init ∈ mx_TB := mx_in (i := 309) (by decide +kernel) (by decide +kernel)
theorem mX10_init : Cond.instanceMethod yX10_init ∈ mx_TB := mx_in (i := 36) (by decide +kernel) (by decide +kernel)
theorem mX11_init : Cond.instanceMethod yX11_init ∈ mx_TB := mx_in (i := 28) (by decide +kernel) (by decide +kernel)
theorem mX12_init : Cond.instanceMethod yX12_init ∈ mx_TB := mx_in (i := 1539) (by decide +kernel) (by decide +kernel)
theorem mX1_init : Cond.instanceMethod yX1_init ∈ mx_TB := mx_in (i := 376) (by decide +kernel) (by decide +kernel)
theorem mX2_init : Cond.instanceMethod yX2_init ∈ mx_TB := mx_in (i := 233) (by decide +kernel) (by decide +kernel)
theorem mX3_init : Cond.instanceMethod yX3_init ∈ mx_TB := mx_in (i := 290) (by decide +kernel) (by decide +kernel)
theorem mX4_init : Cond.instanceMethod yX4_init ∈ mx_TB := mx_in (i := 132) (by decide +kernel) (by decide +kernel)
theorem mX5_init : Cond.instanceMethod yX5_init ∈ mx_TB := mx_in (i := 184) (by decide +kernel) (by decide +kernel)
theorem mX6_init : Cond.instanceMethod yX6_init ∈ mx_TB := mx_in (i := 385) (by decide +kernel) (by decide +kernel)
theorem mX7_init : Cond.instanceMethod yX7_init ∈ mx_TB := mx_in (i := 208) (by decide +kernel) (by decide +kernel)
theorem mX8_init : Cond.instanceMethod yX8_init ∈ mx_TB := mx_in (i := 346) (by decide +kernel) (by decide +kernel)
theorem mX9_init : Cond.instanceMethod yX9_init ∈ mx_TB := mx_in (i := 202) (by decide +kernel) (by decide +kernel)
theorem w_obj1 : Cond.instanceMethod Lib.objectInit ∈ mx_TB := mx_in (i := 31) (by decide +kernel) (by decide +kernel)
theorem w_obj2 : Cond.code Lib.objectInit ⟨#[0xb1]⟩ 1 none ∈ mx_TB := mx_in (i := 32) (by decide +kernel) (by decide +kernel)
theorem oX11_1 : Cond.methodLink RX11 1 Lib.objectInit ∈ mx_TB := mx_in (i := 30) (by decide +kernel) (by decide +kernel)
theorem oX10_3 : Cond.methodLink RX10 3 Lib.objectInit ∈ mx_TB := mx_in (i := 38) (by decide +kernel) (by decide +kernel)
theorem oX4_3 : Cond.methodLink RX4 3 Lib.objectInit ∈ mx_TB := mx_in (i := 134) (by decide +kernel) (by decide +kernel)
theorem oX5_3 : Cond.methodLink RX5 3 Lib.objectInit ∈ mx_TB := mx_in (i := 186) (by decide +kernel) (by decide +kernel)
theorem oX9_3 : Cond.methodLink RX9 3 Lib.objectInit ∈ mx_TB := mx_in (i := 204) (by decide +kernel) (by decide +kernel)
theorem oX7_3 : Cond.methodLink RX7 3 Lib.objectInit ∈ mx_TB := mx_in (i := 210) (by decide +kernel) (by decide +kernel)
theorem oX2_3 : Cond.methodLink RX2 3 Lib.objectInit ∈ mx_TB := mx_in (i := 235) (by decide +kernel) (by decide +kernel)
theorem oX3_3 : Cond.methodLink RX3 3 Lib.objectInit ∈ mx_TB := mx_in (i := 292) (by decide +kernel) (by decide +kernel)
theorem oX0_3 : Cond.methodLink RX0 3 Lib.objectInit ∈ mx_TB := mx_in (i := 311) (by decide +kernel) (by decide +kernel)
theorem oX8_3 : Cond.methodLink RX8 3 Lib.objectInit ∈ mx_TB := mx_in (i := 348) (by decide +kernel) (by decide +kernel)
theorem oX1_1 : Cond.methodLink RX1 1 Lib.objectInit ∈ mx_TB := mx_in (i := 378) (by decide +kernel) (by decide +kernel)
theorem oX6_1 : Cond.methodLink RX6 1 Lib.objectInit ∈ mx_TB := mx_in (i := 387) (by decide +kernel) (by decide +kernel)
theorem oX12_93 : Cond.methodLink RX12 93 Lib.objectInit ∈ mx_TB := mx_in (i := 1541) (by decide +kernel) (by decide +kernel)
theorem kL_8 : mx_cls RLaw 8 11 19 := ⟨RX11, TX11, rfl, mx_in (i := 25) (by decide +kernel) (by decide +kernel), mx_in (i := 26) (by decide +kernel) (by decide +kernel), mx_in (i := 1) (by decide +kernel) (by decide +kernel), inX11, tyX11_ok, by decide +kernel⟩
theorem qL_8 : Cond.classLink RLaw 8 RX11 ∈ mx_TB := mx_in (i := 25) (by decide +kernel) (by decide +kernel)
theorem kX11_7 : mx_cls RX11 7 10 12 := ⟨RX10, TX10, rfl, mx_in (i := 33) (by decide +kernel) (by decide +kernel), mx_in (i := 34) (by decide +kernel) (by decide +kernel), mx_in (i := 2) (by decide +kernel) (by decide +kernel), inX10, tyX10_ok, by decide +kernel⟩
theorem qX11_7 : Cond.classLink RX11 7 RX10 ∈ mx_TB := mx_in (i := 33) (by decide +kernel) (by decide +kernel)
theorem kX11_16 : mx_cls RX11 16 4 15 := ⟨RX4, TX4, rfl, mx_in (i := 129) (by decide +kernel) (by decide +kernel), mx_in (i := 130) (by decide +kernel) (by decide +kernel), mx_in (i := 7) (by decide +kernel) (by decide +kernel), inX4, tyX4_ok, by decide +kernel⟩
theorem qX11_16 : Cond.classLink RX11 16 RX4 ∈ mx_TB := mx_in (i := 129) (by decide +kernel) (by decide +kernel)
theorem kX11_26 : mx_cls RX11 26 5 3 := ⟨RX5, TX5, rfl, mx_in (i := 181) (by decide +kernel) (by decide +kernel), mx_in (i := 182) (by decide +kernel) (by decide +kernel), mx_in (i := 8) (by decide +kernel) (by decide +kernel), inX5, tyX5_ok, by decide +kernel⟩
theorem qX11_26 : Cond.classLink RX11 26 RX5 ∈ mx_TB := mx_in (i := 181) (by decide +kernel) (by decide +kernel)
theorem kX5_9 : mx_cls RX5 9 4 15 := ⟨RX4, TX4, rfl, mx_in (i := 187) (by decide +kernel) (by decide +kernel), mx_in (i := 130) (by decide +kernel) (by decide +kernel), mx_in (i := 7) (by decide +kernel) (by decide +kernel), inX4, tyX4_ok, by decide +kernel⟩
theorem qX5_9 : Cond.classLink RX5 9 RX4 ∈ mx_TB := mx_in (i := 187) (by decide +kernel) (by decide +kernel)
theorem kX11_33 : mx_cls RX11 33 9 2 := ⟨RX9, TX9, rfl, mx_in (i := 199) (by decide +kernel) (by decide +kernel), mx_in (i := 200) (by decide +kernel) (by decide +kernel), mx_in (i := 9) (by decide +kernel) (by decide +kernel), inX9, tyX9_ok, by decide +kernel⟩
theorem qX11_33 : Cond.classLink RX11 33 RX9 ∈ mx_TB := mx_in (i := 199) (by decide +kernel) (by decide +kernel)
theorem kX9_9 : mx_cls RX9 9 7 2 := ⟨RX7, TX7, rfl, mx_in (i := 205) (by decide +kernel) (by decide +kernel), mx_in (i := 206) (by decide +kernel) (by decide +kernel), mx_in (i := 10) (by decide +kernel) (by decide +kernel), inX7, tyX7_ok, by decide +kernel⟩
theorem qX9_9 : Cond.classLink RX9 9 RX7 ∈ mx_TB := mx_in (i := 205) (by decide +kernel) (by decide +kernel)
theorem kX11_40 : mx_cls RX11 40 7 2 := ⟨RX7, TX7, rfl, mx_in (i := 228) (by decide +kernel) (by decide +kernel), mx_in (i := 206) (by decide +kernel) (by decide +kernel), mx_in (i := 10) (by decide +kernel) (by decide +kernel), inX7, tyX7_ok, by decide +kernel⟩
theorem qX11_40 : Cond.classLink RX11 40 RX7 ∈ mx_TB := mx_in (i := 228) (by decide +kernel) (by decide +kernel)
theorem kX11_52 : mx_cls RX11 52 2 16 := ⟨RX2, TX2, rfl, mx_in (i := 230) (by decide +kernel) (by decide +kernel), mx_in (i := 231) (by decide +kernel) (by decide +kernel), mx_in (i := 12) (by decide +kernel) (by decide +kernel), inX2, tyX2_ok, by decide +kernel⟩
theorem qX11_52 : Cond.classLink RX11 52 RX2 ∈ mx_TB := mx_in (i := 230) (by decide +kernel) (by decide +kernel)
theorem kX2_9 : mx_cls RX2 9 4 15 := ⟨RX4, TX4, rfl, mx_in (i := 236) (by decide +kernel) (by decide +kernel), mx_in (i := 130) (by decide +kernel) (by decide +kernel), mx_in (i := 7) (by decide +kernel) (by decide +kernel), inX4, tyX4_ok, by decide +kernel⟩
theorem qX2_9 : Cond.classLink RX2 9 RX4 ∈ mx_TB := mx_in (i := 236) (by decide +kernel) (by decide +kernel)
theorem kX11_62 : mx_cls RX11 62 3 3 := ⟨RX3, TX3, rfl, mx_in (i := 287) (by decide +kernel) (by decide +kernel), mx_in (i := 288) (by decide +kernel) (by decide +kernel), mx_in (i := 13) (by decide +kernel) (by decide +kernel), inX3, tyX3_ok, by decide +kernel⟩
theorem qX11_62 : Cond.classLink RX11 62 RX3 ∈ mx_TB := mx_in (i := 287) (by decide +kernel) (by decide +kernel)
theorem kX3_11 : mx_cls RX3 11 4 15 := ⟨RX4, TX4, rfl, mx_in (i := 293) (by decide +kernel) (by decide +kernel), mx_in (i := 130) (by decide +kernel) (by decide +kernel), mx_in (i := 7) (by decide +kernel) (by decide +kernel), inX4, tyX4_ok, by decide +kernel⟩
theorem qX3_11 : Cond.classLink RX3 11 RX4 ∈ mx_TB := mx_in (i := 293) (by decide +kernel) (by decide +kernel)
theorem kX11_69 : mx_cls RX11 69 0 10 := ⟨RX0, TX0, rfl, mx_in (i := 306) (by decide +kernel) (by decide +kernel), mx_in (i := 307) (by decide +kernel) (by decide +kernel), mx_in (i := 14) (by decide +kernel) (by decide +kernel), inX0, tyX0_ok, by decide +kernel⟩
theorem qX11_69 : Cond.classLink RX11 69 RX0 ∈ mx_TB := mx_in (i := 306) (by decide +kernel) (by decide +kernel)
theorem kX11_76 : mx_cls RX11 76 8 7 := ⟨RX8, TX8, rfl, mx_in (i := 343) (by decide +kernel) (by decide +kernel), mx_in (i := 344) (by decide +kernel) (by decide +kernel), mx_in (i := 15) (by decide +kernel) (by decide +kernel), inX8, tyX8_ok, by decide +kernel⟩
theorem qX11_76 : Cond.classLink RX11 76 RX8 ∈ mx_TB := mx_in (i := 343) (by decide +kernel) (by decide +kernel)
theorem kX11_86 : mx_cls RX11 86 6 3 := ⟨RX6, TX6, rfl, mx_in (i := 371) (by decide +kernel) (by decide +kernel), mx_in (i := 383) (by decide +kernel) (by decide +kernel), mx_in (i := 17) (by decide +kernel) (by decide +kernel), inX6, tyX6_ok, by decide +kernel⟩
theorem qX11_86 : Cond.classLink RX11 86 RX6 ∈ mx_TB := mx_in (i := 371) (by decide +kernel) (by decide +kernel)
theorem kX11_92 : mx_cls RX11 92 1 1 := ⟨RX1, TX1, rfl, mx_in (i := 373) (by decide +kernel) (by decide +kernel), mx_in (i := 374) (by decide +kernel) (by decide +kernel), mx_in (i := 16) (by decide +kernel) (by decide +kernel), inX1, tyX1_ok, by decide +kernel⟩
theorem qX11_92 : Cond.classLink RX11 92 RX1 ∈ mx_TB := mx_in (i := 373) (by decide +kernel) (by decide +kernel)
theorem kX6_7 : mx_cls RX6 7 4 15 := ⟨RX4, TX4, rfl, mx_in (i := 388) (by decide +kernel) (by decide +kernel), mx_in (i := 130) (by decide +kernel) (by decide +kernel), mx_in (i := 7) (by decide +kernel) (by decide +kernel), inX4, tyX4_ok, by decide +kernel⟩
theorem qX6_7 : Cond.classLink RX6 7 RX4 ∈ mx_TB := mx_in (i := 388) (by decide +kernel) (by decide +kernel)
theorem kX6_16 : mx_cls RX6 16 8 7 := ⟨RX8, TX8, rfl, mx_in (i := 390) (by decide +kernel) (by decide +kernel), mx_in (i := 344) (by decide +kernel) (by decide +kernel), mx_in (i := 15) (by decide +kernel) (by decide +kernel), inX8, tyX8_ok, by decide +kernel⟩
theorem qX6_16 : Cond.classLink RX6 16 RX8 ∈ mx_TB := mx_in (i := 390) (by decide +kernel) (by decide +kernel)
theorem kL_27 : mx_cls RLaw 27 12 62 := ⟨RX12, TX12, rfl, mx_in (i := 1537) (by decide +kernel) (by decide +kernel), mx_in (i := 1531) (by decide +kernel) (by decide +kernel), mx_in (i := 18) (by decide +kernel) (by decide +kernel), inX12, tyX12_ok, by decide +kernel⟩
theorem qL_27 : Cond.classLink RLaw 27 RX12 ∈ mx_TB := mx_in (i := 1537) (by decide +kernel) (by decide +kernel)
theorem w_arrI : Cond.arrayClass .int ∈ mx_TB := mx_in (i := 126) (by decide +kernel) (by decide +kernel)
theorem w_arrJ : Cond.arrayClass .long ∈ mx_TB := mx_in (i := 127) (by decide +kernel) (by decide +kernel)
theorem w_arrZ : Cond.arrayClass .boolean ∈ mx_TB := mx_in (i := 1733) (by decide +kernel) (by decide +kernel)
