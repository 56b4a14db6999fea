/-! ===== frames with a word on their first state ===== -/
def mx_FP (Y : State → Prop) (G : mG) (l : Launch) (M : mM) (d kc ks : Nat) (Post : Option Value → mS → Prop) (pc : Nat) (L st : List Value) (z : mS) : Prop :=
  ∀ (p : Program) (e : Env) (R : Room) (s : State) (m : MethodId) (args : Array Value) (below : List Frame) (meth : Method) (c : Code) (H : Heap) (locs : List Loc) (cells slots : Nat) (ls : Array Slot),
    mx_X G M d kc ks L z p R s m args meth c H locs cells slots ls → Y s →
    W p l e R s m args below meth c H locs cells slots (MQ below (mx_Q G Post) args s R.cells R.slots (mx_fr G)) (F0 m pc ls (st.map (mx_tr G)))
section PMX
variable {Y : State → Prop} {G : mG} {l : Launch} {M : mM} {d kc ks : Nat} {Post : Option Value → mS → Prop} {pc : Nat} {L st : List Value} {z : mS}
theorem px_forget {L' : List Value} (h : mx_le L' L) (kk : mx_FP Y G l M d kc ks Post pc L' st z) : mx_FP Y G l M d kc ks Post pc L st z := by
  intro p e R s m args below meth c H locs cells slots ls ⟨hC, hR, hS, hb, hH, hl⟩ hY
  exact kk p e R s m args below meth c H locs cells slots ls ⟨hC, hR, hS, hb, hH, mx_has_mono hl (mx_le_al h)⟩ hY
theorem px_less {d' kc' ks' : Nat} (hd : d' ≤ d) (h1 : kc' ≤ kc) (h2 : ks' ≤ ks) (kk : mx_FP Y G l M d' kc' ks' Post pc L st z) : mx_FP Y G l M d kc ks Post pc L st z := by
  intro p e R s m args below meth c H locs cells slots ls ⟨hC, hR, hS, hb, hH, hl⟩ hY
  exact kk p e R s m args below meth c H locs cells slots ls ⟨hC, ⟨by omega, by omega, by omega, by omega⟩, hS, hb, hH, hl⟩ hY
theorem px_eqL {L' : List Value} (h : L = L') (kk : mx_FP Y G l M d kc ks Post pc L' st z) : mx_FP Y G l M d kc ks Post pc L st z := h ▸ kk
theorem px_eqz {z' : mS} (h : z = z') (kk : mx_FP Y G l M d kc ks Post pc L st z') : mx_FP Y G l M d kc ks Post pc L st z := h ▸ kk
theorem px_eqs {st' : List Value} (h : st = st') (kk : mx_FP Y G l M d kc ks Post pc L st' z) : mx_FP Y G l M d kc ks Post pc L st z := h ▸ kk
theorem px_iconst {n : Int} (v : Int32) (hd : decode M.2.2.1 pc = .ok (.iconst n, 1)) (hv : Int32.ofInt n = v) (kk : mx_FP Y G l M d kc ks Post (pc + 1) L (.int v :: st) z) : mx_FP Y G l M d kc ks Post pc L st z := by
  intro p e R s m args below meth c H locs cells slots ls X hY
  obtain ⟨⟨hx, hcc, hml, hrt, hlk, hown, hnm, hts, hK⟩, hR, hS, hb, hH, hl⟩ := id X
  exact lv_iconst hx hcc hd hv (kk p e R s m args below meth c H locs cells slots ls X hY)
theorem px_bipush {n : Int} (v : Int32) (hd : decode M.2.2.1 pc = .ok (.bipush n, 2)) (hv : (Int8.ofInt n).toInt32 = v) (kk : mx_FP Y G l M d kc ks Post (pc + 2) L (.int v :: st) z) : mx_FP Y G l M d kc ks Post pc L st z := by
  intro p e R s m args below meth c H locs cells slots ls X hY
  obtain ⟨⟨hx, hcc, hml, hrt, hlk, hown, hnm, hts, hK⟩, hR, hS, hb, hH, hl⟩ := id X
  exact lv_bipush hx hcc hd hv (kk p e R s m args below meth c H locs cells slots ls X hY)
theorem px_sipush {n : Int} (v : Int32) (hd : decode M.2.2.1 pc = .ok (.sipush n, 3)) (hv : (Int16.ofInt n).toInt32 = v) (kk : mx_FP Y G l M d kc ks Post (pc + 3) L (.int v :: st) z) : mx_FP Y G l M d kc ks Post pc L st z := by
  intro p e R s m args below meth c H locs cells slots ls X hY
  obtain ⟨⟨hx, hcc, hml, hrt, hlk, hown, hnm, hts, hK⟩, hR, hS, hb, hH, hl⟩ := id X
  exact lv_sipush hx hcc hd hv (kk p e R s m args below meth c H locs cells slots ls X hY)
theorem px_lconst {n : Fin 2} (v : Int64) (hd : decode M.2.2.1 pc = .ok (.lconst n, 1)) (hv : Int64.ofNat (n : Nat) = v) (kk : mx_FP Y G l M d kc ks Post (pc + 1) L (.long v :: st) z) : mx_FP Y G l M d kc ks Post pc L st z := by
  intro p e R s m args below meth c H locs cells slots ls X hY
  obtain ⟨⟨hx, hcc, hml, hrt, hlk, hown, hnm, hts, hK⟩, hR, hS, hb, hH, hl⟩ := id X
  exact lv_lconst hx hcc hd hv (kk p e R s m args below meth c H locs cells slots ls X hY)
theorem px_null  (hd : decode M.2.2.1 pc = .ok (.aconst_null, 1)) (kk : mx_FP Y G l M d kc ks Post (pc + 1) L (.null :: st) z) : mx_FP Y G l M d kc ks Post pc L st z := by
  intro p e R s m args below meth c H locs cells slots ls X hY
  obtain ⟨⟨hx, hcc, hml, hrt, hlk, hown, hnm, hts, hK⟩, hR, hS, hb, hH, hl⟩ := id X
  exact lv_null hx hcc hd (kk p e R s m args below meth c H locs cells slots ls X hY)
theorem px_ldc {idx : Nat} (v : Int32) (hd : decode M.2.2.1 pc = .ok (.ldc idx, 2)) (hw : Cond.constant M.1 idx v ∈ mx_TB) (kk : mx_FP Y G l M d kc ks Post (pc + 2) L (.int v :: st) z) : mx_FP Y G l M d kc ks Post pc L st z := by
  intro p e R s m args below meth c H locs cells slots ls X hY
  obtain ⟨⟨hx, hcc, hml, hrt, hlk, hown, hnm, hts, hK⟩, hR, hS, hb, hH, hl⟩ := id X
  exact lv_ldc hx hcc hown (hts _ hw) hd (kk p e R s m args below meth c H locs cells slots ls X hY)
theorem px_ldcw {idx : Nat} (v : Int32) (hd : decode M.2.2.1 pc = .ok (.ldc_w idx, 3)) (hw : Cond.constant M.1 idx v ∈ mx_TB) (kk : mx_FP Y G l M d kc ks Post (pc + 3) L (.int v :: st) z) : mx_FP Y G l M d kc ks Post pc L st z := by
  intro p e R s m args below meth c H locs cells slots ls X hY
  obtain ⟨⟨hx, hcc, hml, hrt, hlk, hown, hnm, hts, hK⟩, hR, hS, hb, hH, hl⟩ := id X
  exact lv_ldcw hx hcc hown (hts _ hw) hd (kk p e R s m args below meth c H locs cells slots ls X hY)
theorem px_ldc2 {idx : Nat} (v : Int64) (hd : decode M.2.2.1 pc = .ok (.ldc2_w idx, 3)) (hw : Cond.constantLong M.1 idx v ∈ mx_TB) (kk : mx_FP Y G l M d kc ks Post (pc + 3) L (.long v :: st) z) : mx_FP Y G l M d kc ks Post pc L st z := by
  intro p e R s m args below meth c H locs cells slots ls X hY
  obtain ⟨⟨hx, hcc, hml, hrt, hlk, hown, hnm, hts, hK⟩, hR, hS, hb, hH, hl⟩ := id X
  exact lv_ldc2 hx hcc hown (hts _ hw) hd (kk p e R s m args below meth c H locs cells slots ls X hY)
theorem px_iload_n {k : Fin 4} {i : Nat} {x : Int32} (hd : decode M.2.2.1 pc = .ok (.iload_n k, 1)) (hi : (k : Nat) = i) (hv : L[i]? = some (.int x)) (kk : mx_FP Y G l M d kc ks Post (pc + 1) L (.int x :: st) z) : mx_FP Y G l M d kc ks Post pc L st z := by
  intro p e R s m args below meth c H locs cells slots ls X hY
  obtain ⟨⟨hx, hcc, hml, hrt, hlk, hown, hnm, hts, hK⟩, hR, hS, hb, hH, hl⟩ := id X
  exact lv_iload_n hx hcc hd hi (mx_at hl hv (fun f q => by cases q)) (kk p e R s m args below meth c H locs cells slots ls X hY)
theorem px_iload {i : Nat} {x : Int32} (hd : decode M.2.2.1 pc = .ok (.iload i, 2)) (hv : L[i]? = some (.int x)) (kk : mx_FP Y G l M d kc ks Post (pc + 2) L (.int x :: st) z) : mx_FP Y G l M d kc ks Post pc L st z := by
  intro p e R s m args below meth c H locs cells slots ls X hY
  obtain ⟨⟨hx, hcc, hml, hrt, hlk, hown, hnm, hts, hK⟩, hR, hS, hb, hH, hl⟩ := id X
  exact lv_iload hx hcc hd (mx_at hl hv (fun f q => by cases q)) (kk p e R s m args below meth c H locs cells slots ls X hY)
theorem px_lload_n {k : Fin 4} {i : Nat} {x : Int64} (hd : decode M.2.2.1 pc = .ok (.lload_n k, 1)) (hi : (k : Nat) = i) (hv : L[i]? = some (.long x)) (kk : mx_FP Y G l M d kc ks Post (pc + 1) L (.long x :: st) z) : mx_FP Y G l M d kc ks Post pc L st z := by
  intro p e R s m args below meth c H locs cells slots ls X hY
  obtain ⟨⟨hx, hcc, hml, hrt, hlk, hown, hnm, hts, hK⟩, hR, hS, hb, hH, hl⟩ := id X
  exact lv_lload_n hx hcc hd hi (mx_at hl hv (fun f q => by cases q)) (kk p e R s m args below meth c H locs cells slots ls X hY)
theorem px_lload {i : Nat} {x : Int64} (hd : decode M.2.2.1 pc = .ok (.lload i, 2)) (hv : L[i]? = some (.long x)) (kk : mx_FP Y G l M d kc ks Post (pc + 2) L (.long x :: st) z) : mx_FP Y G l M d kc ks Post pc L st z := by
  intro p e R s m args below meth c H locs cells slots ls X hY
  obtain ⟨⟨hx, hcc, hml, hrt, hlk, hown, hnm, hts, hK⟩, hR, hS, hb, hH, hl⟩ := id X
  exact lv_lload hx hcc hd (mx_at hl hv (fun f q => by cases q)) (kk p e R s m args below meth c H locs cells slots ls X hY)
theorem px_aload_n {k : Fin 4} {i : Nat} {x : Nat} (hd : decode M.2.2.1 pc = .ok (.aload_n k, 1)) (hi : (k : Nat) = i) (hv : L[i]? = some (.ref x)) (kk : mx_FP Y G l M d kc ks Post (pc + 1) L (.ref x :: st) z) : mx_FP Y G l M d kc ks Post pc L st z := by
  intro p e R s m args below meth c H locs cells slots ls X hY
  obtain ⟨⟨hx, hcc, hml, hrt, hlk, hown, hnm, hts, hK⟩, hR, hS, hb, hH, hl⟩ := id X
  exact lv_aload_n hx hcc hd hi (mx_at hl hv (fun f q => by cases q)) (kk p e R s m args below meth c H locs cells slots ls X hY)
theorem px_aload {i : Nat} {x : Nat} (hd : decode M.2.2.1 pc = .ok (.aload i, 2)) (hv : L[i]? = some (.ref x)) (kk : mx_FP Y G l M d kc ks Post (pc + 2) L (.ref x :: st) z) : mx_FP Y G l M d kc ks Post pc L st z := by
  intro p e R s m args below meth c H locs cells slots ls X hY
  obtain ⟨⟨hx, hcc, hml, hrt, hlk, hown, hnm, hts, hK⟩, hR, hS, hb, hH, hl⟩ := id X
  exact lv_aload hx hcc hd (mx_at hl hv (fun f q => by cases q)) (kk p e R s m args below meth c H locs cells slots ls X hY)
theorem px_aload_nN {k : Fin 4} {i : Nat} (hd : decode M.2.2.1 pc = .ok (.aload_n k, 1)) (hi : (k : Nat) = i) (hv : L[i]? = some .null) (kk : mx_FP Y G l M d kc ks Post (pc + 1) L (.null :: st) z) : mx_FP Y G l M d kc ks Post pc L st z := by
  intro p e R s m args below meth c H locs cells slots ls X hY
  obtain ⟨⟨hx, hcc, hml, hrt, hlk, hown, hnm, hts, hK⟩, hR, hS, hb, hH, hl⟩ := id X
  exact lv_aload_nN hx hcc hd hi (mx_at hl hv (fun f q => by cases q)) (kk p e R s m args below meth c H locs cells slots ls X hY)
theorem px_aloadN {i : Nat} (hd : decode M.2.2.1 pc = .ok (.aload i, 2)) (hv : L[i]? = some .null) (kk : mx_FP Y G l M d kc ks Post (pc + 2) L (.null :: st) z) : mx_FP Y G l M d kc ks Post pc L st z := by
  intro p e R s m args below meth c H locs cells slots ls X hY
  obtain ⟨⟨hx, hcc, hml, hrt, hlk, hown, hnm, hts, hK⟩, hR, hS, hb, hH, hl⟩ := id X
  exact lv_aloadN hx hcc hd (mx_at hl hv (fun f q => by cases q)) (kk p e R s m args below meth c H locs cells slots ls X hY)
theorem px_istore_n {k : Fin 4} {i : Nat} {x : Int32} {L2 : List Value} (hd : decode M.2.2.1 pc = .ok (.istore_n k, 1)) (hi : (k : Nat) = i) (hn : i < M.2.2.2.1) (hL : mx_s1 L i (.int x) = L2) (kk : mx_FP Y G l M d kc ks Post (pc + 1) L2 st z) : mx_FP Y G l M d kc ks Post pc L (.int x :: st) z := by
  intro p e R s m args below meth c H locs cells slots ls X hY
  obtain ⟨⟨hx, hcc, hml, hrt, hlk, hown, hnm, hts, hK⟩, hR, hS, hb, hH, hl⟩ := id X
  exact lv_istore_n hx hcc hd hi hl hn rfl (fun ls2 hl2 => kk p e R s m args below meth c H locs cells slots ls2 ⟨X.1, hR, hS, hb, hH, hL ▸ mx_has_mono hl2 (fun q hq => mx_s1_in (v := .int x) hq)⟩ hY)
theorem px_istore {i : Nat} {x : Int32} {L2 : List Value} (hd : decode M.2.2.1 pc = .ok (.istore i, 2)) (hn : i < M.2.2.2.1) (hL : mx_s1 L i (.int x) = L2) (kk : mx_FP Y G l M d kc ks Post (pc + 2) L2 st z) : mx_FP Y G l M d kc ks Post pc L (.int x :: st) z := by
  intro p e R s m args below meth c H locs cells slots ls X hY
  obtain ⟨⟨hx, hcc, hml, hrt, hlk, hown, hnm, hts, hK⟩, hR, hS, hb, hH, hl⟩ := id X
  exact lv_istore hx hcc hd hl hn rfl (fun ls2 hl2 => kk p e R s m args below meth c H locs cells slots ls2 ⟨X.1, hR, hS, hb, hH, hL ▸ mx_has_mono hl2 (fun q hq => mx_s1_in (v := .int x) hq)⟩ hY)
theorem px_lstore_n {k : Fin 4} {i : Nat} {x : Int64} {L2 : List Value} (hd : decode M.2.2.1 pc = .ok (.lstore_n k, 1)) (hi : (k : Nat) = i) (hn : i + 1 < M.2.2.2.1) (hL : mx_s2 L i (.long x) = L2) (kk : mx_FP Y G l M d kc ks Post (pc + 1) L2 st z) : mx_FP Y G l M d kc ks Post pc L (.long x :: st) z := by
  intro p e R s m args below meth c H locs cells slots ls X hY
  obtain ⟨⟨hx, hcc, hml, hrt, hlk, hown, hnm, hts, hK⟩, hR, hS, hb, hH, hl⟩ := id X
  exact lv_lstore_n hx hcc hd hi hl hn rfl (fun ls2 hl2 => kk p e R s m args below meth c H locs cells slots ls2 ⟨X.1, hR, hS, hb, hH, hL ▸ mx_has_mono hl2 (fun q hq => mx_s2_in (v := .long x) hq)⟩ hY)
theorem px_lstore {i : Nat} {x : Int64} {L2 : List Value} (hd : decode M.2.2.1 pc = .ok (.lstore i, 2)) (hn : i + 1 < M.2.2.2.1) (hL : mx_s2 L i (.long x) = L2) (kk : mx_FP Y G l M d kc ks Post (pc + 2) L2 st z) : mx_FP Y G l M d kc ks Post pc L (.long x :: st) z := by
  intro p e R s m args below meth c H locs cells slots ls X hY
  obtain ⟨⟨hx, hcc, hml, hrt, hlk, hown, hnm, hts, hK⟩, hR, hS, hb, hH, hl⟩ := id X
  exact lv_lstore hx hcc hd hl hn rfl (fun ls2 hl2 => kk p e R s m args below meth c H locs cells slots ls2 ⟨X.1, hR, hS, hb, hH, hL ▸ mx_has_mono hl2 (fun q hq => mx_s2_in (v := .long x) hq)⟩ hY)
theorem px_astore_n {k : Fin 4} {i : Nat} {x : Nat} {L2 : List Value} (hd : decode M.2.2.1 pc = .ok (.astore_n k, 1)) (hi : (k : Nat) = i) (hn : i < M.2.2.2.1) (hL : mx_s1 L i (.ref x) = L2) (kk : mx_FP Y G l M d kc ks Post (pc + 1) L2 st z) : mx_FP Y G l M d kc ks Post pc L (.ref x :: st) z := by
  intro p e R s m args below meth c H locs cells slots ls X hY
  obtain ⟨⟨hx, hcc, hml, hrt, hlk, hown, hnm, hts, hK⟩, hR, hS, hb, hH, hl⟩ := id X
  exact lv_astore_n hx hcc hd hi hl hn rfl (fun ls2 hl2 => kk p e R s m args below meth c H locs cells slots ls2 ⟨X.1, hR, hS, hb, hH, hL ▸ mx_has_mono hl2 (fun q hq => mx_s1_in (v := .ref x) hq)⟩ hY)
theorem px_astore {i : Nat} {x : Nat} {L2 : List Value} (hd : decode M.2.2.1 pc = .ok (.astore i, 2)) (hn : i < M.2.2.2.1) (hL : mx_s1 L i (.ref x) = L2) (kk : mx_FP Y G l M d kc ks Post (pc + 2) L2 st z) : mx_FP Y G l M d kc ks Post pc L (.ref x :: st) z := by
  intro p e R s m args below meth c H locs cells slots ls X hY
  obtain ⟨⟨hx, hcc, hml, hrt, hlk, hown, hnm, hts, hK⟩, hR, hS, hb, hH, hl⟩ := id X
  exact lv_astore hx hcc hd hl hn rfl (fun ls2 hl2 => kk p e R s m args below meth c H locs cells slots ls2 ⟨X.1, hR, hS, hb, hH, hL ▸ mx_has_mono hl2 (fun q hq => mx_s1_in (v := .ref x) hq)⟩ hY)
theorem px_astore_nN {k : Fin 4} {i : Nat} {L2 : List Value} (hd : decode M.2.2.1 pc = .ok (.astore_n k, 1)) (hi : (k : Nat) = i) (hn : i < M.2.2.2.1) (hL : mx_s1 L i .null = L2) (kk : mx_FP Y G l M d kc ks Post (pc + 1) L2 st z) : mx_FP Y G l M d kc ks Post pc L (.null :: st) z := by
  intro p e R s m args below meth c H locs cells slots ls X hY
  obtain ⟨⟨hx, hcc, hml, hrt, hlk, hown, hnm, hts, hK⟩, hR, hS, hb, hH, hl⟩ := id X
  exact lv_astore_nN hx hcc hd hi hl hn rfl (fun ls2 hl2 => kk p e R s m args below meth c H locs cells slots ls2 ⟨X.1, hR, hS, hb, hH, hL ▸ mx_has_mono hl2 (fun q hq => mx_s1_in (v := .null) hq)⟩ hY)
theorem px_astoreN {i : Nat} {L2 : List Value} (hd : decode M.2.2.1 pc = .ok (.astore i, 2)) (hn : i < M.2.2.2.1) (hL : mx_s1 L i .null = L2) (kk : mx_FP Y G l M d kc ks Post (pc + 2) L2 st z) : mx_FP Y G l M d kc ks Post pc L (.null :: st) z := by
  intro p e R s m args below meth c H locs cells slots ls X hY
  obtain ⟨⟨hx, hcc, hml, hrt, hlk, hown, hnm, hts, hK⟩, hR, hS, hb, hH, hl⟩ := id X
  exact lv_astoreN hx hcc hd hl hn rfl (fun ls2 hl2 => kk p e R s m args below meth c H locs cells slots ls2 ⟨X.1, hR, hS, hb, hH, hL ▸ mx_has_mono hl2 (fun q hq => mx_s1_in (v := .null) hq)⟩ hY)
theorem px_iinc {i : Nat} {n : Int} {x : Int32} (v : Int32) {L2 : List Value} (hd : decode M.2.2.1 pc = .ok (.iinc i n, 3)) (hv : L[i]? = some (.int x)) (hv2 : x + Int32.ofInt n = v) (hn : i < M.2.2.2.1) (hL : mx_s1 L i (.int v) = L2) (kk : mx_FP Y G l M d kc ks Post (pc + 3) L2 st z) : mx_FP Y G l M d kc ks Post pc L st z := by
  intro p e R s m args below meth c H locs cells slots ls X hY
  obtain ⟨⟨hx, hcc, hml, hrt, hlk, hown, hnm, hts, hK⟩, hR, hS, hb, hH, hl⟩ := id X
  have hm := mx_al_in (G := G) (n := 0) hv (fun f q => by cases q)
  rw [Nat.zero_add] at hm
  obtain ⟨k, hk⟩ := List.getElem?_of_mem hm
  exact lv_iinc hx hcc hd hl hk hv2 hn rfl (fun ls2 hl2 => kk p e R s m args below meth c H locs cells slots ls2 ⟨X.1, hR, hS, hb, hH, hL ▸ mx_has_mono hl2 (fun q hq => mx_s1_in (v := .int v) hq)⟩ hY)
theorem px_iadd {x y : Int32} (hd : decode M.2.2.1 pc = .ok (.iadd, 1)) (kk : mx_FP Y G l M d kc ks Post (pc + 1) L (.int (x + y) :: st) z) : mx_FP Y G l M d kc ks Post pc L (.int y :: .int x :: st) z := by
  intro p e R s m args below meth c H locs cells slots ls X hY
  obtain ⟨⟨hx, hcc, hml, hrt, hlk, hown, hnm, hts, hK⟩, hR, hS, hb, hH, hl⟩ := id X
  exact lv_iadd hx hcc hd (kk p e R s m args below meth c H locs cells slots ls X hY)
theorem px_isub {x y : Int32} (hd : decode M.2.2.1 pc = .ok (.isub, 1)) (kk : mx_FP Y G l M d kc ks Post (pc + 1) L (.int (x - y) :: st) z) : mx_FP Y G l M d kc ks Post pc L (.int y :: .int x :: st) z := by
  intro p e R s m args below meth c H locs cells slots ls X hY
  obtain ⟨⟨hx, hcc, hml, hrt, hlk, hown, hnm, hts, hK⟩, hR, hS, hb, hH, hl⟩ := id X
  exact lv_isub hx hcc hd (kk p e R s m args below meth c H locs cells slots ls X hY)
theorem px_imul {x y : Int32} (hd : decode M.2.2.1 pc = .ok (.imul, 1)) (kk : mx_FP Y G l M d kc ks Post (pc + 1) L (.int (x * y) :: st) z) : mx_FP Y G l M d kc ks Post pc L (.int y :: .int x :: st) z := by
  intro p e R s m args below meth c H locs cells slots ls X hY
  obtain ⟨⟨hx, hcc, hml, hrt, hlk, hown, hnm, hts, hK⟩, hR, hS, hb, hH, hl⟩ := id X
  exact lv_imul hx hcc hd (kk p e R s m args below meth c H locs cells slots ls X hY)
theorem px_iand {x y : Int32} (hd : decode M.2.2.1 pc = .ok (.iand, 1)) (kk : mx_FP Y G l M d kc ks Post (pc + 1) L (.int (x &&& y) :: st) z) : mx_FP Y G l M d kc ks Post pc L (.int y :: .int x :: st) z := by
  intro p e R s m args below meth c H locs cells slots ls X hY
  obtain ⟨⟨hx, hcc, hml, hrt, hlk, hown, hnm, hts, hK⟩, hR, hS, hb, hH, hl⟩ := id X
  exact lv_iand hx hcc hd (kk p e R s m args below meth c H locs cells slots ls X hY)
theorem px_ior {x y : Int32} (hd : decode M.2.2.1 pc = .ok (.ior, 1)) (kk : mx_FP Y G l M d kc ks Post (pc + 1) L (.int (x ||| y) :: st) z) : mx_FP Y G l M d kc ks Post pc L (.int y :: .int x :: st) z := by
  intro p e R s m args below meth c H locs cells slots ls X hY
  obtain ⟨⟨hx, hcc, hml, hrt, hlk, hown, hnm, hts, hK⟩, hR, hS, hb, hH, hl⟩ := id X
  exact lv_ior hx hcc hd (kk p e R s m args below meth c H locs cells slots ls X hY)
theorem px_ixor {x y : Int32} (hd : decode M.2.2.1 pc = .ok (.ixor, 1)) (kk : mx_FP Y G l M d kc ks Post (pc + 1) L (.int (x ^^^ y) :: st) z) : mx_FP Y G l M d kc ks Post pc L (.int y :: .int x :: st) z := by
  intro p e R s m args below meth c H locs cells slots ls X hY
  obtain ⟨⟨hx, hcc, hml, hrt, hlk, hown, hnm, hts, hK⟩, hR, hS, hb, hH, hl⟩ := id X
  exact lv_ixor hx hcc hd (kk p e R s m args below meth c H locs cells slots ls X hY)
theorem px_ishl {x y : Int32} (hd : decode M.2.2.1 pc = .ok (.ishl, 1)) (kk : mx_FP Y G l M d kc ks Post (pc + 1) L (.int (x <<< (y &&& 31)) :: st) z) : mx_FP Y G l M d kc ks Post pc L (.int y :: .int x :: st) z := by
  intro p e R s m args below meth c H locs cells slots ls X hY
  obtain ⟨⟨hx, hcc, hml, hrt, hlk, hown, hnm, hts, hK⟩, hR, hS, hb, hH, hl⟩ := id X
  exact lv_ishl hx hcc hd (kk p e R s m args below meth c H locs cells slots ls X hY)
theorem px_ishr {x y : Int32} (hd : decode M.2.2.1 pc = .ok (.ishr, 1)) (kk : mx_FP Y G l M d kc ks Post (pc + 1) L (.int (x >>> (y &&& 31)) :: st) z) : mx_FP Y G l M d kc ks Post pc L (.int y :: .int x :: st) z := by
  intro p e R s m args below meth c H locs cells slots ls X hY
  obtain ⟨⟨hx, hcc, hml, hrt, hlk, hown, hnm, hts, hK⟩, hR, hS, hb, hH, hl⟩ := id X
  exact lv_ishr hx hcc hd (kk p e R s m args below meth c H locs cells slots ls X hY)
theorem px_idiv {x y : Int32} (hd : decode M.2.2.1 pc = .ok (.idiv, 1)) (hne : ¬ y = 0) (kk : mx_FP Y G l M d kc ks Post (pc + 1) L (.int (x / y) :: st) z) : mx_FP Y G l M d kc ks Post pc L (.int y :: .int x :: st) z := by
  intro p e R s m args below meth c H locs cells slots ls X hY
  obtain ⟨⟨hx, hcc, hml, hrt, hlk, hown, hnm, hts, hK⟩, hR, hS, hb, hH, hl⟩ := id X
  exact lv_idiv hx hcc hd hne (kk p e R s m args below meth c H locs cells slots ls X hY)
theorem px_irem {x y : Int32} (hd : decode M.2.2.1 pc = .ok (.irem, 1)) (hne : ¬ y = 0) (kk : mx_FP Y G l M d kc ks Post (pc + 1) L (.int (x - x / y * y) :: st) z) : mx_FP Y G l M d kc ks Post pc L (.int y :: .int x :: st) z := by
  intro p e R s m args below meth c H locs cells slots ls X hY
  obtain ⟨⟨hx, hcc, hml, hrt, hlk, hown, hnm, hts, hK⟩, hR, hS, hb, hH, hl⟩ := id X
  exact lv_irem hx hcc hd hne (kk p e R s m args below meth c H locs cells slots ls X hY)
theorem px_ineg {x : Int32} (hd : decode M.2.2.1 pc = .ok (.ineg, 1)) (kk : mx_FP Y G l M d kc ks Post (pc + 1) L (.int (-x) :: st) z) : mx_FP Y G l M d kc ks Post pc L (.int x :: st) z := by
  intro p e R s m args below meth c H locs cells slots ls X hY
  obtain ⟨⟨hx, hcc, hml, hrt, hlk, hown, hnm, hts, hK⟩, hR, hS, hb, hH, hl⟩ := id X
  exact lv_ineg hx hcc hd (kk p e R s m args below meth c H locs cells slots ls X hY)
theorem px_iushr {x y : Int32} (hd : decode M.2.2.1 pc = .ok (.iushr, 1)) (kk : mx_FP Y G l M d kc ks Post (pc + 1) L (.int ((x.toUInt32 >>> (y.toUInt32 &&& Int32.toUInt32 31)).toInt32) :: st) z) : mx_FP Y G l M d kc ks Post pc L (.int y :: .int x :: st) z := by
  intro p e R s m args below meth c H locs cells slots ls X hY
  obtain ⟨⟨hx, hcc, hml, hrt, hlk, hown, hnm, hts, hK⟩, hR, hS, hb, hH, hl⟩ := id X
  exact lv_iushr hx hcc hd rfl (kk p e R s m args below meth c H locs cells slots ls X hY)
theorem px_ladd {x y : Int64} (hd : decode M.2.2.1 pc = .ok (.ladd, 1)) (kk : mx_FP Y G l M d kc ks Post (pc + 1) L (.long (x + y) :: st) z) : mx_FP Y G l M d kc ks Post pc L (.long y :: .long x :: st) z := by
  intro p e R s m args below meth c H locs cells slots ls X hY
  obtain ⟨⟨hx, hcc, hml, hrt, hlk, hown, hnm, hts, hK⟩, hR, hS, hb, hH, hl⟩ := id X
  exact lv_ladd hx hcc hd (kk p e R s m args below meth c H locs cells slots ls X hY)
theorem px_lsub {x y : Int64} (hd : decode M.2.2.1 pc = .ok (.lsub, 1)) (kk : mx_FP Y G l M d kc ks Post (pc + 1) L (.long (x - y) :: st) z) : mx_FP Y G l M d kc ks Post pc L (.long y :: .long x :: st) z := by
  intro p e R s m args below meth c H locs cells slots ls X hY
  obtain ⟨⟨hx, hcc, hml, hrt, hlk, hown, hnm, hts, hK⟩, hR, hS, hb, hH, hl⟩ := id X
  exact lv_lsub hx hcc hd (kk p e R s m args below meth c H locs cells slots ls X hY)
theorem px_lmul {x y : Int64} (hd : decode M.2.2.1 pc = .ok (.lmul, 1)) (kk : mx_FP Y G l M d kc ks Post (pc + 1) L (.long (x * y) :: st) z) : mx_FP Y G l M d kc ks Post pc L (.long y :: .long x :: st) z := by
  intro p e R s m args below meth c H locs cells slots ls X hY
  obtain ⟨⟨hx, hcc, hml, hrt, hlk, hown, hnm, hts, hK⟩, hR, hS, hb, hH, hl⟩ := id X
  exact lv_lmul hx hcc hd (kk p e R s m args below meth c H locs cells slots ls X hY)
theorem px_land {x y : Int64} (hd : decode M.2.2.1 pc = .ok (.land, 1)) (kk : mx_FP Y G l M d kc ks Post (pc + 1) L (.long (x &&& y) :: st) z) : mx_FP Y G l M d kc ks Post pc L (.long y :: .long x :: st) z := by
  intro p e R s m args below meth c H locs cells slots ls X hY
  obtain ⟨⟨hx, hcc, hml, hrt, hlk, hown, hnm, hts, hK⟩, hR, hS, hb, hH, hl⟩ := id X
  exact lv_land hx hcc hd (kk p e R s m args below meth c H locs cells slots ls X hY)
theorem px_lor {x y : Int64} (hd : decode M.2.2.1 pc = .ok (.lor, 1)) (kk : mx_FP Y G l M d kc ks Post (pc + 1) L (.long (x ||| y) :: st) z) : mx_FP Y G l M d kc ks Post pc L (.long y :: .long x :: st) z := by
  intro p e R s m args below meth c H locs cells slots ls X hY
  obtain ⟨⟨hx, hcc, hml, hrt, hlk, hown, hnm, hts, hK⟩, hR, hS, hb, hH, hl⟩ := id X
  exact lv_lor hx hcc hd (kk p e R s m args below meth c H locs cells slots ls X hY)
theorem px_ldiv {x y : Int64} (hd : decode M.2.2.1 pc = .ok (.ldiv, 1)) (hne : ¬ y = 0) (kk : mx_FP Y G l M d kc ks Post (pc + 1) L (.long (x / y) :: st) z) : mx_FP Y G l M d kc ks Post pc L (.long y :: .long x :: st) z := by
  intro p e R s m args below meth c H locs cells slots ls X hY
  obtain ⟨⟨hx, hcc, hml, hrt, hlk, hown, hnm, hts, hK⟩, hR, hS, hb, hH, hl⟩ := id X
  exact lv_ldiv hx hcc hd hne (kk p e R s m args below meth c H locs cells slots ls X hY)
theorem px_lrem {x y : Int64} (hd : decode M.2.2.1 pc = .ok (.lrem, 1)) (hne : ¬ y = 0) (kk : mx_FP Y G l M d kc ks Post (pc + 1) L (.long (x - x / y * y) :: st) z) : mx_FP Y G l M d kc ks Post pc L (.long y :: .long x :: st) z := by
  intro p e R s m args below meth c H locs cells slots ls X hY
  obtain ⟨⟨hx, hcc, hml, hrt, hlk, hown, hnm, hts, hK⟩, hR, hS, hb, hH, hl⟩ := id X
  exact lv_lrem hx hcc hd hne (kk p e R s m args below meth c H locs cells slots ls X hY)
theorem px_lshr {x : Int64} {y : Int32} (hd : decode M.2.2.1 pc = .ok (.lshr, 1)) (kk : mx_FP Y G l M d kc ks Post (pc + 1) L (.long (x >>> (y.toInt64 &&& 63)) :: st) z) : mx_FP Y G l M d kc ks Post pc L (.int y :: .long x :: st) z := by
  intro p e R s m args below meth c H locs cells slots ls X hY
  obtain ⟨⟨hx, hcc, hml, hrt, hlk, hown, hnm, hts, hK⟩, hR, hS, hb, hH, hl⟩ := id X
  exact lv_lshr hx hcc hd rfl (kk p e R s m args below meth c H locs cells slots ls X hY)
theorem px_i2l {x : Int32} (hd : decode M.2.2.1 pc = .ok (.i2l, 1)) (kk : mx_FP Y G l M d kc ks Post (pc + 1) L (.long x.toInt64 :: st) z) : mx_FP Y G l M d kc ks Post pc L (.int x :: st) z := by
  intro p e R s m args below meth c H locs cells slots ls X hY
  obtain ⟨⟨hx, hcc, hml, hrt, hlk, hown, hnm, hts, hK⟩, hR, hS, hb, hH, hl⟩ := id X
  exact lv_i2l hx hcc hd rfl (kk p e R s m args below meth c H locs cells slots ls X hY)
theorem px_l2i {x : Int64} (hd : decode M.2.2.1 pc = .ok (.l2i, 1)) (kk : mx_FP Y G l M d kc ks Post (pc + 1) L (.int x.toInt32 :: st) z) : mx_FP Y G l M d kc ks Post pc L (.long x :: st) z := by
  intro p e R s m args below meth c H locs cells slots ls X hY
  obtain ⟨⟨hx, hcc, hml, hrt, hlk, hown, hnm, hts, hK⟩, hR, hS, hb, hH, hl⟩ := id X
  exact lv_l2i hx hcc hd rfl (kk p e R s m args below meth c H locs cells slots ls X hY)
theorem px_lcmp {x y : Int64} (hd : decode M.2.2.1 pc = .ok (.lcmp, 1)) (kk : mx_FP Y G l M d kc ks Post (pc + 1) L (.int (lg_cmp x y) :: st) z) : mx_FP Y G l M d kc ks Post pc L (.long y :: .long x :: st) z := by
  intro p e R s m args below meth c H locs cells slots ls X hY
  obtain ⟨⟨hx, hcc, hml, hrt, hlk, hown, hnm, hts, hK⟩, hR, hS, hb, hH, hl⟩ := id X
  exact W.lcmp hx hcc hd (kk p e R s m args below meth c H locs cells slots ls X hY)
theorem px_dup {v : Value} (hd : decode M.2.2.1 pc = .ok (.dup, 1)) (hv : v.category = 1) (kk : mx_FP Y G l M d kc ks Post (pc + 1) L (v :: v :: st) z) : mx_FP Y G l M d kc ks Post pc L (v :: st) z := by
  intro p e R s m args below meth c H locs cells slots ls X hY
  obtain ⟨⟨hx, hcc, hml, hrt, hlk, hown, hnm, hts, hK⟩, hR, hS, hb, hH, hl⟩ := id X
  exact lv_dup hx hcc hd (by rw [mx_tr_cat]; exact hv) (kk p e R s m args below meth c H locs cells slots ls X hY)
theorem px_pop {v : Value} (hd : decode M.2.2.1 pc = .ok (.pop, 1)) (hv : v.category = 1) (kk : mx_FP Y G l M d kc ks Post (pc + 1) L st z) : mx_FP Y G l M d kc ks Post pc L (v :: st) z := by
  intro p e R s m args below meth c H locs cells slots ls X hY
  obtain ⟨⟨hx, hcc, hml, hrt, hlk, hown, hnm, hts, hK⟩, hR, hS, hb, hH, hl⟩ := id X
  exact lv_pop hx hcc hd (by rw [mx_tr_cat]; exact hv) (kk p e R s m args below meth c H locs cells slots ls X hY)
theorem px_dup2 {v u : Value} (hd : decode M.2.2.1 pc = .ok (.dup2, 1)) (hv : v.category = 1) (hu : u.category = 1) (kk : mx_FP Y G l M d kc ks Post (pc + 1) L (v :: u :: v :: u :: st) z) : mx_FP Y G l M d kc ks Post pc L (v :: u :: st) z := by
  intro p e R s m args below meth c H locs cells slots ls X hY
  obtain ⟨⟨hx, hcc, hml, hrt, hlk, hown, hnm, hts, hK⟩, hR, hS, hb, hH, hl⟩ := id X
  exact lv_dup2_11 hx hcc hd (by rw [mx_tr_cat]; exact hv) (by rw [mx_tr_cat]; exact hu) (kk p e R s m args below meth c H locs cells slots ls X hY)
theorem px_if_eq {x : Int32} {off : Int} {tgt : Nat} (hd : decode M.2.2.1 pc = .ok (.ifCond .eq off, 3)) (ht : (pc : Int) + off = (tgt : Int)) (kt : x = 0 → mx_FP Y G l M d kc ks Post tgt L st z) (kf : ¬ x = 0 → mx_FP Y G l M d kc ks Post (pc + 3) L st z) : mx_FP Y G l M d kc ks Post pc L (.int x :: st) z := by
  intro p e R s m args below meth c H locs cells slots ls X hY
  obtain ⟨⟨hx, hcc, hml, hrt, hlk, hown, hnm, hts, hK⟩, hR, hS, hb, hH, hl⟩ := id X
  exact lv_if_eq hx hcc hd ht (fun h => kt h p e R s m args below meth c H locs cells slots ls X hY) (fun h => kf h p e R s m args below meth c H locs cells slots ls X hY)
theorem px_if_ne {x : Int32} {off : Int} {tgt : Nat} (hd : decode M.2.2.1 pc = .ok (.ifCond .ne off, 3)) (ht : (pc : Int) + off = (tgt : Int)) (kt : ¬ x = 0 → mx_FP Y G l M d kc ks Post tgt L st z) (kf : x = 0 → mx_FP Y G l M d kc ks Post (pc + 3) L st z) : mx_FP Y G l M d kc ks Post pc L (.int x :: st) z := by
  intro p e R s m args below meth c H locs cells slots ls X hY
  obtain ⟨⟨hx, hcc, hml, hrt, hlk, hown, hnm, hts, hK⟩, hR, hS, hb, hH, hl⟩ := id X
  exact lv_if_ne hx hcc hd ht (fun h => kt h p e R s m args below meth c H locs cells slots ls X hY) (fun h => kf h p e R s m args below meth c H locs cells slots ls X hY)
theorem px_if_lt {x : Int32} {off : Int} {tgt : Nat} (hd : decode M.2.2.1 pc = .ok (.ifCond .lt off, 3)) (ht : (pc : Int) + off = (tgt : Int)) (kt : x < 0 → mx_FP Y G l M d kc ks Post tgt L st z) (kf : ¬ x < 0 → mx_FP Y G l M d kc ks Post (pc + 3) L st z) : mx_FP Y G l M d kc ks Post pc L (.int x :: st) z := by
  intro p e R s m args below meth c H locs cells slots ls X hY
  obtain ⟨⟨hx, hcc, hml, hrt, hlk, hown, hnm, hts, hK⟩, hR, hS, hb, hH, hl⟩ := id X
  exact lv_if_lt hx hcc hd ht (fun h => kt h p e R s m args below meth c H locs cells slots ls X hY) (fun h => kf h p e R s m args below meth c H locs cells slots ls X hY)
theorem px_if_ge {x : Int32} {off : Int} {tgt : Nat} (hd : decode M.2.2.1 pc = .ok (.ifCond .ge off, 3)) (ht : (pc : Int) + off = (tgt : Int)) (kt : 0 ≤ x → mx_FP Y G l M d kc ks Post tgt L st z) (kf : ¬ 0 ≤ x → mx_FP Y G l M d kc ks Post (pc + 3) L st z) : mx_FP Y G l M d kc ks Post pc L (.int x :: st) z := by
  intro p e R s m args below meth c H locs cells slots ls X hY
  obtain ⟨⟨hx, hcc, hml, hrt, hlk, hown, hnm, hts, hK⟩, hR, hS, hb, hH, hl⟩ := id X
  exact lv_if_ge hx hcc hd ht (fun h => kt h p e R s m args below meth c H locs cells slots ls X hY) (fun h => kf h p e R s m args below meth c H locs cells slots ls X hY)
theorem px_if_gt {x : Int32} {off : Int} {tgt : Nat} (hd : decode M.2.2.1 pc = .ok (.ifCond .gt off, 3)) (ht : (pc : Int) + off = (tgt : Int)) (kt : 0 < x → mx_FP Y G l M d kc ks Post tgt L st z) (kf : ¬ 0 < x → mx_FP Y G l M d kc ks Post (pc + 3) L st z) : mx_FP Y G l M d kc ks Post pc L (.int x :: st) z := by
  intro p e R s m args below meth c H locs cells slots ls X hY
  obtain ⟨⟨hx, hcc, hml, hrt, hlk, hown, hnm, hts, hK⟩, hR, hS, hb, hH, hl⟩ := id X
  exact lv_if_gt hx hcc hd ht (fun h => kt h p e R s m args below meth c H locs cells slots ls X hY) (fun h => kf h p e R s m args below meth c H locs cells slots ls X hY)
theorem px_if_le {x : Int32} {off : Int} {tgt : Nat} (hd : decode M.2.2.1 pc = .ok (.ifCond .le off, 3)) (ht : (pc : Int) + off = (tgt : Int)) (kt : x ≤ 0 → mx_FP Y G l M d kc ks Post tgt L st z) (kf : ¬ x ≤ 0 → mx_FP Y G l M d kc ks Post (pc + 3) L st z) : mx_FP Y G l M d kc ks Post pc L (.int x :: st) z := by
  intro p e R s m args below meth c H locs cells slots ls X hY
  obtain ⟨⟨hx, hcc, hml, hrt, hlk, hown, hnm, hts, hK⟩, hR, hS, hb, hH, hl⟩ := id X
  exact lv_if_le hx hcc hd ht (fun h => kt h p e R s m args below meth c H locs cells slots ls X hY) (fun h => kf h p e R s m args below meth c H locs cells slots ls X hY)
theorem px_icmp_eq {x y : Int32} {off : Int} {tgt : Nat} (hd : decode M.2.2.1 pc = .ok (.if_icmp .eq off, 3)) (ht : (pc : Int) + off = (tgt : Int)) (kt : x = y → mx_FP Y G l M d kc ks Post tgt L st z) (kf : ¬ x = y → mx_FP Y G l M d kc ks Post (pc + 3) L st z) : mx_FP Y G l M d kc ks Post pc L (.int y :: .int x :: st) z := by
  intro p e R s m args below meth c H locs cells slots ls X hY
  obtain ⟨⟨hx, hcc, hml, hrt, hlk, hown, hnm, hts, hK⟩, hR, hS, hb, hH, hl⟩ := id X
  exact lv_icmp_eq hx hcc hd ht (fun h => kt h p e R s m args below meth c H locs cells slots ls X hY) (fun h => kf h p e R s m args below meth c H locs cells slots ls X hY)
theorem px_icmp_ne {x y : Int32} {off : Int} {tgt : Nat} (hd : decode M.2.2.1 pc = .ok (.if_icmp .ne off, 3)) (ht : (pc : Int) + off = (tgt : Int)) (kt : ¬ x = y → mx_FP Y G l M d kc ks Post tgt L st z) (kf : x = y → mx_FP Y G l M d kc ks Post (pc + 3) L st z) : mx_FP Y G l M d kc ks Post pc L (.int y :: .int x :: st) z := by
  intro p e R s m args below meth c H locs cells slots ls X hY
  obtain ⟨⟨hx, hcc, hml, hrt, hlk, hown, hnm, hts, hK⟩, hR, hS, hb, hH, hl⟩ := id X
  exact lv_icmp_ne hx hcc hd ht (fun h => kt h p e R s m args below meth c H locs cells slots ls X hY) (fun h => kf h p e R s m args below meth c H locs cells slots ls X hY)
theorem px_icmp_lt {x y : Int32} {off : Int} {tgt : Nat} (hd : decode M.2.2.1 pc = .ok (.if_icmp .lt off, 3)) (ht : (pc : Int) + off = (tgt : Int)) (kt : x < y → mx_FP Y G l M d kc ks Post tgt L st z) (kf : ¬ x < y → mx_FP Y G l M d kc ks Post (pc + 3) L st z) : mx_FP Y G l M d kc ks Post pc L (.int y :: .int x :: st) z := by
  intro p e R s m args below meth c H locs cells slots ls X hY
  obtain ⟨⟨hx, hcc, hml, hrt, hlk, hown, hnm, hts, hK⟩, hR, hS, hb, hH, hl⟩ := id X
  exact lv_icmp_lt hx hcc hd ht (fun h => kt h p e R s m args below meth c H locs cells slots ls X hY) (fun h => kf h p e R s m args below meth c H locs cells slots ls X hY)
theorem px_icmp_ge {x y : Int32} {off : Int} {tgt : Nat} (hd : decode M.2.2.1 pc = .ok (.if_icmp .ge off, 3)) (ht : (pc : Int) + off = (tgt : Int)) (kt : y ≤ x → mx_FP Y G l M d kc ks Post tgt L st z) (kf : ¬ y ≤ x → mx_FP Y G l M d kc ks Post (pc + 3) L st z) : mx_FP Y G l M d kc ks Post pc L (.int y :: .int x :: st) z := by
  intro p e R s m args below meth c H locs cells slots ls X hY
  obtain ⟨⟨hx, hcc, hml, hrt, hlk, hown, hnm, hts, hK⟩, hR, hS, hb, hH, hl⟩ := id X
  exact lv_icmp_ge hx hcc hd ht (fun h => kt h p e R s m args below meth c H locs cells slots ls X hY) (fun h => kf h p e R s m args below meth c H locs cells slots ls X hY)
theorem px_icmp_gt {x y : Int32} {off : Int} {tgt : Nat} (hd : decode M.2.2.1 pc = .ok (.if_icmp .gt off, 3)) (ht : (pc : Int) + off = (tgt : Int)) (kt : y < x → mx_FP Y G l M d kc ks Post tgt L st z) (kf : ¬ y < x → mx_FP Y G l M d kc ks Post (pc + 3) L st z) : mx_FP Y G l M d kc ks Post pc L (.int y :: .int x :: st) z := by
  intro p e R s m args below meth c H locs cells slots ls X hY
  obtain ⟨⟨hx, hcc, hml, hrt, hlk, hown, hnm, hts, hK⟩, hR, hS, hb, hH, hl⟩ := id X
  exact lv_icmp_gt hx hcc hd ht (fun h => kt h p e R s m args below meth c H locs cells slots ls X hY) (fun h => kf h p e R s m args below meth c H locs cells slots ls X hY)
theorem px_icmp_le {x y : Int32} {off : Int} {tgt : Nat} (hd : decode M.2.2.1 pc = .ok (.if_icmp .le off, 3)) (ht : (pc : Int) + off = (tgt : Int)) (kt : x ≤ y → mx_FP Y G l M d kc ks Post tgt L st z) (kf : ¬ x ≤ y → mx_FP Y G l M d kc ks Post (pc + 3) L st z) : mx_FP Y G l M d kc ks Post pc L (.int y :: .int x :: st) z := by
  intro p e R s m args below meth c H locs cells slots ls X hY
  obtain ⟨⟨hx, hcc, hml, hrt, hlk, hown, hnm, hts, hK⟩, hR, hS, hb, hH, hl⟩ := id X
  exact lv_icmp_le hx hcc hd ht (fun h => kt h p e R s m args below meth c H locs cells slots ls X hY) (fun h => kf h p e R s m args below meth c H locs cells slots ls X hY)
theorem px_goto {off : Int} {tgt : Nat} (hd : decode M.2.2.1 pc = .ok (.goto off, 3)) (ht : (pc : Int) + off = (tgt : Int)) (kk : mx_FP Y G l M d kc ks Post tgt L st z) : mx_FP Y G l M d kc ks Post pc L st z := by
  intro p e R s m args below meth c H locs cells slots ls X hY
  obtain ⟨⟨hx, hcc, hml, hrt, hlk, hown, hnm, hts, hK⟩, hR, hS, hb, hH, hl⟩ := id X
  exact lv_goto hx hcc hd ht (kk p e R s m args below meth c H locs cells slots ls X hY)
theorem px_ifnull {x : Nat} {off : Int} (hd : decode M.2.2.1 pc = .ok (.ifnull off, 3)) (kk : mx_FP Y G l M d kc ks Post (pc + 3) L st z) : mx_FP Y G l M d kc ks Post pc L (.ref x :: st) z := by
  intro p e R s m args below meth c H locs cells slots ls X hY
  obtain ⟨⟨hx, hcc, hml, hrt, hlk, hown, hnm, hts, hK⟩, hR, hS, hb, hH, hl⟩ := id X
  exact lv_ifnull hx hcc hd (kk p e R s m args below meth c H locs cells slots ls X hY)
theorem px_ifnullN {off : Int} {tgt : Nat} (hd : decode M.2.2.1 pc = .ok (.ifnull off, 3)) (ht : (pc : Int) + off = (tgt : Int)) (kk : mx_FP Y G l M d kc ks Post tgt L st z) : mx_FP Y G l M d kc ks Post pc L (.null :: st) z := by
  intro p e R s m args below meth c H locs cells slots ls X hY
  obtain ⟨⟨hx, hcc, hml, hrt, hlk, hown, hnm, hts, hK⟩, hR, hS, hb, hH, hl⟩ := id X
  exact lv_ifnullN hx hcc hd ht (kk p e R s m args below meth c H locs cells slots ls X hY)
theorem px_ifnonnull {x : Nat} {off : Int} {tgt : Nat} (hd : decode M.2.2.1 pc = .ok (.ifnonnull off, 3)) (ht : (pc : Int) + off = (tgt : Int)) (kk : mx_FP Y G l M d kc ks Post tgt L st z) : mx_FP Y G l M d kc ks Post pc L (.ref x :: st) z := by
  intro p e R s m args below meth c H locs cells slots ls X hY
  obtain ⟨⟨hx, hcc, hml, hrt, hlk, hown, hnm, hts, hK⟩, hR, hS, hb, hH, hl⟩ := id X
  exact lv_ifnonnull hx hcc hd ht (kk p e R s m args below meth c H locs cells slots ls X hY)
theorem px_ifnonnullN {off : Int} (hd : decode M.2.2.1 pc = .ok (.ifnonnull off, 3)) (kk : mx_FP Y G l M d kc ks Post (pc + 3) L st z) : mx_FP Y G l M d kc ks Post pc L (.null :: st) z := by
  intro p e R s m args below meth c H locs cells slots ls X hY
  obtain ⟨⟨hx, hcc, hml, hrt, hlk, hown, hnm, hts, hK⟩, hR, hS, hb, hH, hl⟩ := id X
  exact lv_ifnonnullN hx hcc hd (kk p e R s m args below meth c H locs cells slots ls X hY)
theorem px_tableOut {dflt lo hi : Int} {offs : Array Int} {len : Nat} {x : Int32} {tgt : Nat} (hd : decode M.2.2.1 pc = .ok (.tableswitch dflt lo hi offs, len)) (h : x.toInt < lo ∨ hi < x.toInt) (ht : (pc : Int) + dflt = (tgt : Int)) (kk : mx_FP Y G l M d kc ks Post tgt L st z) : mx_FP Y G l M d kc ks Post pc L (.int x :: st) z := by
  intro p e R s m args below meth c H locs cells slots ls X hY
  obtain ⟨⟨hx, hcc, hml, hrt, hlk, hown, hnm, hts, hK⟩, hR, hS, hb, hH, hl⟩ := id X
  exact lv_tableOut hx hcc hd h ht (kk p e R s m args below meth c H locs cells slots ls X hY)
theorem px_tableIn {dflt lo hi off : Int} {offs : Array Int} {len : Nat} {x : Int32} {tgt : Nat} (hd : decode M.2.2.1 pc = .ok (.tableswitch dflt lo hi offs, len)) (h1 : ¬ x.toInt < lo) (h2 : ¬ hi < x.toInt) (ho : offs[(x.toInt - lo).toNat]? = some off) (ht : (pc : Int) + off = (tgt : Int)) (kk : mx_FP Y G l M d kc ks Post tgt L st z) : mx_FP Y G l M d kc ks Post pc L (.int x :: st) z := by
  intro p e R s m args below meth c H locs cells slots ls X hY
  obtain ⟨⟨hx, hcc, hml, hrt, hlk, hown, hnm, hts, hK⟩, hR, hS, hb, hH, hl⟩ := id X
  exact lv_tableIn hx hcc hd h1 h2 ho ht (kk p e R s m args below meth c H locs cells slots ls X hY)
theorem px_lookup {dflt off : Int} {ps : Array (Int × Int)} {len : Nat} {x : Int32} {tgt : Nat} (hd : decode M.2.2.1 pc = .ok (.lookupswitch dflt ps, len)) (hp : (ps.toList.zip (ps.toList.drop 1)).all (fun (a, next) => a.1 < next.1) = true) (ho : Op.lookupswitch.offset ps.toList dflt x.toInt = off) (ht : (pc : Int) + off = (tgt : Int)) (kk : mx_FP Y G l M d kc ks Post tgt L st z) : mx_FP Y G l M d kc ks Post pc L (.int x :: st) z := by
  intro p e R s m args below meth c H locs cells slots ls X hY
  obtain ⟨⟨hx, hcc, hml, hrt, hlk, hown, hnm, hts, hK⟩, hR, hS, hb, hH, hl⟩ := id X
  exact lv_lookup hx hcc hd hp ho ht (kk p e R s m args below meth c H locs cells slots ls X hY)
theorem px_ireturn {v : Int32} (hd : decode M.2.2.1 pc = .ok (.ireturn, 1)) (hr : M.2.2.2.2 = some .int) (hp : Post (some (.int v)) z) : mx_FP Y G l M d kc ks Post pc L [.int v] z := by
  intro p e R s m args below meth c H locs cells slots ls X hY
  obtain ⟨⟨hx, hcc, hml, hrt, hlk, hown, hnm, hts, hK⟩, hR, hS, hb, hH, hl⟩ := id X
  refine W.widen (k := R.cells) (n := R.slots) (by omega) (by omega) ?_
  exact W.iret hx hcc (hrt.trans hr) (fun t ht _ => ⟨⟨some (.int v), z, rfl, hp, by rw [ht]; exact hH⟩, mx_S_F hS ht⟩) hS.2.2 hd hlk
theorem px_zreturn {v : Int32} {ty : FieldType} (hd : decode M.2.2.1 pc = .ok (.ireturn, 1)) (hr : M.2.2.2.2 = some ty) (hn : narrow ty (.int v) = .int v) (hp : Post (some (.int v)) z) : mx_FP Y G l M d kc ks Post pc L [.int v] z := by
  intro p e R s m args below meth c H locs cells slots ls X hY
  obtain ⟨⟨hx, hcc, hml, hrt, hlk, hown, hnm, hts, hK⟩, hR, hS, hb, hH, hl⟩ := id X
  refine W.widen (k := R.cells) (n := R.slots) (by omega) (by omega) ?_
  exact W.zret hx hcc (hrt.trans hr) hn (fun t ht _ => ⟨⟨some (.int v), z, rfl, hp, by rw [ht]; exact hH⟩, mx_S_F hS ht⟩) hS.2.2 hd hlk
theorem px_lreturn {v : Int64} (hd : decode M.2.2.1 pc = .ok (.lreturn, 1)) (hr : M.2.2.2.2 = some .long) (hp : Post (some (.long v)) z) : mx_FP Y G l M d kc ks Post pc L [.long v] z := by
  intro p e R s m args below meth c H locs cells slots ls X hY
  obtain ⟨⟨hx, hcc, hml, hrt, hlk, hown, hnm, hts, hK⟩, hR, hS, hb, hH, hl⟩ := id X
  refine W.widen (k := R.cells) (n := R.slots) (by omega) (by omega) ?_
  exact W.lret hx hcc (hrt.trans hr) (fun t ht _ => ⟨⟨some (.long v), z, rfl, hp, by rw [ht]; exact hH⟩, mx_S_F hS ht⟩) hS.2.2 hd hlk
theorem px_return  (hd : decode M.2.2.1 pc = .ok (.return_, 1)) (hr : M.2.2.2.2 = none) (hp : Post none z) : mx_FP Y G l M d kc ks Post pc L [] z := by
  intro p e R s m args below meth c H locs cells slots ls X hY
  obtain ⟨⟨hx, hcc, hml, hrt, hlk, hown, hnm, hts, hK⟩, hR, hS, hb, hH, hl⟩ := id X
  refine W.widen (k := R.cells) (n := R.slots) (by omega) (by omega) ?_
  exact W.vret hx hcc (hrt.trans hr) (fun t ht _ => ⟨⟨none, z, rfl, hp, by rw [ht]; exact hH⟩, mx_S_F hS ht⟩) hS.2.2 hd hlk
theorem px_areturn {a : Nat} {n : String} (hd : decode M.2.2.1 pc = .ok (.areturn, 1)) (hr : M.2.2.2.2 = some (.object n)) (hp : Post (some (.ref a)) z) : mx_FP Y G l M d kc ks Post pc L [.ref a] z := by
  intro p e R s m args below meth c H locs cells slots ls X hY
  obtain ⟨⟨hx, hcc, hml, hrt, hlk, hown, hnm, hts, hK⟩, hR, hS, hb, hH, hl⟩ := id X
  refine W.widen (k := R.cells) (n := R.slots) (by omega) (by omega) ?_
  exact W.aret hx hcc (hrt.trans hr) (Or.inl ⟨n, rfl⟩) (Or.inr ⟨_, rfl⟩) (fun t ht _ => ⟨⟨some (.ref a), z, rfl, hp, by rw [ht]; exact hH⟩, mx_S_F hS ht⟩) hS.2.2 hd hlk
theorem px_areturnN {n : String} (hd : decode M.2.2.1 pc = .ok (.areturn, 1)) (hr : M.2.2.2.2 = some (.object n)) (hp : Post (some .null) z) : mx_FP Y G l M d kc ks Post pc L [.null] z := by
  intro p e R s m args below meth c H locs cells slots ls X hY
  obtain ⟨⟨hx, hcc, hml, hrt, hlk, hown, hnm, hts, hK⟩, hR, hS, hb, hH, hl⟩ := id X
  refine W.widen (k := R.cells) (n := R.slots) (by omega) (by omega) ?_
  exact W.aret hx hcc (hrt.trans hr) (Or.inl ⟨n, rfl⟩) (Or.inl rfl) (fun t ht _ => ⟨⟨some .null, z, rfl, hp, by rw [ht]; exact hH⟩, mx_S_F hS ht⟩) hS.2.2 hd hlk
end PMX
section PMH
variable {Y : State → Prop} {G : mG} {l : Launch} {M : mM} {d kc ks : Nat} {Post : Option Value → mS → Prop} {pc : Nat} {L st : List Value} {e : mE} {mi : mI} {mj : mJ}
theorem px_get {own : String} {idx c k i n : Nat} {v : Value} (hd : decode M.2.2.1 pc = .ok (.getfield idx, 3)) (hf : mx_fld own idx c k) (hM : M.1 = own) (ho : mx_is e i c n) (hv : mx_tr G v = mx_fv G (e, mi, mj) (mx_ty c k) i k)
    (kk : mx_FP Y G l M d kc ks Post (pc + 3) L (v :: st) (e, mi, mj)) : mx_FP Y G l M d kc ks Post pc L (.ref i :: st) (e, mi, mj) := by
  intro p en R s m args below meth c' H locs cells slots ls X hY
  obtain ⟨⟨hx, hcc, hml, hrt, hlk, hown, hnm, hts, hK⟩, hR, hS, hb, hH, hl⟩ := id X
  have hc13 := mx_fld_c hf
  obtain ⟨C, T, N, hcl, hk, hlink, hT1, hlay, hty, hnn⟩ := hf
  obtain ⟨r, h1, cell, q1, q2, q3, q4⟩ := mx_cellO ho hc13 hH
  have hr : r = (C, T, N) := Option.some.inj (h1.symm.trans hcl)
  subst hr
  obtain ⟨hSl, hfc, kC, hkC, hkind⟩ := hK.1 c _ hcl
  obtain ⟨cf, kf, fi, f, hi, hsl⟩ := hSl k hk
  have e1 : (mx_tr G (.ref i)) = .ref (G.1 + i) := by show Value.ref (mx_ad G i) = _; rw [mx_isl ho hH]
  show W p l en R s m args below meth c' H locs cells slots _ (F0 m pc ls (mx_tr G (.ref i) :: st.map (mx_tr G)))
  rw [e1]
  rw [hT1] at hi
  refine W.getf (v := mx_tr G v) hx hcc (hM ▸ hown) (hts _ hlink) hi (u_facts hfc hkC (u_lays (T := T) (N := N) hts hlay hk) (hT1 ▸ hi)).1 q1 (by rw [q3]; exact fun h => by cases h) ?_ rfl rfl hd (kk p en R s m args below meth c' H locs cells slots ls X hY)
  rw [hsl, q4 k hk, hv]
theorem px_getI {own : String} {idx c k i n : Nat} (hd : decode M.2.2.1 pc = .ok (.getfield idx, 3)) (hf : mx_fld own idx c k) (hM : M.1 = own) (ht : mx_ty c k = .int ∨ mx_ty c k = .boolean) (ho : mx_is e i c n)
    (kk : mx_FP Y G l M d kc ks Post (pc + 3) L (.int (mi i k) :: st) (e, mi, mj)) : mx_FP Y G l M d kc ks Post pc L (.ref i :: st) (e, mi, mj) :=
  px_get hd hf hM ho (by rcases ht with h | h <;> (rw [h]; rfl)) kk
theorem px_getJ {own : String} {idx c k i n : Nat} (hd : decode M.2.2.1 pc = .ok (.getfield idx, 3)) (hf : mx_fld own idx c k) (hM : M.1 = own) (ht : mx_ty c k = .long) (ho : mx_is e i c n)
    (kk : mx_FP Y G l M d kc ks Post (pc + 3) L (.long (mj i k) :: st) (e, mi, mj)) : mx_FP Y G l M d kc ks Post pc L (.ref i :: st) (e, mi, mj) :=
  px_get hd hf hM ho (by rw [ht]; rfl) kk
theorem px_getR {own : String} {idx c k i n a : Nat} (hd : decode M.2.2.1 pc = .ok (.getfield idx, 3)) (hf : mx_fld own idx c k) (hM : M.1 = own) (ht : mx_isR (mx_ty c k) = true) (ho : mx_is e i c n) (hr : e.2.2 i k = some a)
    (kk : mx_FP Y G l M d kc ks Post (pc + 3) L (.ref a :: st) (e, mi, mj)) : mx_FP Y G l M d kc ks Post pc L (.ref i :: st) (e, mi, mj) :=
  px_get hd hf hM ho (by rw [mx_fvR ht]; show _ = mx_rv G (e.2.2 i k); rw [hr]; rfl) kk
theorem px_iaload {i : Int32} {a n : Nat} (hd : decode M.2.2.1 pc = .ok (.iaload, 1)) (ho : mx_is e a 100 n) (hin : vp_in i n)
    (kk : mx_FP Y G l M d kc ks Post (pc + 1) L (.int (mi a i.toNatClampNeg) :: st) (e, mi, mj)) : mx_FP Y G l M d kc ks Post pc L (.int i :: .ref a :: st) (e, mi, mj) := by
  intro p en R s m args below meth c' H locs cells slots ls X hY
  obtain ⟨⟨hx, hcc, hml, hrt, hlk, hown, hnm, hts, hK⟩, hR, hS, hb, hH, hl⟩ := id X
  show W p l en R s m args below meth c' H locs cells slots _ (F0 m pc ls (.int i :: .ref (mx_ad G a) :: st.map (mx_tr G)))
  rw [mx_isl ho hH]
  have hlt : i.toNatClampNeg < n := Nat.not_le.mp fun q => hin (Or.inr q)
  exact W.iald (v := .int (mi a i.toNatClampNeg)) hx hcc (mx_cellI ho hH) ((hK.2 0 _ rfl).1 n _) (fun q => by cases q) (by rw [arrV_size]; exact hin) (by rw [arrV_read _ _ hlt]) rfl rfl hd (kk p en R s m args below meth c' H locs cells slots ls X hY)
theorem px_laload {i : Int32} {a n : Nat} (hd : decode M.2.2.1 pc = .ok (.laload, 1)) (ho : mx_is e a 101 n) (hin : vp_in i n)
    (kk : mx_FP Y G l M d kc ks Post (pc + 1) L (.long (mj a i.toNatClampNeg) :: st) (e, mi, mj)) : mx_FP Y G l M d kc ks Post pc L (.int i :: .ref a :: st) (e, mi, mj) := by
  intro p en R s m args below meth c' H locs cells slots ls X hY
  obtain ⟨⟨hx, hcc, hml, hrt, hlk, hown, hnm, hts, hK⟩, hR, hS, hb, hH, hl⟩ := id X
  show W p l en R s m args below meth c' H locs cells slots _ (F0 m pc ls (.int i :: .ref (mx_ad G a) :: st.map (mx_tr G)))
  rw [mx_isl ho hH]
  have hlt : i.toNatClampNeg < n := Nat.not_le.mp fun q => hin (Or.inr q)
  exact W.lald (v := .long (mj a i.toNatClampNeg)) hx hcc (mx_cellJ ho hH) ((hK.2 1 _ rfl).1 n _) (fun q => by cases q) (by rw [arrV_size]; exact hin) (by rw [arrV_read _ _ hlt]) rfl rfl hd (kk p en R s m args below meth c' H locs cells slots ls X hY)
theorem px_baload {i : Int32} {a n : Nat} (hd : decode M.2.2.1 pc = .ok (.baload, 1)) (ho : mx_is e a 102 n) (hin : vp_in i n)
    (kk : mx_FP Y G l M d kc ks Post (pc + 1) L (.int (mi a i.toNatClampNeg) :: st) (e, mi, mj)) : mx_FP Y G l M d kc ks Post pc L (.int i :: .ref a :: st) (e, mi, mj) := by
  intro p en R s m args below meth c' H locs cells slots ls X hY
  obtain ⟨⟨hx, hcc, hml, hrt, hlk, hown, hnm, hts, hK⟩, hR, hS, hb, hH, hl⟩ := id X
  show W p l en R s m args below meth c' H locs cells slots _ (F0 m pc ls (.int i :: .ref (mx_ad G a) :: st.map (mx_tr G)))
  rw [mx_isl ho hH]
  have hlt : i.toNatClampNeg < n := Nat.not_le.mp fun q => hin (Or.inr q)
  exact W.zald (v := .int (mi a i.toNatClampNeg)) hx hcc (mx_cellZ ho hH) ((hK.2 2 _ rfl).1 n _) (fun q => by cases q) (by rw [arrV_size]; exact hin) (by rw [arrV_read _ _ hlt]) rfl rfl hd (kk p en R s m args below meth c' H locs cells slots ls X hY)
theorem px_aaload {i : Int32} {a n k b : Nat} (hd : decode M.2.2.1 pc = .ok (.aaload, 1)) (ho : mx_is e a k n) (hk : k = 103 ∨ k = 104) (hin : vp_in i n) (hr : e.2.2 a i.toNatClampNeg = some b)
    (kk : mx_FP Y G l M d kc ks Post (pc + 1) L (.ref b :: st) (e, mi, mj)) : mx_FP Y G l M d kc ks Post pc L (.int i :: .ref a :: st) (e, mi, mj) := by
  intro p en R s m args below meth c' H locs cells slots ls X hY
  obtain ⟨⟨hx, hcc, hml, hrt, hlk, hown, hnm, hts, hK⟩, hR, hS, hb, hH, hl⟩ := id X
  show W p l en R s m args below meth c' H locs cells slots _ (F0 m pc ls (.int i :: .ref (mx_ad G a) :: st.map (mx_tr G)))
  rw [mx_isl ho hH]
  have hlt : i.toNatClampNeg < n := Nat.not_le.mp fun q => hin (Or.inr q)
  have hv : mx_rv G (e.2.2 a i.toNatClampNeg) = mx_tr G (.ref b) := by rw [hr]; rfl
  rcases hk with rfl | rfl
  · exact W.aald (v := mx_tr G (.ref b)) hx hcc (mx_cellN ho hH) ((hK.2 3 _ rfl).1 n _) rfl (fun q => by cases q) (by rw [arrV_size]; exact hin) (by rw [arrV_read _ _ hlt, hv]) rfl rfl hd (kk p en R s m args below meth c' H locs cells slots ls X hY)
  · exact W.aald (v := mx_tr G (.ref b)) hx hcc (mx_cellP ho hH) ((hK.2 4 _ rfl).1 n _) rfl (fun q => by cases q) (by rw [arrV_size]; exact hin) (by rw [arrV_read _ _ hlt, hv]) rfl rfl hd (kk p en R s m args below meth c' H locs cells slots ls X hY)
theorem px_alen {a n k : Nat} (v : Int32) (hd : decode M.2.2.1 pc = .ok (.arraylength, 1)) (ho : mx_is e a k n) (hk : k = 100 ∨ k = 101) (hv : n.toInt32 = v)
    (kk : mx_FP Y G l M d kc ks Post (pc + 1) L (.int v :: st) (e, mi, mj)) : mx_FP Y G l M d kc ks Post pc L (.ref a :: st) (e, mi, mj) := by
  intro p en R s m args below meth c' H locs cells slots ls X hY
  obtain ⟨⟨hx, hcc, hml, hrt, hlk, hown, hnm, hts, hK⟩, hR, hS, hb, hH, hl⟩ := id X
  show W p l en R s m args below meth c' H locs cells slots _ (F0 m pc ls (.ref (mx_ad G a) :: st.map (mx_tr G)))
  rw [mx_isl ho hH]
  rcases hk with rfl | rfl
  · exact W.alen (n := v) hx hcc (mx_cellI ho hH) ((hK.2 0 _ rfl).1 n _) (by rw [arrV_size]; exact hv) rfl rfl hd (kk p en R s m args below meth c' H locs cells slots ls X hY)
  · exact W.alen (n := v) hx hcc (mx_cellJ ho hH) ((hK.2 1 _ rfl).1 n _) (by rw [arrV_size]; exact hv) rfl rfl hd (kk p en R s m args below meth c' H locs cells slots ls X hY)
theorem px_iastore {i x : Int32} {a n : Nat} (hd : decode M.2.2.1 pc = .ok (.iastore, 1)) (ho : mx_is e a 100 n) (hin : vp_in i n)
    (kk : mx_FP Y G l M d kc ks Post (pc + 1) L st (e, mx_up mi a i.toNatClampNeg x, mj)) : mx_FP Y G l M d kc ks Post pc L (.int x :: .int i :: .ref a :: st) (e, mi, mj) := by
  intro p en R s m args below meth c' H locs cells slots ls X hY
  obtain ⟨⟨hx, hcc, hml, hrt, hlk, hown, hnm, hts, hK⟩, hR, hS, hb, hH, hl⟩ := id X
  show W p l en R s m args below meth c' H locs cells slots _ (F0 m pc ls (.int x :: .int i :: .ref (mx_ad G a) :: st.map (mx_tr G)))
  rw [mx_isl ho hH]
  refine W.iast hx hcc (mx_cellI ho hH) ((hK.2 0 _ rfl).1 n _) (fun q => by cases q) (by rw [arrV_size]; exact hin) rfl rfl hd fun H1 e1 hz oq => ?_
  refine kk p en R s m args below meth c' H1 _ cells slots ls ⟨X.1, hR, mx_S_put hS hz oq, hb, ?_, hl⟩ hY
  refine mx_H_one (i := a) hH hz oq rfl (fun j hj => ⟨fun k => mx_up_ne _ _ (fun q => absurd q hj), fun k => rfl⟩) (fun _ => ?_)
  unfold mx_cell
  dsimp only
  rw [ho.2]
  simp only [if_true]
  rw [e1, arrV_store]
  congr 2
  funext j
  unfold updV mx_up
  by_cases hj : j = i.toNatClampNeg
  · simp [hj]
  · simp [hj]
theorem px_bastore {i x : Int32} {a n : Nat} (hd : decode M.2.2.1 pc = .ok (.bastore, 1)) (ho : mx_is e a 102 n) (hin : vp_in i n) (hx0 : x = 0 ∨ x = 1)
    (kk : mx_FP Y G l M d kc ks Post (pc + 1) L st (e, mx_up mi a i.toNatClampNeg x, mj)) : mx_FP Y G l M d kc ks Post pc L (.int x :: .int i :: .ref a :: st) (e, mi, mj) := by
  intro p en R s m args below meth c' H locs cells slots ls X hY
  obtain ⟨⟨hx, hcc, hml, hrt, hlk, hown, hnm, hts, hK⟩, hR, hS, hb, hH, hl⟩ := id X
  show W p l en R s m args below meth c' H locs cells slots _ (F0 m pc ls (.int x :: .int i :: .ref (mx_ad G a) :: st.map (mx_tr G)))
  rw [mx_isl ho hH]
  refine W.zast hx hcc (mx_cellZ ho hH) ((hK.2 2 _ rfl).1 n _) (fun q => by cases q) (by rw [arrV_size]; exact hin) rfl rfl hd fun H1 e1 hz oq => ?_
  refine kk p en R s m args below meth c' H1 _ cells slots ls ⟨X.1, hR, mx_S_put hS hz oq, hb, ?_, hl⟩ hY
  refine mx_H_one (i := a) hH hz oq rfl (fun j hj => ⟨fun k => mx_up_ne _ _ (fun q => absurd q hj), fun k => rfl⟩) (fun _ => ?_)
  unfold mx_cell
  dsimp only
  rw [ho.2]
  simp only [show ¬ (102 = 100) by decide, show ¬ (102 = 101) by decide, if_true, if_false]
  rw [e1, arrV_store]
  congr 2
  funext j
  unfold updV mx_up
  by_cases hj : j = i.toNatClampNeg
  · rcases hx0 with rfl | rfl <;> simp [hj] <;> decide
  · simp [hj]
theorem px_lastore {i : Int32} {x : Int64} {a n : Nat} (hd : decode M.2.2.1 pc = .ok (.lastore, 1)) (ho : mx_is e a 101 n) (hin : vp_in i n)
    (kk : mx_FP Y G l M d kc ks Post (pc + 1) L st (e, mi, mx_ul mj a i.toNatClampNeg x)) : mx_FP Y G l M d kc ks Post pc L (.long x :: .int i :: .ref a :: st) (e, mi, mj) := by
  intro p en R s m args below meth c' H locs cells slots ls X hY
  obtain ⟨⟨hx, hcc, hml, hrt, hlk, hown, hnm, hts, hK⟩, hR, hS, hb, hH, hl⟩ := id X
  show W p l en R s m args below meth c' H locs cells slots _ (F0 m pc ls (.long x :: .int i :: .ref (mx_ad G a) :: st.map (mx_tr G)))
  rw [mx_isl ho hH]
  refine W.last hx hcc (mx_cellJ ho hH) ((hK.2 1 _ rfl).1 n _) (fun q => by cases q) (by rw [arrV_size]; exact hin) rfl rfl hd fun H1 e1 hz oq => ?_
  refine kk p en R s m args below meth c' H1 _ cells slots ls ⟨X.1, hR, mx_S_put hS hz oq, hb, ?_, hl⟩ hY
  refine mx_H_one (i := a) hH hz oq rfl (fun j hj => ⟨fun k => rfl, fun k => by show mx_ul mj a _ x j k = _; unfold mx_ul; rw [if_neg (fun q => hj q.1)]⟩) (fun _ => ?_)
  unfold mx_cell
  dsimp only
  rw [ho.2]
  simp only [show ¬ (101 = 100) by decide, if_true, if_false]
  rw [e1, arrV_store]
  congr 2
  funext j
  unfold updV mx_ul
  by_cases hj : j = i.toNatClampNeg
  · simp [hj]
  · simp [hj]
end PMH
section PMC
variable {Y : State → Prop} {G : mG} {l : Launch} {M : mM} {d kc ks : Nat} {Post : Option Value → mS → Prop} {pc : Nat} {L st : List Value} {e : mE} {mi : mI} {mj : mJ}
theorem px_put {own : String} {idx c k i n : Nat} {v : Value} {mi' : mI} {mj' : mJ} (hd : decode M.2.2.1 pc = .ok (.putfield idx, 3)) (hf : mx_fld own idx c k) (hM : M.1 = own) (hnf : mx_nf c k) (ho : mx_is e i c n)
    (hn : narrow (mx_ty c k) (mx_tr G v) = mx_tr G v) (hfit : fits (mx_ty c k) (mx_tr G v) = true)
    (hsame : ∀ j, j ≠ i → (∀ k, mi' j k = mi j k) ∧ (∀ k, mj' j k = mj j k)) (hV : ∀ j, updV (fun q => mx_fv G (e, mi, mj) (mx_ty c q) i q) k (mx_tr G v) j = mx_fv G (e, mi', mj') (mx_ty c j) i j)
    (kk : mx_FP Y G l M d kc ks Post (pc + 3) L st (e, mi', mj')) : mx_FP Y G l M d kc ks Post pc L (v :: .ref i :: st) (e, mi, mj) := by
  intro p en R s m args below meth c' H locs cells slots ls X hY
  obtain ⟨⟨hx, hcc, hml, hrt, hlk, hown, hnm, hts, hK⟩, hR, hS, hb, hH, hl⟩ := id X
  have hc13 := mx_fld_c hf
  obtain ⟨C, T, N, hcl, hk, hlink, hT1, hlay, hty, hnn⟩ := hf
  obtain ⟨r0, hr0, hfin⟩ := hnf
  have : r0 = (C, T, N) := Option.some.inj (hr0.symm.trans hcl)
  subst this
  obtain ⟨r, h1, cell, q1, q2, q3, q4⟩ := mx_cellO ho hc13 hH
  have hr : r = (C, T, N) := Option.some.inj (h1.symm.trans hcl)
  subst hr
  have hap := va_apart (own := own) hts hlay (mx_ty c) hty hnn hK hcl
  obtain ⟨hSl, hfc, kC, hkC, hkind⟩ := hK.1 c _ hcl
  obtain ⟨cf, kf, fi, f, hi, hsl⟩ := hSl k hk
  have hlay1 := hts _ (hlay _ (u_in_lay (C := C) hk))
  unfold u_lay at hlay1
  rw [if_neg (by rw [hfin]; decide)] at hlay1
  have hst := (u_facts hfc hkC (u_lays (T := T) (N := N) hts hlay hk) hi).1
  have h6 := u_store hfc hkC hkind hlay1 hi (hty k hk) hn hfit
  have e1 : (mx_tr G (.ref i)) = .ref (G.1 + i) := by show Value.ref (mx_ad G i) = _; rw [mx_isl ho hH]
  show W p l en R s m args below meth c' H locs cells slots _ (F0 m pc ls (mx_tr G v :: mx_tr G (.ref i) :: st.map (mx_tr G)))
  rw [e1]
  refine W.putK hx hcc (f := f) ⟨hM ▸ hown, hts _ hlink, ⟨_, _, _, hT1 ▸ hi⟩, hst⟩ (by rw [q2]; exact h6) q1 q3 (by rw [hsl]; exact k2_hasslot (q4 k hk)) rfl rfl hd fun H1 w1 w2 w3 => ?_
  rw [hsl] at w1
  refine kk p en R s m args below meth c' H1 _ cells slots ls ⟨X.1, hR, mx_S_put hS w2 w3, hb, ?_, hl⟩ hY
  refine mx_H_one (i := i) hH w2 w3 rfl hsame (fun _ => ?_)
  unfold mx_cell
  dsimp only
  rw [ho.2]
  simp only [show ¬ c = 100 by omega, show ¬ c = 101 by omega, show ¬ c = 102 by omega, show ¬ c = 103 by omega, show ¬ c = 104 by omega, show ¬ c = 999 by omega, if_false]
  exact ⟨(C, T, N), hcl, t_OB.to (V := updV (fun q => mx_fv G (e, mi, mj) (mx_ty c q) i q) k (mx_tr G v)) ⟨_, w1, q2, q3, t_set q4 hap hk _⟩ (fun j _ => hV j)⟩
theorem px_putI {own : String} {idx c k i n : Nat} {x : Int32} (hd : decode M.2.2.1 pc = .ok (.putfield idx, 3)) (hf : mx_fld own idx c k) (hM : M.1 = own) (hnf : mx_nf c k) (ht : mx_ty c k = .int) (ho : mx_is e i c n)
    (kk : mx_FP Y G l M d kc ks Post (pc + 3) L st (e, mx_up mi i k x, mj)) : mx_FP Y G l M d kc ks Post pc L (.int x :: .ref i :: st) (e, mi, mj) := by
  refine px_put hd hf hM hnf ho (by rw [ht]; rfl) (by rw [ht]; rfl) (fun j hj => ⟨fun q => mx_up_ne _ _ (fun w => absurd w hj), fun q => rfl⟩) (fun j => ?_) kk
  unfold updV
  by_cases hj : j = k
  · subst hj
    rw [if_pos rfl, ht]
    show _ = Value.int (mx_up mi i j x i j)
    rw [mx_up_self]; rfl
  · rw [if_neg hj]
    unfold mx_fv
    dsimp only
    rw [mx_up_ne _ _ (fun _ => hj)]
theorem px_putZ {own : String} {idx c k i n : Nat} {x : Int32} (hd : decode M.2.2.1 pc = .ok (.putfield idx, 3)) (hf : mx_fld own idx c k) (hM : M.1 = own) (hnf : mx_nf c k) (ht : mx_ty c k = .boolean) (hx : x = 0 ∨ x = 1) (ho : mx_is e i c n)
    (kk : mx_FP Y G l M d kc ks Post (pc + 3) L st (e, mx_up mi i k x, mj)) : mx_FP Y G l M d kc ks Post pc L (.int x :: .ref i :: st) (e, mi, mj) := by
  refine px_put hd hf hM hnf ho (by rw [ht]; rcases hx with rfl | rfl <;> rfl) (by rw [ht]; rcases hx with rfl | rfl <;> rfl) (fun j hj => ⟨fun q => mx_up_ne _ _ (fun w => absurd w hj), fun q => rfl⟩) (fun j => ?_) kk
  unfold updV
  by_cases hj : j = k
  · subst hj
    rw [if_pos rfl, ht]
    show _ = Value.int (mx_up mi i j x i j)
    rw [mx_up_self]; rfl
  · rw [if_neg hj]
    unfold mx_fv
    dsimp only
    rw [mx_up_ne _ _ (fun _ => hj)]
theorem px_putJ {own : String} {idx c k i n : Nat} {x : Int64} (hd : decode M.2.2.1 pc = .ok (.putfield idx, 3)) (hf : mx_fld own idx c k) (hM : M.1 = own) (hnf : mx_nf c k) (ht : mx_ty c k = .long) (ho : mx_is e i c n)
    (kk : mx_FP Y G l M d kc ks Post (pc + 3) L st (e, mi, mx_ul mj i k x)) : mx_FP Y G l M d kc ks Post pc L (.long x :: .ref i :: st) (e, mi, mj) := by
  refine px_put hd hf hM hnf ho (by rw [ht]; rfl) (by rw [ht]; rfl) (fun j hj => ⟨fun q => rfl, fun q => by show mx_ul mj i k x j q = _; unfold mx_ul; rw [if_neg (fun w => hj w.1)]⟩) (fun j => ?_) kk
  unfold updV
  by_cases hj : j = k
  · subst hj
    rw [if_pos rfl, ht]
    show _ = Value.long (mx_ul mj i j x i j)
    simp [mx_ul, mx_tr]
  · rw [if_neg hj]
    unfold mx_fv
    dsimp only
    simp [mx_ul, hj]
theorem px_cont {p : Program} {en : Env} {R : Room} {s : State} {m : MethodId} {args : Array Value} {below : List Frame} {meth : Method} {c : Code} {H : Heap} {locs : List Loc} {cells slots : Nat} {ls : Array Slot} {z : mS} {kc' ks' : Nat} {st0 : List Value} {a : Array Value} {Post' : Option Value → mS → Prop}
    (X : mx_X G M d kc ks L z p R s m args meth c H locs cells slots ls) (hY : Y s) (h1 : kc' ≤ kc) (h2 : ks' ≤ ks)
    (hr : CallRun p l en R s m args below meth c H locs cells slots kc' ks' (F0 m pc ls st0) (st.map (mx_tr G)) (mx_Q G Post' a) (mx_fr G))
    (kk : ∀ v z', Post' v z' → mx_FP Y G l M d (kc - kc') (ks - ks') Post (pc + 3) L (v.toList ++ st) z') :
    W p l en R s m args below meth c H locs cells slots (MQ below (mx_Q G Post) args s R.cells R.slots (mx_fr G)) (F0 m pc ls st0) := by
  obtain ⟨hC, hR, hS, hb, hH, hl⟩ := X
  intro T hT XT
  obtain ⟨v, st₀, t, T', Lc, h0, X', hL, e1, ⟨⟨v', z', hv, hp, hH'⟩, hF⟩, step⟩ := hr T hT XT
  have hv' : v = v'.map (mx_tr G) := Outcome.returned.inj hv
  subst hv'
  have hS' : va_S (mx_fr G) s.heap t.heap (locs ++ Lc) := by
    refine ⟨Nat.le_trans hS.1 (by rw [← h0]; exact hF.1), fun q h3 h4 => ?_, fun q hq => ?_⟩
    · rw [hF.2 q (by rw [h0]; exact Nat.lt_of_lt_of_le h3 hS.1) h4, h0]
      exact hS.2.1 q h3 h4
    · rcases List.mem_append.mp hq with h | h
      · exact hS.2.2 q h
      · exact hL q h
  obtain ⟨t2, a1, b1⟩ := kk v' z' hp p en R s m args below meth c t.heap (locs ++ Lc) (cells + kc') (slots + ks') ls ⟨hC, ⟨hR.1, hR.2.1, by omega, by omega⟩, hS', hb, hH', hl⟩ hY T' e1 X'
  refine ⟨t2, step t2 ?_, b1⟩
  have e2 : (v'.toList ++ st).map (mx_tr G) = (v'.map (mx_tr G)).toList ++ st.map (mx_tr G) := by cases v' <;> rfl
  rw [e2] at a1
  exact a1
theorem px_callV {own : String} {idx n d' kc' ks' c0 n0 i : Nat} {M' : mM} {av st0 : List Value} {Post' : Option Value → mS → Prop} (hd : decode M.2.2.1 pc = .ok (.invokevirtual idx, 3)) (hi : mx_inv own idx M' n) (hM : M.1 = own)
    (hV : Cond.instanceMethod M'.2.1 ∈ mx_TB ∧ Cond.selects M'.2.1.cls M'.2.1 M'.2.1 ∈ mx_TB) (hcl : ∃ r : vw_C, vwCl[c0]? = some r ∧ r.1 = M'.2.1.cls) (ho : mx_is e i c0 n0)
    (hc : mx_Call G l M' d' kc' ks' (.ref i :: av) (e, mi, mj) Post') (hd' : d' < d) (h1 : kc' ≤ kc) (h2 : ks' ≤ ks) (hst : st0 = av.reverse ++ (.ref i :: st)) (hn : av.length = n) (hW : (st.map fun v => v.category).sum ≤ 8)
    (kk : ∀ v z', Post' v z' → mx_FP Y G l M d (kc - kc') (ks - ks') Post (pc + 3) L (v.toList ++ st) z') : mx_FP Y G l M d kc ks Post pc L st0 (e, mi, mj) := by
  intro p en R s m args below meth c' H locs cells slots ls X hY
  obtain ⟨⟨hx, hcc, hml, hrt, hlk, hown, hnm, hts, hK⟩, hR, hS, hb, hH, hl⟩ := id X
  obtain ⟨r, hr, hrc⟩ := hcl
  have hc13 : c0 < 13 := (List.getElem?_eq_some_iff.mp hr).1
  have hrecv : ∃ cell : Cell, H[G.1 + i]? = some cell ∧ cell.vm.isStatics = false ∧ s.vm.findClass M'.2.1.cls = some cell.cls := by
    obtain ⟨r', h1', cell, q1, q2, q3, q4⟩ := mx_cellO ho hc13 hH
    exact ⟨cell, q1, by rw [q3]; rfl, by rw [q2, ← hrc]; exact (hK.1 c0 _ hr).2.1⟩
  have e1 : (mx_tr G (.ref i)) = .ref (G.1 + i) := by show Value.ref (mx_ad G i) = _; rw [mx_isl ho hH]
  subst hst
  refine px_cont X hY h1 h2 (W.runV (C := M'.2.1.cls) (b := G.1 + i) (As := av.map (mx_tr G)) (rest := st.map (mx_tr G)) (g := F0 m pc ls _) ⟨hx, hcc, hml, hM ▸ hown, hts⟩ hc ⟨mx_callB hi hts hd' hR.1 hR.2.1, hts _ hV.1, hts _ hV.2⟩ ⟨mx_blind, hrecv, fun U hU hW' => ⟨?_, by rw [hU]; exact hH, mx_K.moved hW'.alike hK⟩⟩ rfl (by simpa using hn) hl.1 ?_ (lv_room (by rw [mx_cats]; exact hW)) hd ⟨by omega, by omega⟩) kk
  · show _ = ((mx_tr G (.ref i)) :: av.map (mx_tr G)).toArray
    rw [e1]
  · show (av.reverse ++ (.ref i :: st)).map (mx_tr G) = _
    rw [mx_stk]
    show _ ++ (mx_tr G (.ref i) :: st.map (mx_tr G)) = _
    rw [e1]
theorem px_callS {own : String} {idx n d' kc' ks' : Nat} {M' : mM} {av st0 : List Value} {z : mS} {Post' : Option Value → mS → Prop} (hd : decode M.2.2.1 pc = .ok (.invokestatic idx, 3)) (hi : mx_inv own idx M' n) (hM : M.1 = own)
    (hV : Cond.static M'.2.1 ∈ mx_TB) (hc : mx_Call G l M' d' kc' ks' av z Post') (hd' : d' < d) (h1 : kc' ≤ kc) (h2 : ks' ≤ ks) (hst : st0 = av.reverse ++ st) (hn : av.length = n) (hW : (st.map fun v => v.category).sum ≤ 8)
    (kk : ∀ v z', Post' v z' → mx_FP Y G l M d (kc - kc') (ks - ks') Post (pc + 3) L (v.toList ++ st) z') : mx_FP Y G l M d kc ks Post pc L st0 z := by
  intro p en R s m args below meth c' H locs cells slots ls X hY
  obtain ⟨⟨hx, hcc, hml, hrt, hlk, hown, hnm, hts, hK⟩, hR, hS, hb, hH, hl⟩ := id X
  subst hst
  exact px_cont X hY h1 h2 (W.runS (As := av.map (mx_tr G)) (rest := st.map (mx_tr G)) (g := F0 m pc ls _) ⟨hx, hcc, hml, hM ▸ hown, hts⟩ hc ⟨mx_callB hi hts hd' hR.1 hR.2.1, hts _ hV⟩ ⟨mx_blind, fun U hU hW' => ⟨rfl, by rw [hU]; exact hH, mx_K.moved hW'.alike hK⟩⟩ rfl (by simpa using hn) hl.1 mx_stk (lv_room (by rw [mx_cats]; exact hW)) hd ⟨by omega, by omega⟩) kk
end PMC
