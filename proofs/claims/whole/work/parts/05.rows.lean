section MX
variable {G : mG} {l : Launch} {M : mM} {d kc ks : Nat} {Post : Option Value → mS → Prop} {pc : Nat} {L st : List Value} {z : mS}
theorem mx_S_F {G : mG} {s t : State} {H : Heap} {locs : List Loc} (h : va_S (mx_fr G) s.heap H locs) (ht : t.heap = H) : va_F (mx_fr G) s t := ⟨by rw [ht]; exact h.1, fun q hq hA => by rw [ht]; exact h.2.1 q hq hA⟩
/-- fewer known locals suffice -/
theorem mx_forget {L' : List Value} (h : mx_le L' L) (kk : mx_Fr G l M d kc ks Post pc L' st z) : mx_Fr G l M d kc ks Post pc L st z := by
  intro p e R s m args below meth c H locs cells slots ls ⟨hC, hR, hS, hb, hH, hl⟩
  exact kk p e R s m args below meth c H locs cells slots ls ⟨hC, hR, hS, hb, hH, mx_has_mono hl (mx_le_al h)⟩
/-- less room suffices -/
theorem mx_less {d' kc' ks' : Nat} (hd : d' ≤ d) (h1 : kc' ≤ kc) (h2 : ks' ≤ ks) (kk : mx_Fr G l M d' kc' ks' Post pc L st z) : mx_Fr G l M d kc ks Post pc L st z := by
  intro p e R s m args below meth c H locs cells slots ls ⟨hC, hR, hS, hb, hH, hl⟩
  exact kk p e R s m args below meth c H locs cells slots ls ⟨hC, ⟨by omega, by omega, by omega, by omega⟩, hS, hb, hH, hl⟩
theorem mx_eqL {L' : List Value} (h : L = L') (kk : mx_Fr G l M d kc ks Post pc L' st z) : mx_Fr G l M d kc ks Post pc L st z := h ▸ kk
theorem mx_eqz {z' : mS} (h : z = z') (kk : mx_Fr G l M d kc ks Post pc L st z') : mx_Fr G l M d kc ks Post pc L st z := h ▸ kk
theorem mx_eqs {st' : List Value} (h : st = st') (kk : mx_Fr G l M d kc ks Post pc L st' z) : mx_Fr G l M d kc ks Post pc L st z := h ▸ kk
/-- the locals at a method's entry -/
def mx_L0 : List Value → List Value
  | [] => []
  | v :: vs => if v.category = 2 then v :: .float 0 :: mx_L0 vs else v :: mx_L0 vs
theorem mx_blind {av : List Value} : FrameBlind (mx_Pc G av z) := fun a U g mk q => ⟨q.1, q.2.1, mx_K.moved (u := U) (U := U.calling g mk a) (Vm.Alike.refl U.vm) q.2.2⟩
theorem mx_al_fl (k : Nat) : ∀ n, mx_al G n (List.replicate k (.float 0)) = [] := by
  induction k with
  | zero => intro n; rfl
  | succ k ih => intro n; exact ih (n + 1)
theorem mx_al_app : ∀ (A B : List Value) (n : Nat), mx_al G n (A ++ B) = mx_al G n A ++ mx_al G (n + A.length) B := by
  intro A
  induction A with
  | nil => intro B n; rfl
  | cons a A ih =>
    intro B n
    have e : n + 1 + A.length = n + (a :: A).length := by simp; omega
    cases a with
    | float f =>
      show mx_al G (n + 1) (A ++ B) = mx_al G (n + 1) A ++ _
      rw [ih, e]
    | _ =>
      show _ :: mx_al G (n + 1) (A ++ B) = _ :: mx_al G (n + 1) A ++ _
      rw [ih, e]; rfl
theorem mx_al_args : ∀ (av : List Value) (n : Nat), ∀ q ∈ mx_al G n (mx_L0 av), q ∈ lv_args n (av.map (mx_tr G)) := by
  intro av
  induction av with
  | nil => intro n q h; simp [mx_L0, mx_al] at h
  | cons v av ih =>
    intro n q h
    by_cases hc : v.category = 2
    · have e : mx_L0 (v :: av) = v :: .float 0 :: mx_L0 av := by simp [mx_L0, hc]
      rw [e] at h
      have e2 : lv_args n ((v :: av).map (mx_tr G)) = (n, mx_tr G v) :: lv_args (n + 2) (av.map (mx_tr G)) := by
        simp [lv_args, mx_tr_cat, hc]
      rw [e2]
      rcases mx_al_cons G n v (.float 0 :: mx_L0 av) with ⟨f, hv, -⟩ | e3
      · subst hv; exact absurd hc (by simp [Value.category])
      · rw [e3] at h
        rcases List.mem_cons.mp h with rfl | h
        · exact List.mem_cons_self
        · exact List.mem_cons_of_mem _ (ih (n + 2) q h)
    · have e : mx_L0 (v :: av) = v :: mx_L0 av := by simp [mx_L0, hc]
      rw [e] at h
      have hc1 : v.category = 1 := (lv_cat v).resolve_right hc
      have e2 : lv_args n ((v :: av).map (mx_tr G)) = (n, mx_tr G v) :: lv_args (n + 1) (av.map (mx_tr G)) := by
        simp [lv_args, mx_tr_cat, hc1]
      rw [e2]
      rcases mx_al_cons G n v (mx_L0 av) with ⟨f, hv, e3⟩ | e3
      · rw [e3] at h
        exact List.mem_cons_of_mem _ (ih (n + 1) q h)
      · rw [e3] at h
        rcases List.mem_cons.mp h with rfl | h
        · exact List.mem_cons_self
        · exact List.mem_cons_of_mem _ (ih (n + 1) q h)
theorem mx_len (av : List Value) : (lg_sl (av.map (mx_tr G))).length = (mx_L0 av).length := by
  induction av with
  | nil => rfl
  | cons v av ih =>
    by_cases hc : v.category = 2
    · simp [lg_sl, mx_L0, hc, mx_tr_cat] at ih ⊢; omega
    · simp [lg_sl, mx_L0, hc, mx_tr_cat] at ih ⊢; omega
theorem mx_entry {av : List Value} (hp : plainName M.2.1.cls = true ∧ M.1 = M.2.1.cls) (hn : (mx_L0 av).length ≤ M.2.2.2.1)
    (hL : mx_L0 av ++ List.replicate (M.2.2.2.1 - (mx_L0 av).length) (.float 0) = L) (kk : mx_Fr G l M d kc ks Post 0 L [] z) : mx_Call G l M d kc ks av z Post := by
  subst hL
  refine Met.ofW (cc := M.2.2.1) (maxL := M.2.2.2.1) (ret := M.2.2.2.2) hp.1 rfl ?_
  intro p e s m args below meth c s₁ B hml hP
  obtain ⟨rfl, hH, hK⟩ := hP
  have hts := atoms_spec (ws := mx_ws M) B.pre
  have hown : s.vm.findClass M.1 = some m.cls := hp.2 ▸ findClass_of_methodNamed B.named
  have hl := lv_entry (av.map (mx_tr G)) (n := M.2.2.2.1) (by rw [mx_len]; exact hn)
  rw [lg_entry_eq]
  exact kk p e _ s m _ below meth c s.heap [] 0 0 _ ⟨⟨B.exec, B.bytes, hml, B.returns, B.notSynchronized, hown, (name_of_methodNamed B.named B.method).1, fun w hw => hts w (List.mem_cons_of_mem _ hw), hK⟩,
    ⟨Nat.le_refl _, Nat.le_refl _, by simp [headSpec, mx_rm], by simp [headSpec, mx_rm]⟩, va_S.rf, by rw [hH.1]; exact Nat.le_add_right _ _, hH, mx_has_mono hl (fun q hq => by rw [mx_al_app, mx_al_fl, List.append_nil] at hq; exact mx_al_args av 0 q hq)⟩
theorem mx_iconst {n : Int} (v : Int32) (hd : decode M.2.2.1 pc = .ok (.iconst n, 1)) (hv : Int32.ofInt n = v) (kk : mx_Fr G l M d kc ks Post (pc + 1) L (.int v :: st) z) : mx_Fr G l M d kc ks Post pc L st z := by
  intro p e R s m args below meth c H locs cells slots ls X
  obtain ⟨⟨hx, hcc, hml, hrt, hlk, hown, hnm, hts, hK⟩, hR, hS, hb, hH, hl⟩ := id X
  exact lv_iconst hx hcc hd hv (kk p e R s m args below meth c H locs cells slots ls X)
theorem mx_bipush {n : Int} (v : Int32) (hd : decode M.2.2.1 pc = .ok (.bipush n, 2)) (hv : (Int8.ofInt n).toInt32 = v) (kk : mx_Fr G l M d kc ks Post (pc + 2) L (.int v :: st) z) : mx_Fr G l M d kc ks Post pc L st z := by
  intro p e R s m args below meth c H locs cells slots ls X
  obtain ⟨⟨hx, hcc, hml, hrt, hlk, hown, hnm, hts, hK⟩, hR, hS, hb, hH, hl⟩ := id X
  exact lv_bipush hx hcc hd hv (kk p e R s m args below meth c H locs cells slots ls X)
theorem mx_sipush {n : Int} (v : Int32) (hd : decode M.2.2.1 pc = .ok (.sipush n, 3)) (hv : (Int16.ofInt n).toInt32 = v) (kk : mx_Fr G l M d kc ks Post (pc + 3) L (.int v :: st) z) : mx_Fr G l M d kc ks Post pc L st z := by
  intro p e R s m args below meth c H locs cells slots ls X
  obtain ⟨⟨hx, hcc, hml, hrt, hlk, hown, hnm, hts, hK⟩, hR, hS, hb, hH, hl⟩ := id X
  exact lv_sipush hx hcc hd hv (kk p e R s m args below meth c H locs cells slots ls X)
theorem mx_lconst {n : Fin 2} (v : Int64) (hd : decode M.2.2.1 pc = .ok (.lconst n, 1)) (hv : Int64.ofNat (n : Nat) = v) (kk : mx_Fr G l M d kc ks Post (pc + 1) L (.long v :: st) z) : mx_Fr G l M d kc ks Post pc L st z := by
  intro p e R s m args below meth c H locs cells slots ls X
  obtain ⟨⟨hx, hcc, hml, hrt, hlk, hown, hnm, hts, hK⟩, hR, hS, hb, hH, hl⟩ := id X
  exact lv_lconst hx hcc hd hv (kk p e R s m args below meth c H locs cells slots ls X)
theorem mx_null  (hd : decode M.2.2.1 pc = .ok (.aconst_null, 1)) (kk : mx_Fr G l M d kc ks Post (pc + 1) L (.null :: st) z) : mx_Fr G l M d kc ks Post pc L st z := by
  intro p e R s m args below meth c H locs cells slots ls X
  obtain ⟨⟨hx, hcc, hml, hrt, hlk, hown, hnm, hts, hK⟩, hR, hS, hb, hH, hl⟩ := id X
  exact lv_null hx hcc hd (kk p e R s m args below meth c H locs cells slots ls X)
theorem mx_ldc {idx : Nat} (v : Int32) (hd : decode M.2.2.1 pc = .ok (.ldc idx, 2)) (hw : Cond.constant M.1 idx v ∈ mx_TB) (kk : mx_Fr G l M d kc ks Post (pc + 2) L (.int v :: st) z) : mx_Fr G l M d kc ks Post pc L st z := by
  intro p e R s m args below meth c H locs cells slots ls X
  obtain ⟨⟨hx, hcc, hml, hrt, hlk, hown, hnm, hts, hK⟩, hR, hS, hb, hH, hl⟩ := id X
  exact lv_ldc hx hcc hown (hts _ hw) hd (kk p e R s m args below meth c H locs cells slots ls X)
theorem mx_ldcw {idx : Nat} (v : Int32) (hd : decode M.2.2.1 pc = .ok (.ldc_w idx, 3)) (hw : Cond.constant M.1 idx v ∈ mx_TB) (kk : mx_Fr G l M d kc ks Post (pc + 3) L (.int v :: st) z) : mx_Fr G l M d kc ks Post pc L st z := by
  intro p e R s m args below meth c H locs cells slots ls X
  obtain ⟨⟨hx, hcc, hml, hrt, hlk, hown, hnm, hts, hK⟩, hR, hS, hb, hH, hl⟩ := id X
  exact lv_ldcw hx hcc hown (hts _ hw) hd (kk p e R s m args below meth c H locs cells slots ls X)
theorem mx_ldc2 {idx : Nat} (v : Int64) (hd : decode M.2.2.1 pc = .ok (.ldc2_w idx, 3)) (hw : Cond.constantLong M.1 idx v ∈ mx_TB) (kk : mx_Fr G l M d kc ks Post (pc + 3) L (.long v :: st) z) : mx_Fr G l M d kc ks Post pc L st z := by
  intro p e R s m args below meth c H locs cells slots ls X
  obtain ⟨⟨hx, hcc, hml, hrt, hlk, hown, hnm, hts, hK⟩, hR, hS, hb, hH, hl⟩ := id X
  exact lv_ldc2 hx hcc hown (hts _ hw) hd (kk p e R s m args below meth c H locs cells slots ls X)
theorem mx_iload_n {k : Fin 4} {i : Nat} {x : Int32} (hd : decode M.2.2.1 pc = .ok (.iload_n k, 1)) (hi : (k : Nat) = i) (hv : L[i]? = some (.int x)) (kk : mx_Fr G l M d kc ks Post (pc + 1) L (.int x :: st) z) : mx_Fr G l M d kc ks Post pc L st z := by
  intro p e R s m args below meth c H locs cells slots ls X
  obtain ⟨⟨hx, hcc, hml, hrt, hlk, hown, hnm, hts, hK⟩, hR, hS, hb, hH, hl⟩ := id X
  exact lv_iload_n hx hcc hd hi (mx_at hl hv (fun f q => by cases q)) (kk p e R s m args below meth c H locs cells slots ls X)
theorem mx_iload {i : Nat} {x : Int32} (hd : decode M.2.2.1 pc = .ok (.iload i, 2)) (hv : L[i]? = some (.int x)) (kk : mx_Fr G l M d kc ks Post (pc + 2) L (.int x :: st) z) : mx_Fr G l M d kc ks Post pc L st z := by
  intro p e R s m args below meth c H locs cells slots ls X
  obtain ⟨⟨hx, hcc, hml, hrt, hlk, hown, hnm, hts, hK⟩, hR, hS, hb, hH, hl⟩ := id X
  exact lv_iload hx hcc hd (mx_at hl hv (fun f q => by cases q)) (kk p e R s m args below meth c H locs cells slots ls X)
theorem mx_lload_n {k : Fin 4} {i : Nat} {x : Int64} (hd : decode M.2.2.1 pc = .ok (.lload_n k, 1)) (hi : (k : Nat) = i) (hv : L[i]? = some (.long x)) (kk : mx_Fr G l M d kc ks Post (pc + 1) L (.long x :: st) z) : mx_Fr G l M d kc ks Post pc L st z := by
  intro p e R s m args below meth c H locs cells slots ls X
  obtain ⟨⟨hx, hcc, hml, hrt, hlk, hown, hnm, hts, hK⟩, hR, hS, hb, hH, hl⟩ := id X
  exact lv_lload_n hx hcc hd hi (mx_at hl hv (fun f q => by cases q)) (kk p e R s m args below meth c H locs cells slots ls X)
theorem mx_lload {i : Nat} {x : Int64} (hd : decode M.2.2.1 pc = .ok (.lload i, 2)) (hv : L[i]? = some (.long x)) (kk : mx_Fr G l M d kc ks Post (pc + 2) L (.long x :: st) z) : mx_Fr G l M d kc ks Post pc L st z := by
  intro p e R s m args below meth c H locs cells slots ls X
  obtain ⟨⟨hx, hcc, hml, hrt, hlk, hown, hnm, hts, hK⟩, hR, hS, hb, hH, hl⟩ := id X
  exact lv_lload hx hcc hd (mx_at hl hv (fun f q => by cases q)) (kk p e R s m args below meth c H locs cells slots ls X)
theorem mx_aload_n {k : Fin 4} {i : Nat} {x : Nat} (hd : decode M.2.2.1 pc = .ok (.aload_n k, 1)) (hi : (k : Nat) = i) (hv : L[i]? = some (.ref x)) (kk : mx_Fr G l M d kc ks Post (pc + 1) L (.ref x :: st) z) : mx_Fr G l M d kc ks Post pc L st z := by
  intro p e R s m args below meth c H locs cells slots ls X
  obtain ⟨⟨hx, hcc, hml, hrt, hlk, hown, hnm, hts, hK⟩, hR, hS, hb, hH, hl⟩ := id X
  exact lv_aload_n hx hcc hd hi (mx_at hl hv (fun f q => by cases q)) (kk p e R s m args below meth c H locs cells slots ls X)
theorem mx_aload {i : Nat} {x : Nat} (hd : decode M.2.2.1 pc = .ok (.aload i, 2)) (hv : L[i]? = some (.ref x)) (kk : mx_Fr G l M d kc ks Post (pc + 2) L (.ref x :: st) z) : mx_Fr G l M d kc ks Post pc L st z := by
  intro p e R s m args below meth c H locs cells slots ls X
  obtain ⟨⟨hx, hcc, hml, hrt, hlk, hown, hnm, hts, hK⟩, hR, hS, hb, hH, hl⟩ := id X
  exact lv_aload hx hcc hd (mx_at hl hv (fun f q => by cases q)) (kk p e R s m args below meth c H locs cells slots ls X)
theorem mx_aload_nN {k : Fin 4} {i : Nat} (hd : decode M.2.2.1 pc = .ok (.aload_n k, 1)) (hi : (k : Nat) = i) (hv : L[i]? = some .null) (kk : mx_Fr G l M d kc ks Post (pc + 1) L (.null :: st) z) : mx_Fr G l M d kc ks Post pc L st z := by
  intro p e R s m args below meth c H locs cells slots ls X
  obtain ⟨⟨hx, hcc, hml, hrt, hlk, hown, hnm, hts, hK⟩, hR, hS, hb, hH, hl⟩ := id X
  exact lv_aload_nN hx hcc hd hi (mx_at hl hv (fun f q => by cases q)) (kk p e R s m args below meth c H locs cells slots ls X)
theorem mx_aloadN {i : Nat} (hd : decode M.2.2.1 pc = .ok (.aload i, 2)) (hv : L[i]? = some .null) (kk : mx_Fr G l M d kc ks Post (pc + 2) L (.null :: st) z) : mx_Fr G l M d kc ks Post pc L st z := by
  intro p e R s m args below meth c H locs cells slots ls X
  obtain ⟨⟨hx, hcc, hml, hrt, hlk, hown, hnm, hts, hK⟩, hR, hS, hb, hH, hl⟩ := id X
  exact lv_aloadN hx hcc hd (mx_at hl hv (fun f q => by cases q)) (kk p e R s m args below meth c H locs cells slots ls X)
theorem mx_istore_n {k : Fin 4} {i : Nat} {x : Int32} {L2 : List Value} (hd : decode M.2.2.1 pc = .ok (.istore_n k, 1)) (hi : (k : Nat) = i) (hn : i < M.2.2.2.1) (hL : mx_s1 L i (.int x) = L2) (kk : mx_Fr G l M d kc ks Post (pc + 1) L2 st z) : mx_Fr G l M d kc ks Post pc L (.int x :: st) z := by
  intro p e R s m args below meth c H locs cells slots ls X
  obtain ⟨⟨hx, hcc, hml, hrt, hlk, hown, hnm, hts, hK⟩, hR, hS, hb, hH, hl⟩ := id X
  exact lv_istore_n hx hcc hd hi hl hn rfl (fun ls2 hl2 => kk p e R s m args below meth c H locs cells slots ls2 ⟨X.1, hR, hS, hb, hH, hL ▸ mx_has_mono hl2 (fun q hq => mx_s1_in (v := .int x) hq)⟩)
theorem mx_istore {i : Nat} {x : Int32} {L2 : List Value} (hd : decode M.2.2.1 pc = .ok (.istore i, 2)) (hn : i < M.2.2.2.1) (hL : mx_s1 L i (.int x) = L2) (kk : mx_Fr G l M d kc ks Post (pc + 2) L2 st z) : mx_Fr G l M d kc ks Post pc L (.int x :: st) z := by
  intro p e R s m args below meth c H locs cells slots ls X
  obtain ⟨⟨hx, hcc, hml, hrt, hlk, hown, hnm, hts, hK⟩, hR, hS, hb, hH, hl⟩ := id X
  exact lv_istore hx hcc hd hl hn rfl (fun ls2 hl2 => kk p e R s m args below meth c H locs cells slots ls2 ⟨X.1, hR, hS, hb, hH, hL ▸ mx_has_mono hl2 (fun q hq => mx_s1_in (v := .int x) hq)⟩)
theorem mx_lstore_n {k : Fin 4} {i : Nat} {x : Int64} {L2 : List Value} (hd : decode M.2.2.1 pc = .ok (.lstore_n k, 1)) (hi : (k : Nat) = i) (hn : i + 1 < M.2.2.2.1) (hL : mx_s2 L i (.long x) = L2) (kk : mx_Fr G l M d kc ks Post (pc + 1) L2 st z) : mx_Fr G l M d kc ks Post pc L (.long x :: st) z := by
  intro p e R s m args below meth c H locs cells slots ls X
  obtain ⟨⟨hx, hcc, hml, hrt, hlk, hown, hnm, hts, hK⟩, hR, hS, hb, hH, hl⟩ := id X
  exact lv_lstore_n hx hcc hd hi hl hn rfl (fun ls2 hl2 => kk p e R s m args below meth c H locs cells slots ls2 ⟨X.1, hR, hS, hb, hH, hL ▸ mx_has_mono hl2 (fun q hq => mx_s2_in (v := .long x) hq)⟩)
theorem mx_lstore {i : Nat} {x : Int64} {L2 : List Value} (hd : decode M.2.2.1 pc = .ok (.lstore i, 2)) (hn : i + 1 < M.2.2.2.1) (hL : mx_s2 L i (.long x) = L2) (kk : mx_Fr G l M d kc ks Post (pc + 2) L2 st z) : mx_Fr G l M d kc ks Post pc L (.long x :: st) z := by
  intro p e R s m args below meth c H locs cells slots ls X
  obtain ⟨⟨hx, hcc, hml, hrt, hlk, hown, hnm, hts, hK⟩, hR, hS, hb, hH, hl⟩ := id X
  exact lv_lstore hx hcc hd hl hn rfl (fun ls2 hl2 => kk p e R s m args below meth c H locs cells slots ls2 ⟨X.1, hR, hS, hb, hH, hL ▸ mx_has_mono hl2 (fun q hq => mx_s2_in (v := .long x) hq)⟩)
theorem mx_astore_n {k : Fin 4} {i : Nat} {x : Nat} {L2 : List Value} (hd : decode M.2.2.1 pc = .ok (.astore_n k, 1)) (hi : (k : Nat) = i) (hn : i < M.2.2.2.1) (hL : mx_s1 L i (.ref x) = L2) (kk : mx_Fr G l M d kc ks Post (pc + 1) L2 st z) : mx_Fr G l M d kc ks Post pc L (.ref x :: st) z := by
  intro p e R s m args below meth c H locs cells slots ls X
  obtain ⟨⟨hx, hcc, hml, hrt, hlk, hown, hnm, hts, hK⟩, hR, hS, hb, hH, hl⟩ := id X
  exact lv_astore_n hx hcc hd hi hl hn rfl (fun ls2 hl2 => kk p e R s m args below meth c H locs cells slots ls2 ⟨X.1, hR, hS, hb, hH, hL ▸ mx_has_mono hl2 (fun q hq => mx_s1_in (v := .ref x) hq)⟩)
theorem mx_astore {i : Nat} {x : Nat} {L2 : List Value} (hd : decode M.2.2.1 pc = .ok (.astore i, 2)) (hn : i < M.2.2.2.1) (hL : mx_s1 L i (.ref x) = L2) (kk : mx_Fr G l M d kc ks Post (pc + 2) L2 st z) : mx_Fr G l M d kc ks Post pc L (.ref x :: st) z := by
  intro p e R s m args below meth c H locs cells slots ls X
  obtain ⟨⟨hx, hcc, hml, hrt, hlk, hown, hnm, hts, hK⟩, hR, hS, hb, hH, hl⟩ := id X
  exact lv_astore hx hcc hd hl hn rfl (fun ls2 hl2 => kk p e R s m args below meth c H locs cells slots ls2 ⟨X.1, hR, hS, hb, hH, hL ▸ mx_has_mono hl2 (fun q hq => mx_s1_in (v := .ref x) hq)⟩)
theorem mx_astore_nN {k : Fin 4} {i : Nat} {L2 : List Value} (hd : decode M.2.2.1 pc = .ok (.astore_n k, 1)) (hi : (k : Nat) = i) (hn : i < M.2.2.2.1) (hL : mx_s1 L i .null = L2) (kk : mx_Fr G l M d kc ks Post (pc + 1) L2 st z) : mx_Fr G l M d kc ks Post pc L (.null :: st) z := by
  intro p e R s m args below meth c H locs cells slots ls X
  obtain ⟨⟨hx, hcc, hml, hrt, hlk, hown, hnm, hts, hK⟩, hR, hS, hb, hH, hl⟩ := id X
  exact lv_astore_nN hx hcc hd hi hl hn rfl (fun ls2 hl2 => kk p e R s m args below meth c H locs cells slots ls2 ⟨X.1, hR, hS, hb, hH, hL ▸ mx_has_mono hl2 (fun q hq => mx_s1_in (v := .null) hq)⟩)
theorem mx_astoreN {i : Nat} {L2 : List Value} (hd : decode M.2.2.1 pc = .ok (.astore i, 2)) (hn : i < M.2.2.2.1) (hL : mx_s1 L i .null = L2) (kk : mx_Fr G l M d kc ks Post (pc + 2) L2 st z) : mx_Fr G l M d kc ks Post pc L (.null :: st) z := by
  intro p e R s m args below meth c H locs cells slots ls X
  obtain ⟨⟨hx, hcc, hml, hrt, hlk, hown, hnm, hts, hK⟩, hR, hS, hb, hH, hl⟩ := id X
  exact lv_astoreN hx hcc hd hl hn rfl (fun ls2 hl2 => kk p e R s m args below meth c H locs cells slots ls2 ⟨X.1, hR, hS, hb, hH, hL ▸ mx_has_mono hl2 (fun q hq => mx_s1_in (v := .null) hq)⟩)
theorem mx_iinc {i : Nat} {n : Int} {x : Int32} (v : Int32) {L2 : List Value} (hd : decode M.2.2.1 pc = .ok (.iinc i n, 3)) (hv : L[i]? = some (.int x)) (hv2 : x + Int32.ofInt n = v) (hn : i < M.2.2.2.1) (hL : mx_s1 L i (.int v) = L2) (kk : mx_Fr G l M d kc ks Post (pc + 3) L2 st z) : mx_Fr G l M d kc ks Post pc L st z := by
  intro p e R s m args below meth c H locs cells slots ls X
  obtain ⟨⟨hx, hcc, hml, hrt, hlk, hown, hnm, hts, hK⟩, hR, hS, hb, hH, hl⟩ := id X
  have hm := mx_al_in (G := G) (n := 0) hv (fun f q => by cases q)
  rw [Nat.zero_add] at hm
  obtain ⟨k, hk⟩ := List.getElem?_of_mem hm
  exact lv_iinc hx hcc hd hl hk hv2 hn rfl (fun ls2 hl2 => kk p e R s m args below meth c H locs cells slots ls2 ⟨X.1, hR, hS, hb, hH, hL ▸ mx_has_mono hl2 (fun q hq => mx_s1_in (v := .int v) hq)⟩)
theorem mx_iadd {x y : Int32} (hd : decode M.2.2.1 pc = .ok (.iadd, 1)) (kk : mx_Fr G l M d kc ks Post (pc + 1) L (.int (x + y) :: st) z) : mx_Fr G l M d kc ks Post pc L (.int y :: .int x :: st) z := by
  intro p e R s m args below meth c H locs cells slots ls X
  obtain ⟨⟨hx, hcc, hml, hrt, hlk, hown, hnm, hts, hK⟩, hR, hS, hb, hH, hl⟩ := id X
  exact lv_iadd hx hcc hd (kk p e R s m args below meth c H locs cells slots ls X)
theorem mx_isub {x y : Int32} (hd : decode M.2.2.1 pc = .ok (.isub, 1)) (kk : mx_Fr G l M d kc ks Post (pc + 1) L (.int (x - y) :: st) z) : mx_Fr G l M d kc ks Post pc L (.int y :: .int x :: st) z := by
  intro p e R s m args below meth c H locs cells slots ls X
  obtain ⟨⟨hx, hcc, hml, hrt, hlk, hown, hnm, hts, hK⟩, hR, hS, hb, hH, hl⟩ := id X
  exact lv_isub hx hcc hd (kk p e R s m args below meth c H locs cells slots ls X)
theorem mx_imul {x y : Int32} (hd : decode M.2.2.1 pc = .ok (.imul, 1)) (kk : mx_Fr G l M d kc ks Post (pc + 1) L (.int (x * y) :: st) z) : mx_Fr G l M d kc ks Post pc L (.int y :: .int x :: st) z := by
  intro p e R s m args below meth c H locs cells slots ls X
  obtain ⟨⟨hx, hcc, hml, hrt, hlk, hown, hnm, hts, hK⟩, hR, hS, hb, hH, hl⟩ := id X
  exact lv_imul hx hcc hd (kk p e R s m args below meth c H locs cells slots ls X)
theorem mx_iand {x y : Int32} (hd : decode M.2.2.1 pc = .ok (.iand, 1)) (kk : mx_Fr G l M d kc ks Post (pc + 1) L (.int (x &&& y) :: st) z) : mx_Fr G l M d kc ks Post pc L (.int y :: .int x :: st) z := by
  intro p e R s m args below meth c H locs cells slots ls X
  obtain ⟨⟨hx, hcc, hml, hrt, hlk, hown, hnm, hts, hK⟩, hR, hS, hb, hH, hl⟩ := id X
  exact lv_iand hx hcc hd (kk p e R s m args below meth c H locs cells slots ls X)
theorem mx_ior {x y : Int32} (hd : decode M.2.2.1 pc = .ok (.ior, 1)) (kk : mx_Fr G l M d kc ks Post (pc + 1) L (.int (x ||| y) :: st) z) : mx_Fr G l M d kc ks Post pc L (.int y :: .int x :: st) z := by
  intro p e R s m args below meth c H locs cells slots ls X
  obtain ⟨⟨hx, hcc, hml, hrt, hlk, hown, hnm, hts, hK⟩, hR, hS, hb, hH, hl⟩ := id X
  exact lv_ior hx hcc hd (kk p e R s m args below meth c H locs cells slots ls X)
theorem mx_ixor {x y : Int32} (hd : decode M.2.2.1 pc = .ok (.ixor, 1)) (kk : mx_Fr G l M d kc ks Post (pc + 1) L (.int (x ^^^ y) :: st) z) : mx_Fr G l M d kc ks Post pc L (.int y :: .int x :: st) z := by
  intro p e R s m args below meth c H locs cells slots ls X
  obtain ⟨⟨hx, hcc, hml, hrt, hlk, hown, hnm, hts, hK⟩, hR, hS, hb, hH, hl⟩ := id X
  exact lv_ixor hx hcc hd (kk p e R s m args below meth c H locs cells slots ls X)
theorem mx_ishl {x y : Int32} (hd : decode M.2.2.1 pc = .ok (.ishl, 1)) (kk : mx_Fr G l M d kc ks Post (pc + 1) L (.int (x <<< (y &&& 31)) :: st) z) : mx_Fr G l M d kc ks Post pc L (.int y :: .int x :: st) z := by
  intro p e R s m args below meth c H locs cells slots ls X
  obtain ⟨⟨hx, hcc, hml, hrt, hlk, hown, hnm, hts, hK⟩, hR, hS, hb, hH, hl⟩ := id X
  exact lv_ishl hx hcc hd (kk p e R s m args below meth c H locs cells slots ls X)
theorem mx_ishr {x y : Int32} (hd : decode M.2.2.1 pc = .ok (.ishr, 1)) (kk : mx_Fr G l M d kc ks Post (pc + 1) L (.int (x >>> (y &&& 31)) :: st) z) : mx_Fr G l M d kc ks Post pc L (.int y :: .int x :: st) z := by
  intro p e R s m args below meth c H locs cells slots ls X
  obtain ⟨⟨hx, hcc, hml, hrt, hlk, hown, hnm, hts, hK⟩, hR, hS, hb, hH, hl⟩ := id X
  exact lv_ishr hx hcc hd (kk p e R s m args below meth c H locs cells slots ls X)
theorem mx_idiv {x y : Int32} (hd : decode M.2.2.1 pc = .ok (.idiv, 1)) (hne : ¬ y = 0) (kk : mx_Fr G l M d kc ks Post (pc + 1) L (.int (x / y) :: st) z) : mx_Fr G l M d kc ks Post pc L (.int y :: .int x :: st) z := by
  intro p e R s m args below meth c H locs cells slots ls X
  obtain ⟨⟨hx, hcc, hml, hrt, hlk, hown, hnm, hts, hK⟩, hR, hS, hb, hH, hl⟩ := id X
  exact lv_idiv hx hcc hd hne (kk p e R s m args below meth c H locs cells slots ls X)
theorem mx_irem {x y : Int32} (hd : decode M.2.2.1 pc = .ok (.irem, 1)) (hne : ¬ y = 0) (kk : mx_Fr G l M d kc ks Post (pc + 1) L (.int (x - x / y * y) :: st) z) : mx_Fr G l M d kc ks Post pc L (.int y :: .int x :: st) z := by
  intro p e R s m args below meth c H locs cells slots ls X
  obtain ⟨⟨hx, hcc, hml, hrt, hlk, hown, hnm, hts, hK⟩, hR, hS, hb, hH, hl⟩ := id X
  exact lv_irem hx hcc hd hne (kk p e R s m args below meth c H locs cells slots ls X)
theorem mx_ineg {x : Int32} (hd : decode M.2.2.1 pc = .ok (.ineg, 1)) (kk : mx_Fr G l M d kc ks Post (pc + 1) L (.int (-x) :: st) z) : mx_Fr G l M d kc ks Post pc L (.int x :: st) z := by
  intro p e R s m args below meth c H locs cells slots ls X
  obtain ⟨⟨hx, hcc, hml, hrt, hlk, hown, hnm, hts, hK⟩, hR, hS, hb, hH, hl⟩ := id X
  exact lv_ineg hx hcc hd (kk p e R s m args below meth c H locs cells slots ls X)
theorem mx_iushr {x y : Int32} (hd : decode M.2.2.1 pc = .ok (.iushr, 1)) (kk : mx_Fr G l M d kc ks Post (pc + 1) L (.int ((x.toUInt32 >>> (y.toUInt32 &&& Int32.toUInt32 31)).toInt32) :: st) z) : mx_Fr G l M d kc ks Post pc L (.int y :: .int x :: st) z := by
  intro p e R s m args below meth c H locs cells slots ls X
  obtain ⟨⟨hx, hcc, hml, hrt, hlk, hown, hnm, hts, hK⟩, hR, hS, hb, hH, hl⟩ := id X
  exact lv_iushr hx hcc hd rfl (kk p e R s m args below meth c H locs cells slots ls X)
theorem mx_ladd {x y : Int64} (hd : decode M.2.2.1 pc = .ok (.ladd, 1)) (kk : mx_Fr G l M d kc ks Post (pc + 1) L (.long (x + y) :: st) z) : mx_Fr G l M d kc ks Post pc L (.long y :: .long x :: st) z := by
  intro p e R s m args below meth c H locs cells slots ls X
  obtain ⟨⟨hx, hcc, hml, hrt, hlk, hown, hnm, hts, hK⟩, hR, hS, hb, hH, hl⟩ := id X
  exact lv_ladd hx hcc hd (kk p e R s m args below meth c H locs cells slots ls X)
theorem mx_lsub {x y : Int64} (hd : decode M.2.2.1 pc = .ok (.lsub, 1)) (kk : mx_Fr G l M d kc ks Post (pc + 1) L (.long (x - y) :: st) z) : mx_Fr G l M d kc ks Post pc L (.long y :: .long x :: st) z := by
  intro p e R s m args below meth c H locs cells slots ls X
  obtain ⟨⟨hx, hcc, hml, hrt, hlk, hown, hnm, hts, hK⟩, hR, hS, hb, hH, hl⟩ := id X
  exact lv_lsub hx hcc hd (kk p e R s m args below meth c H locs cells slots ls X)
theorem mx_lmul {x y : Int64} (hd : decode M.2.2.1 pc = .ok (.lmul, 1)) (kk : mx_Fr G l M d kc ks Post (pc + 1) L (.long (x * y) :: st) z) : mx_Fr G l M d kc ks Post pc L (.long y :: .long x :: st) z := by
  intro p e R s m args below meth c H locs cells slots ls X
  obtain ⟨⟨hx, hcc, hml, hrt, hlk, hown, hnm, hts, hK⟩, hR, hS, hb, hH, hl⟩ := id X
  exact lv_lmul hx hcc hd (kk p e R s m args below meth c H locs cells slots ls X)
theorem mx_land {x y : Int64} (hd : decode M.2.2.1 pc = .ok (.land, 1)) (kk : mx_Fr G l M d kc ks Post (pc + 1) L (.long (x &&& y) :: st) z) : mx_Fr G l M d kc ks Post pc L (.long y :: .long x :: st) z := by
  intro p e R s m args below meth c H locs cells slots ls X
  obtain ⟨⟨hx, hcc, hml, hrt, hlk, hown, hnm, hts, hK⟩, hR, hS, hb, hH, hl⟩ := id X
  exact lv_land hx hcc hd (kk p e R s m args below meth c H locs cells slots ls X)
theorem mx_lor {x y : Int64} (hd : decode M.2.2.1 pc = .ok (.lor, 1)) (kk : mx_Fr G l M d kc ks Post (pc + 1) L (.long (x ||| y) :: st) z) : mx_Fr G l M d kc ks Post pc L (.long y :: .long x :: st) z := by
  intro p e R s m args below meth c H locs cells slots ls X
  obtain ⟨⟨hx, hcc, hml, hrt, hlk, hown, hnm, hts, hK⟩, hR, hS, hb, hH, hl⟩ := id X
  exact lv_lor hx hcc hd (kk p e R s m args below meth c H locs cells slots ls X)
theorem mx_ldiv {x y : Int64} (hd : decode M.2.2.1 pc = .ok (.ldiv, 1)) (hne : ¬ y = 0) (kk : mx_Fr G l M d kc ks Post (pc + 1) L (.long (x / y) :: st) z) : mx_Fr G l M d kc ks Post pc L (.long y :: .long x :: st) z := by
  intro p e R s m args below meth c H locs cells slots ls X
  obtain ⟨⟨hx, hcc, hml, hrt, hlk, hown, hnm, hts, hK⟩, hR, hS, hb, hH, hl⟩ := id X
  exact lv_ldiv hx hcc hd hne (kk p e R s m args below meth c H locs cells slots ls X)
theorem mx_lrem {x y : Int64} (hd : decode M.2.2.1 pc = .ok (.lrem, 1)) (hne : ¬ y = 0) (kk : mx_Fr G l M d kc ks Post (pc + 1) L (.long (x - x / y * y) :: st) z) : mx_Fr G l M d kc ks Post pc L (.long y :: .long x :: st) z := by
  intro p e R s m args below meth c H locs cells slots ls X
  obtain ⟨⟨hx, hcc, hml, hrt, hlk, hown, hnm, hts, hK⟩, hR, hS, hb, hH, hl⟩ := id X
  exact lv_lrem hx hcc hd hne (kk p e R s m args below meth c H locs cells slots ls X)
theorem mx_lshr {x : Int64} {y : Int32} (hd : decode M.2.2.1 pc = .ok (.lshr, 1)) (kk : mx_Fr G l M d kc ks Post (pc + 1) L (.long (x >>> (y.toInt64 &&& 63)) :: st) z) : mx_Fr G l M d kc ks Post pc L (.int y :: .long x :: st) z := by
  intro p e R s m args below meth c H locs cells slots ls X
  obtain ⟨⟨hx, hcc, hml, hrt, hlk, hown, hnm, hts, hK⟩, hR, hS, hb, hH, hl⟩ := id X
  exact lv_lshr hx hcc hd rfl (kk p e R s m args below meth c H locs cells slots ls X)
theorem mx_i2l {x : Int32} (hd : decode M.2.2.1 pc = .ok (.i2l, 1)) (kk : mx_Fr G l M d kc ks Post (pc + 1) L (.long x.toInt64 :: st) z) : mx_Fr G l M d kc ks Post pc L (.int x :: st) z := by
  intro p e R s m args below meth c H locs cells slots ls X
  obtain ⟨⟨hx, hcc, hml, hrt, hlk, hown, hnm, hts, hK⟩, hR, hS, hb, hH, hl⟩ := id X
  exact lv_i2l hx hcc hd rfl (kk p e R s m args below meth c H locs cells slots ls X)
theorem mx_l2i {x : Int64} (hd : decode M.2.2.1 pc = .ok (.l2i, 1)) (kk : mx_Fr G l M d kc ks Post (pc + 1) L (.int x.toInt32 :: st) z) : mx_Fr G l M d kc ks Post pc L (.long x :: st) z := by
  intro p e R s m args below meth c H locs cells slots ls X
  obtain ⟨⟨hx, hcc, hml, hrt, hlk, hown, hnm, hts, hK⟩, hR, hS, hb, hH, hl⟩ := id X
  exact lv_l2i hx hcc hd rfl (kk p e R s m args below meth c H locs cells slots ls X)
theorem mx_lcmp {x y : Int64} (hd : decode M.2.2.1 pc = .ok (.lcmp, 1)) (kk : mx_Fr G l M d kc ks Post (pc + 1) L (.int (lg_cmp x y) :: st) z) : mx_Fr G l M d kc ks Post pc L (.long y :: .long x :: st) z := by
  intro p e R s m args below meth c H locs cells slots ls X
  obtain ⟨⟨hx, hcc, hml, hrt, hlk, hown, hnm, hts, hK⟩, hR, hS, hb, hH, hl⟩ := id X
  exact W.lcmp hx hcc hd (kk p e R s m args below meth c H locs cells slots ls X)
theorem mx_dup {v : Value} (hd : decode M.2.2.1 pc = .ok (.dup, 1)) (hv : v.category = 1) (kk : mx_Fr G l M d kc ks Post (pc + 1) L (v :: v :: st) z) : mx_Fr G l M d kc ks Post pc L (v :: st) z := by
  intro p e R s m args below meth c H locs cells slots ls X
  obtain ⟨⟨hx, hcc, hml, hrt, hlk, hown, hnm, hts, hK⟩, hR, hS, hb, hH, hl⟩ := id X
  exact lv_dup hx hcc hd (by rw [mx_tr_cat]; exact hv) (kk p e R s m args below meth c H locs cells slots ls X)
theorem mx_pop {v : Value} (hd : decode M.2.2.1 pc = .ok (.pop, 1)) (hv : v.category = 1) (kk : mx_Fr G l M d kc ks Post (pc + 1) L st z) : mx_Fr G l M d kc ks Post pc L (v :: st) z := by
  intro p e R s m args below meth c H locs cells slots ls X
  obtain ⟨⟨hx, hcc, hml, hrt, hlk, hown, hnm, hts, hK⟩, hR, hS, hb, hH, hl⟩ := id X
  exact lv_pop hx hcc hd (by rw [mx_tr_cat]; exact hv) (kk p e R s m args below meth c H locs cells slots ls X)
theorem mx_dup2 {v u : Value} (hd : decode M.2.2.1 pc = .ok (.dup2, 1)) (hv : v.category = 1) (hu : u.category = 1) (kk : mx_Fr G l M d kc ks Post (pc + 1) L (v :: u :: v :: u :: st) z) : mx_Fr G l M d kc ks Post pc L (v :: u :: st) z := by
  intro p e R s m args below meth c H locs cells slots ls X
  obtain ⟨⟨hx, hcc, hml, hrt, hlk, hown, hnm, hts, hK⟩, hR, hS, hb, hH, hl⟩ := id X
  exact lv_dup2_11 hx hcc hd (by rw [mx_tr_cat]; exact hv) (by rw [mx_tr_cat]; exact hu) (kk p e R s m args below meth c H locs cells slots ls X)
theorem mx_if_eq {x : Int32} {off : Int} {tgt : Nat} (hd : decode M.2.2.1 pc = .ok (.ifCond .eq off, 3)) (ht : (pc : Int) + off = (tgt : Int)) (kt : x = 0 → mx_Fr G l M d kc ks Post tgt L st z) (kf : ¬ x = 0 → mx_Fr G l M d kc ks Post (pc + 3) L st z) : mx_Fr G l M d kc ks Post pc L (.int x :: st) z := by
  intro p e R s m args below meth c H locs cells slots ls X
  obtain ⟨⟨hx, hcc, hml, hrt, hlk, hown, hnm, hts, hK⟩, hR, hS, hb, hH, hl⟩ := id X
  exact lv_if_eq hx hcc hd ht (fun h => kt h p e R s m args below meth c H locs cells slots ls X) (fun h => kf h p e R s m args below meth c H locs cells slots ls X)
theorem mx_if_ne {x : Int32} {off : Int} {tgt : Nat} (hd : decode M.2.2.1 pc = .ok (.ifCond .ne off, 3)) (ht : (pc : Int) + off = (tgt : Int)) (kt : ¬ x = 0 → mx_Fr G l M d kc ks Post tgt L st z) (kf : x = 0 → mx_Fr G l M d kc ks Post (pc + 3) L st z) : mx_Fr G l M d kc ks Post pc L (.int x :: st) z := by
  intro p e R s m args below meth c H locs cells slots ls X
  obtain ⟨⟨hx, hcc, hml, hrt, hlk, hown, hnm, hts, hK⟩, hR, hS, hb, hH, hl⟩ := id X
  exact lv_if_ne hx hcc hd ht (fun h => kt h p e R s m args below meth c H locs cells slots ls X) (fun h => kf h p e R s m args below meth c H locs cells slots ls X)
theorem mx_if_lt {x : Int32} {off : Int} {tgt : Nat} (hd : decode M.2.2.1 pc = .ok (.ifCond .lt off, 3)) (ht : (pc : Int) + off = (tgt : Int)) (kt : x < 0 → mx_Fr G l M d kc ks Post tgt L st z) (kf : ¬ x < 0 → mx_Fr G l M d kc ks Post (pc + 3) L st z) : mx_Fr G l M d kc ks Post pc L (.int x :: st) z := by
  intro p e R s m args below meth c H locs cells slots ls X
  obtain ⟨⟨hx, hcc, hml, hrt, hlk, hown, hnm, hts, hK⟩, hR, hS, hb, hH, hl⟩ := id X
  exact lv_if_lt hx hcc hd ht (fun h => kt h p e R s m args below meth c H locs cells slots ls X) (fun h => kf h p e R s m args below meth c H locs cells slots ls X)
theorem mx_if_ge {x : Int32} {off : Int} {tgt : Nat} (hd : decode M.2.2.1 pc = .ok (.ifCond .ge off, 3)) (ht : (pc : Int) + off = (tgt : Int)) (kt : 0 ≤ x → mx_Fr G l M d kc ks Post tgt L st z) (kf : ¬ 0 ≤ x → mx_Fr G l M d kc ks Post (pc + 3) L st z) : mx_Fr G l M d kc ks Post pc L (.int x :: st) z := by
  intro p e R s m args below meth c H locs cells slots ls X
  obtain ⟨⟨hx, hcc, hml, hrt, hlk, hown, hnm, hts, hK⟩, hR, hS, hb, hH, hl⟩ := id X
  exact lv_if_ge hx hcc hd ht (fun h => kt h p e R s m args below meth c H locs cells slots ls X) (fun h => kf h p e R s m args below meth c H locs cells slots ls X)
theorem mx_if_gt {x : Int32} {off : Int} {tgt : Nat} (hd : decode M.2.2.1 pc = .ok (.ifCond .gt off, 3)) (ht : (pc : Int) + off = (tgt : Int)) (kt : 0 < x → mx_Fr G l M d kc ks Post tgt L st z) (kf : ¬ 0 < x → mx_Fr G l M d kc ks Post (pc + 3) L st z) : mx_Fr G l M d kc ks Post pc L (.int x :: st) z := by
  intro p e R s m args below meth c H locs cells slots ls X
  obtain ⟨⟨hx, hcc, hml, hrt, hlk, hown, hnm, hts, hK⟩, hR, hS, hb, hH, hl⟩ := id X
  exact lv_if_gt hx hcc hd ht (fun h => kt h p e R s m args below meth c H locs cells slots ls X) (fun h => kf h p e R s m args below meth c H locs cells slots ls X)
theorem mx_if_le {x : Int32} {off : Int} {tgt : Nat} (hd : decode M.2.2.1 pc = .ok (.ifCond .le off, 3)) (ht : (pc : Int) + off = (tgt : Int)) (kt : x ≤ 0 → mx_Fr G l M d kc ks Post tgt L st z) (kf : ¬ x ≤ 0 → mx_Fr G l M d kc ks Post (pc + 3) L st z) : mx_Fr G l M d kc ks Post pc L (.int x :: st) z := by
  intro p e R s m args below meth c H locs cells slots ls X
  obtain ⟨⟨hx, hcc, hml, hrt, hlk, hown, hnm, hts, hK⟩, hR, hS, hb, hH, hl⟩ := id X
  exact lv_if_le hx hcc hd ht (fun h => kt h p e R s m args below meth c H locs cells slots ls X) (fun h => kf h p e R s m args below meth c H locs cells slots ls X)
theorem mx_icmp_eq {x y : Int32} {off : Int} {tgt : Nat} (hd : decode M.2.2.1 pc = .ok (.if_icmp .eq off, 3)) (ht : (pc : Int) + off = (tgt : Int)) (kt : x = y → mx_Fr G l M d kc ks Post tgt L st z) (kf : ¬ x = y → mx_Fr G l M d kc ks Post (pc + 3) L st z) : mx_Fr G l M d kc ks Post pc L (.int y :: .int x :: st) z := by
  intro p e R s m args below meth c H locs cells slots ls X
  obtain ⟨⟨hx, hcc, hml, hrt, hlk, hown, hnm, hts, hK⟩, hR, hS, hb, hH, hl⟩ := id X
  exact lv_icmp_eq hx hcc hd ht (fun h => kt h p e R s m args below meth c H locs cells slots ls X) (fun h => kf h p e R s m args below meth c H locs cells slots ls X)
theorem mx_icmp_ne {x y : Int32} {off : Int} {tgt : Nat} (hd : decode M.2.2.1 pc = .ok (.if_icmp .ne off, 3)) (ht : (pc : Int) + off = (tgt : Int)) (kt : ¬ x = y → mx_Fr G l M d kc ks Post tgt L st z) (kf : x = y → mx_Fr G l M d kc ks Post (pc + 3) L st z) : mx_Fr G l M d kc ks Post pc L (.int y :: .int x :: st) z := by
  intro p e R s m args below meth c H locs cells slots ls X
  obtain ⟨⟨hx, hcc, hml, hrt, hlk, hown, hnm, hts, hK⟩, hR, hS, hb, hH, hl⟩ := id X
  exact lv_icmp_ne hx hcc hd ht (fun h => kt h p e R s m args below meth c H locs cells slots ls X) (fun h => kf h p e R s m args below meth c H locs cells slots ls X)
theorem mx_icmp_lt {x y : Int32} {off : Int} {tgt : Nat} (hd : decode M.2.2.1 pc = .ok (.if_icmp .lt off, 3)) (ht : (pc : Int) + off = (tgt : Int)) (kt : x < y → mx_Fr G l M d kc ks Post tgt L st z) (kf : ¬ x < y → mx_Fr G l M d kc ks Post (pc + 3) L st z) : mx_Fr G l M d kc ks Post pc L (.int y :: .int x :: st) z := by
  intro p e R s m args below meth c H locs cells slots ls X
  obtain ⟨⟨hx, hcc, hml, hrt, hlk, hown, hnm, hts, hK⟩, hR, hS, hb, hH, hl⟩ := id X
  exact lv_icmp_lt hx hcc hd ht (fun h => kt h p e R s m args below meth c H locs cells slots ls X) (fun h => kf h p e R s m args below meth c H locs cells slots ls X)
theorem mx_icmp_ge {x y : Int32} {off : Int} {tgt : Nat} (hd : decode M.2.2.1 pc = .ok (.if_icmp .ge off, 3)) (ht : (pc : Int) + off = (tgt : Int)) (kt : y ≤ x → mx_Fr G l M d kc ks Post tgt L st z) (kf : ¬ y ≤ x → mx_Fr G l M d kc ks Post (pc + 3) L st z) : mx_Fr G l M d kc ks Post pc L (.int y :: .int x :: st) z := by
  intro p e R s m args below meth c H locs cells slots ls X
  obtain ⟨⟨hx, hcc, hml, hrt, hlk, hown, hnm, hts, hK⟩, hR, hS, hb, hH, hl⟩ := id X
  exact lv_icmp_ge hx hcc hd ht (fun h => kt h p e R s m args below meth c H locs cells slots ls X) (fun h => kf h p e R s m args below meth c H locs cells slots ls X)
theorem mx_icmp_gt {x y : Int32} {off : Int} {tgt : Nat} (hd : decode M.2.2.1 pc = .ok (.if_icmp .gt off, 3)) (ht : (pc : Int) + off = (tgt : Int)) (kt : y < x → mx_Fr G l M d kc ks Post tgt L st z) (kf : ¬ y < x → mx_Fr G l M d kc ks Post (pc + 3) L st z) : mx_Fr G l M d kc ks Post pc L (.int y :: .int x :: st) z := by
  intro p e R s m args below meth c H locs cells slots ls X
  obtain ⟨⟨hx, hcc, hml, hrt, hlk, hown, hnm, hts, hK⟩, hR, hS, hb, hH, hl⟩ := id X
  exact lv_icmp_gt hx hcc hd ht (fun h => kt h p e R s m args below meth c H locs cells slots ls X) (fun h => kf h p e R s m args below meth c H locs cells slots ls X)
theorem mx_icmp_le {x y : Int32} {off : Int} {tgt : Nat} (hd : decode M.2.2.1 pc = .ok (.if_icmp .le off, 3)) (ht : (pc : Int) + off = (tgt : Int)) (kt : x ≤ y → mx_Fr G l M d kc ks Post tgt L st z) (kf : ¬ x ≤ y → mx_Fr G l M d kc ks Post (pc + 3) L st z) : mx_Fr G l M d kc ks Post pc L (.int y :: .int x :: st) z := by
  intro p e R s m args below meth c H locs cells slots ls X
  obtain ⟨⟨hx, hcc, hml, hrt, hlk, hown, hnm, hts, hK⟩, hR, hS, hb, hH, hl⟩ := id X
  exact lv_icmp_le hx hcc hd ht (fun h => kt h p e R s m args below meth c H locs cells slots ls X) (fun h => kf h p e R s m args below meth c H locs cells slots ls X)
theorem mx_goto {off : Int} {tgt : Nat} (hd : decode M.2.2.1 pc = .ok (.goto off, 3)) (ht : (pc : Int) + off = (tgt : Int)) (kk : mx_Fr G l M d kc ks Post tgt L st z) : mx_Fr G l M d kc ks Post pc L st z := by
  intro p e R s m args below meth c H locs cells slots ls X
  obtain ⟨⟨hx, hcc, hml, hrt, hlk, hown, hnm, hts, hK⟩, hR, hS, hb, hH, hl⟩ := id X
  exact lv_goto hx hcc hd ht (kk p e R s m args below meth c H locs cells slots ls X)
theorem mx_ifnull {x : Nat} {off : Int} (hd : decode M.2.2.1 pc = .ok (.ifnull off, 3)) (kk : mx_Fr G l M d kc ks Post (pc + 3) L st z) : mx_Fr G l M d kc ks Post pc L (.ref x :: st) z := by
  intro p e R s m args below meth c H locs cells slots ls X
  obtain ⟨⟨hx, hcc, hml, hrt, hlk, hown, hnm, hts, hK⟩, hR, hS, hb, hH, hl⟩ := id X
  exact lv_ifnull hx hcc hd (kk p e R s m args below meth c H locs cells slots ls X)
theorem mx_ifnullN {off : Int} {tgt : Nat} (hd : decode M.2.2.1 pc = .ok (.ifnull off, 3)) (ht : (pc : Int) + off = (tgt : Int)) (kk : mx_Fr G l M d kc ks Post tgt L st z) : mx_Fr G l M d kc ks Post pc L (.null :: st) z := by
  intro p e R s m args below meth c H locs cells slots ls X
  obtain ⟨⟨hx, hcc, hml, hrt, hlk, hown, hnm, hts, hK⟩, hR, hS, hb, hH, hl⟩ := id X
  exact lv_ifnullN hx hcc hd ht (kk p e R s m args below meth c H locs cells slots ls X)
theorem mx_ifnonnull {x : Nat} {off : Int} {tgt : Nat} (hd : decode M.2.2.1 pc = .ok (.ifnonnull off, 3)) (ht : (pc : Int) + off = (tgt : Int)) (kk : mx_Fr G l M d kc ks Post tgt L st z) : mx_Fr G l M d kc ks Post pc L (.ref x :: st) z := by
  intro p e R s m args below meth c H locs cells slots ls X
  obtain ⟨⟨hx, hcc, hml, hrt, hlk, hown, hnm, hts, hK⟩, hR, hS, hb, hH, hl⟩ := id X
  exact lv_ifnonnull hx hcc hd ht (kk p e R s m args below meth c H locs cells slots ls X)
theorem mx_ifnonnullN {off : Int} (hd : decode M.2.2.1 pc = .ok (.ifnonnull off, 3)) (kk : mx_Fr G l M d kc ks Post (pc + 3) L st z) : mx_Fr G l M d kc ks Post pc L (.null :: st) z := by
  intro p e R s m args below meth c H locs cells slots ls X
  obtain ⟨⟨hx, hcc, hml, hrt, hlk, hown, hnm, hts, hK⟩, hR, hS, hb, hH, hl⟩ := id X
  exact lv_ifnonnullN hx hcc hd (kk p e R s m args below meth c H locs cells slots ls X)
theorem mx_tableOut {dflt lo hi : Int} {offs : Array Int} {len : Nat} {x : Int32} {tgt : Nat} (hd : decode M.2.2.1 pc = .ok (.tableswitch dflt lo hi offs, len)) (h : x.toInt < lo ∨ hi < x.toInt) (ht : (pc : Int) + dflt = (tgt : Int)) (kk : mx_Fr G l M d kc ks Post tgt L st z) : mx_Fr G l M d kc ks Post pc L (.int x :: st) z := by
  intro p e R s m args below meth c H locs cells slots ls X
  obtain ⟨⟨hx, hcc, hml, hrt, hlk, hown, hnm, hts, hK⟩, hR, hS, hb, hH, hl⟩ := id X
  exact lv_tableOut hx hcc hd h ht (kk p e R s m args below meth c H locs cells slots ls X)
theorem mx_tableIn {dflt lo hi off : Int} {offs : Array Int} {len : Nat} {x : Int32} {tgt : Nat} (hd : decode M.2.2.1 pc = .ok (.tableswitch dflt lo hi offs, len)) (h1 : ¬ x.toInt < lo) (h2 : ¬ hi < x.toInt) (ho : offs[(x.toInt - lo).toNat]? = some off) (ht : (pc : Int) + off = (tgt : Int)) (kk : mx_Fr G l M d kc ks Post tgt L st z) : mx_Fr G l M d kc ks Post pc L (.int x :: st) z := by
  intro p e R s m args below meth c H locs cells slots ls X
  obtain ⟨⟨hx, hcc, hml, hrt, hlk, hown, hnm, hts, hK⟩, hR, hS, hb, hH, hl⟩ := id X
  exact lv_tableIn hx hcc hd h1 h2 ho ht (kk p e R s m args below meth c H locs cells slots ls X)
theorem mx_lookup {dflt off : Int} {ps : Array (Int × Int)} {len : Nat} {x : Int32} {tgt : Nat} (hd : decode M.2.2.1 pc = .ok (.lookupswitch dflt ps, len)) (hp : (ps.toList.zip (ps.toList.drop 1)).all (fun (a, next) => a.1 < next.1) = true) (ho : Op.lookupswitch.offset ps.toList dflt x.toInt = off) (ht : (pc : Int) + off = (tgt : Int)) (kk : mx_Fr G l M d kc ks Post tgt L st z) : mx_Fr G l M d kc ks Post pc L (.int x :: st) z := by
  intro p e R s m args below meth c H locs cells slots ls X
  obtain ⟨⟨hx, hcc, hml, hrt, hlk, hown, hnm, hts, hK⟩, hR, hS, hb, hH, hl⟩ := id X
  exact lv_lookup hx hcc hd hp ho ht (kk p e R s m args below meth c H locs cells slots ls X)
theorem mx_ireturn {v : Int32} (hd : decode M.2.2.1 pc = .ok (.ireturn, 1)) (hr : M.2.2.2.2 = some .int) (hp : Post (some (.int v)) z) : mx_Fr G l M d kc ks Post pc L [.int v] z := by
  intro p e R s m args below meth c H locs cells slots ls X
  obtain ⟨⟨hx, hcc, hml, hrt, hlk, hown, hnm, hts, hK⟩, hR, hS, hb, hH, hl⟩ := id X
  refine W.widen (k := R.cells) (n := R.slots) (by omega) (by omega) ?_
  exact W.iret hx hcc (hrt.trans hr) (fun t ht _ => ⟨⟨some (.int v), z, rfl, hp, by rw [ht]; exact hH⟩, mx_S_F hS ht⟩) hS.2.2 hd hlk
theorem mx_zreturn {v : Int32} {ty : FieldType} (hd : decode M.2.2.1 pc = .ok (.ireturn, 1)) (hr : M.2.2.2.2 = some ty) (hn : narrow ty (.int v) = .int v) (hp : Post (some (.int v)) z) : mx_Fr G l M d kc ks Post pc L [.int v] z := by
  intro p e R s m args below meth c H locs cells slots ls X
  obtain ⟨⟨hx, hcc, hml, hrt, hlk, hown, hnm, hts, hK⟩, hR, hS, hb, hH, hl⟩ := id X
  refine W.widen (k := R.cells) (n := R.slots) (by omega) (by omega) ?_
  exact W.zret hx hcc (hrt.trans hr) hn (fun t ht _ => ⟨⟨some (.int v), z, rfl, hp, by rw [ht]; exact hH⟩, mx_S_F hS ht⟩) hS.2.2 hd hlk
theorem mx_lreturn {v : Int64} (hd : decode M.2.2.1 pc = .ok (.lreturn, 1)) (hr : M.2.2.2.2 = some .long) (hp : Post (some (.long v)) z) : mx_Fr G l M d kc ks Post pc L [.long v] z := by
  intro p e R s m args below meth c H locs cells slots ls X
  obtain ⟨⟨hx, hcc, hml, hrt, hlk, hown, hnm, hts, hK⟩, hR, hS, hb, hH, hl⟩ := id X
  refine W.widen (k := R.cells) (n := R.slots) (by omega) (by omega) ?_
  exact W.lret hx hcc (hrt.trans hr) (fun t ht _ => ⟨⟨some (.long v), z, rfl, hp, by rw [ht]; exact hH⟩, mx_S_F hS ht⟩) hS.2.2 hd hlk
theorem mx_return  (hd : decode M.2.2.1 pc = .ok (.return_, 1)) (hr : M.2.2.2.2 = none) (hp : Post none z) : mx_Fr G l M d kc ks Post pc L [] z := by
  intro p e R s m args below meth c H locs cells slots ls X
  obtain ⟨⟨hx, hcc, hml, hrt, hlk, hown, hnm, hts, hK⟩, hR, hS, hb, hH, hl⟩ := id X
  refine W.widen (k := R.cells) (n := R.slots) (by omega) (by omega) ?_
  exact W.vret hx hcc (hrt.trans hr) (fun t ht _ => ⟨⟨none, z, rfl, hp, by rw [ht]; exact hH⟩, mx_S_F hS ht⟩) hS.2.2 hd hlk
theorem mx_areturn {a : Nat} {n : String} (hd : decode M.2.2.1 pc = .ok (.areturn, 1)) (hr : M.2.2.2.2 = some (.object n)) (hp : Post (some (.ref a)) z) : mx_Fr G l M d kc ks Post pc L [.ref a] z := by
  intro p e R s m args below meth c H locs cells slots ls X
  obtain ⟨⟨hx, hcc, hml, hrt, hlk, hown, hnm, hts, hK⟩, hR, hS, hb, hH, hl⟩ := id X
  refine W.widen (k := R.cells) (n := R.slots) (by omega) (by omega) ?_
  exact W.aret hx hcc (hrt.trans hr) (Or.inl ⟨n, rfl⟩) (Or.inr ⟨_, rfl⟩) (fun t ht _ => ⟨⟨some (.ref a), z, rfl, hp, by rw [ht]; exact hH⟩, mx_S_F hS ht⟩) hS.2.2 hd hlk
theorem mx_areturnN {n : String} (hd : decode M.2.2.1 pc = .ok (.areturn, 1)) (hr : M.2.2.2.2 = some (.object n)) (hp : Post (some .null) z) : mx_Fr G l M d kc ks Post pc L [.null] z := by
  intro p e R s m args below meth c H locs cells slots ls X
  obtain ⟨⟨hx, hcc, hml, hrt, hlk, hown, hnm, hts, hK⟩, hR, hS, hb, hH, hl⟩ := id X
  refine W.widen (k := R.cells) (n := R.slots) (by omega) (by omega) ?_
  exact W.aret hx hcc (hrt.trans hr) (Or.inl ⟨n, rfl⟩) (Or.inl rfl) (fun t ht _ => ⟨⟨some .null, z, rfl, hp, by rw [ht]; exact hH⟩, mx_S_F hS ht⟩) hS.2.2 hd hlk
end MX
