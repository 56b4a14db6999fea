section MP
variable {G : mG} {l : Launch} {M : mM} {d kc ks : Nat} {Post : Option Value → mS → Prop} {pc : Nat} {L st : List Value} {e : mE} {mi : mI} {mj : mJ}
def mx_cp (m : mI) (a0 a n : Nat) : mI := fun b j => if b = a ∧ j < n then m a0 j else m b j
def mx_cl (m : mJ) (a0 a n : Nat) : mJ := fun b j => if b = a ∧ j < n then m a0 j else m b j
theorem mx_nn (z : Int32) (hz : ¬ z < 0) : z.toInt = (z.toNatClampNeg : Int) := by
  have hz0 : (0 : Int) ≤ z.toInt := by
    have := Int32.not_lt.mp hz
    simpa using Int32.le_iff_toInt_le.mp this
  show z.toInt = ((z.toInt.toNat : Nat) : Int)
  omega
theorem mx_nfw : nativeFrameWords "java/lang/System" "arraycopy" 5 ≤ 40 := by decide +kernel
/-- one row of a whole copy, for contents of any sort -/
theorem mx_copyW {α : Type} (V : α → Value) {ty : FieldType} {p : Program} {en : Env} {R : Room} {s : State} {m : MethodId} {args : Array Value} {below : List Frame} {meth : Method} {c : Code} {H : Heap} {locs : List Loc} {cells slots : Nat} {Q : State → Prop} {cc : ByteArray} {ls : Array Slot} {rest : List Value} {own : String} {idx : Nat}
    (hexec : p.tables.exec = Jvm.exec) (hb : c.code = cc) (hml : c.maxLocals = ls.size) (hown : s.vm.findClass own = some m.cls) (hlink : (Cond.methodLink own idx arraycopyName).before args s = true) (hnat : (Cond.native arraycopyName).before args s = true) (hstat : (Cond.static arraycopyName).before args s = true) (hini : (Cond.initialized "java/lang/System").before args s = true)
    {cA : ClassId} {a0 a n : Nat} {f g : Nat → α} (hA : ArrOfT s cA ty) (hc0 : H[a0]? = some (arrV cA n (fun j => V (f j)))) (hc1 : H[a]? = some (arrV cA n (fun j => V (g j)))) (hprim : refKind ty = false) (hfit : ∀ x, fits ty (V x) = true) (hnr : ∀ x a, V x ≠ .ref a)
    {nn : Int32} (h3 : ¬ nn < 0) (h4 : nn.toNatClampNeg = n) (hframes : 1 ≤ R.frames) (hlocals : (rest.map fun v => v.category).sum + (nativeFrameWords "java/lang/System" "arraycopy" 5 + 11) ≤ R.locals) (hdg : decode cc pc = .ok (.invokestatic idx, 3))
    (kk : ∀ (H1 : Heap) (Lc : List Loc), H1[a]? = some (arrV cA n (fun j => V (f j))) → H1.size = H.size → (∀ q, q ≠ a → H1[q]? = H[q]?) → (∀ q ∈ Lc, q.base = a) → W p l en R s m args below meth c H1 (locs ++ Lc) cells slots Q (F0 m (pc + 3) ls rest)) :
    W p l en R s m args below meth c H locs cells slots Q (F0 m pc ls (.int nn :: .int 0 :: .ref a :: .int 0 :: .ref a0 :: rest)) := by
  intro T hT X
  obtain ⟨-, k0, hk0, cm0, hkk0⟩ := hA n (fun j => V (f j))
  obtain ⟨-, k1, hk1, cm1, hkk1⟩ := hA n (fun j => V (g j))
  obtain ⟨vm', X', step⟩ := X.arraycopy hexec hown hlink hnat hstat hini (src := a0) (dst := a) (cs := arrV cA n (fun j => V (f j))) (cd := arrV cA n (fun j => V (g j))) (srcPos := 0) (destPos := 0) (n := nn) (by rw [hT]; exact hc0) (by rw [hT]; exact hc1)
    (fun _ h => by cases h) (fun _ h => by cases h) (fun h => by cases h) (fun h => by cases h) hk0 hk1 hkk0 hkk1 (by simp [hprim]) (by decide) (by decide) h3
    (by rw [mx_nn nn h3, h4, arrV_size]; show ¬ (0 : Int) + _ > _; omega)
    (by rw [mx_nn nn h3, h4, arrV_size]; show ¬ (0 : Int) + _ > _; omega)
    (fun vm₁ _ i hi => by
      have e : (arrV cA n (fun j => V (f j))).slots.getD ((0 : Int32).toNatClampNeg + i) .null = V (f ((0 : Int32).toNatClampNeg + i)) := by
        have : (0 : Int32).toNatClampNeg = 0 := by decide
        rw [this, Array.getD_eq_getD_getElem?, arrV_read _ _ (by omega)]
        rfl
      refine ⟨?_, ?_⟩
      · rw [e]
        exact hfit _
      · rw [e]
        cases hv : V (f ((0 : Int32).toNatClampNeg + i)) with
        | ref b => exact absurd hv (hnr _ _)
        | _ => trivial)
    (g := F0 m pc ls (.int nn :: .int 0 :: .ref a :: .int 0 :: .ref a0 :: rest)) rfl (by rw [hml]) (rest := rest) rfl (by rw [hb]; exact hdg) hframes (by show 2 * 0 + _ + _ ≤ _; omega)
  have e1 : copied (arrV cA n (fun j => V (f j))) (arrV cA n (fun j => V (g j))) 0 0 nn = arrV cA n (fun j => V (f j)) := by
    have h0 : (0 : Int32).toNatClampNeg = 0 := by decide
    have h6 := va_copied V cA cA f g (n0 := n) (n1 := n) (sp := (0 : Int32).toNatClampNeg) (dp := (0 : Int32).toNatClampNeg) (n := nn.toNatClampNeg) (by rw [h0, h4]; omega)
    refine h6.trans ?_
    unfold arrV
    congr 2
    funext j
    have hj := j.isLt
    simp only [va_cpy, h0, h4]
    rw [if_pos ⟨by omega, by omega⟩]
    simp
  rw [e1] at X' step
  have hl : a < H.size := (Array.getElem?_eq_some_iff.mp hc1).1
  have hheap : ((T.setVm vm').setCell a (arrV cA n (fun j => V (f j)))).heap = H.setIfInBounds a (arrV cA n (fun j => V (f j))) := by rw [← hT]; rfl
  obtain ⟨t, a1, b1⟩ := kk (H.setIfInBounds a (arrV cA n (fun j => V (f j)))) _ (by simp [Array.getElem?_setIfInBounds, hl]) (by simp) (fun q hq => by simp [Array.getElem?_setIfInBounds, Ne.symm hq]) (fun q hq => by
    obtain ⟨w, -, hw⟩ := List.mem_map.mp hq
    rw [← hw]) _ hheap X'
  exact ⟨t, step t a1, b1⟩
def mx_acw (own : String) (idx : Nat) : Prop := Cond.methodLink own idx arraycopyName ∈ mx_TB ∧ Cond.native arraycopyName ∈ mx_TB ∧ Cond.static arraycopyName ∈ mx_TB ∧ Cond.initialized "java/lang/System" ∈ mx_TB
theorem mx_copyI {own : String} {idx a0 a n : Nat} {nn : Int32} (hd : decode M.2.2.1 pc = .ok (.invokestatic idx, 3)) (hw : mx_acw own idx) (hM : M.1 = own) (ho0 : mx_is e a0 100 n) (ho : mx_is e a 100 n) (hn : nn = nI n) (hn2 : n < 2 ^ 31) (hd1 : 1 ≤ d) (hW : (st.map fun v => v.category).sum ≤ 8)
    (kk : mx_Fr G l M d kc ks Post (pc + 3) L st (e, mx_cp mi a0 a n, mj)) : mx_Fr G l M d kc ks Post pc L (.int nn :: .int 0 :: .ref a :: .int 0 :: .ref a0 :: st) (e, mi, mj) := by
  intro p en R s m args below meth c' H locs cells slots ls X
  obtain ⟨⟨hx, hcc, hml, hrt, hlk, hown, hnm, hts, hK⟩, hR, hS, hb, hH, hl⟩ := id X
  show W p l en R s m args below meth c' H locs cells slots _ (F0 m pc ls (.int nn :: .int 0 :: .ref (mx_ad G a) :: .int 0 :: .ref (mx_ad G a0) :: st.map (mx_tr G)))
  rw [mx_isl ho hH, mx_isl ho0 hH]
  subst hn
  refine mx_copyW (ty := .int) (fun x : Int32 => Value.int x) hx hcc (by rw [hml]; exact hl.1.symm) (hM ▸ hown) (hts _ hw.1) (hts _ hw.2.1) (hts _ hw.2.2.1) (hts _ hw.2.2.2) (hK.2 0 _ rfl).1 (mx_cellI ho0 hH) (mx_cellI ho hH) rfl (fun _ => rfl) (fun _ _ q => by cases q) (nI_pos hn2) (nI_clamp hn2) (by omega) (by rw [mx_cats]; have := mx_nfw; omega) hd (fun H1 Lc e1 hz oq hLc => ?_)
  refine kk p en R s m args below meth c' H1 _ cells slots ls ⟨X.1, hR, ⟨by rw [hz]; exact hS.1, fun q h1 h2 => by rw [oq q (fun w => h2 (by rw [w]; exact Nat.le_add_right _ _))]; exact hS.2.1 q h1 h2, fun q hq => ?_⟩, hb, ?_, hl⟩
  · rcases List.mem_append.mp hq with h | h
    · exact hS.2.2 q h
    · rw [hLc q h]; exact Nat.le_add_right _ _
  refine mx_H_one (i := a) hH hz oq rfl (fun j hj => ⟨fun k => by show mx_cp mi a0 a n j k = _; unfold mx_cp; rw [if_neg (fun q => hj q.1)], fun k => rfl⟩) (fun _ => ?_)
  unfold mx_cell
  dsimp only
  rw [ho.2]
  simp only [if_true]
  rw [e1]
  unfold arrV
  congr 3
  funext j
  have := j.isLt
  simp [mx_cp]
theorem mx_copyJ {own : String} {idx a0 a n : Nat} {nn : Int32} (hd : decode M.2.2.1 pc = .ok (.invokestatic idx, 3)) (hw : mx_acw own idx) (hM : M.1 = own) (ho0 : mx_is e a0 101 n) (ho : mx_is e a 101 n) (hn : nn = nI n) (hn2 : n < 2 ^ 31) (hd1 : 1 ≤ d) (hW : (st.map fun v => v.category).sum ≤ 8)
    (kk : mx_Fr G l M d kc ks Post (pc + 3) L st (e, mi, mx_cl mj a0 a n)) : mx_Fr G l M d kc ks Post pc L (.int nn :: .int 0 :: .ref a :: .int 0 :: .ref a0 :: st) (e, mi, mj) := by
  intro p en R s m args below meth c' H locs cells slots ls X
  obtain ⟨⟨hx, hcc, hml, hrt, hlk, hown, hnm, hts, hK⟩, hR, hS, hb, hH, hl⟩ := id X
  show W p l en R s m args below meth c' H locs cells slots _ (F0 m pc ls (.int nn :: .int 0 :: .ref (mx_ad G a) :: .int 0 :: .ref (mx_ad G a0) :: st.map (mx_tr G)))
  rw [mx_isl ho hH, mx_isl ho0 hH]
  subst hn
  refine mx_copyW (ty := .long) (fun x : Int64 => Value.long x) hx hcc (by rw [hml]; exact hl.1.symm) (hM ▸ hown) (hts _ hw.1) (hts _ hw.2.1) (hts _ hw.2.2.1) (hts _ hw.2.2.2) (hK.2 1 _ rfl).1 (mx_cellJ ho0 hH) (mx_cellJ ho hH) rfl (fun _ => rfl) (fun _ _ q => by cases q) (nI_pos hn2) (nI_clamp hn2) (by omega) (by rw [mx_cats]; have := mx_nfw; omega) hd (fun H1 Lc e1 hz oq hLc => ?_)
  refine kk p en R s m args below meth c' H1 _ cells slots ls ⟨X.1, hR, ⟨by rw [hz]; exact hS.1, fun q h1 h2 => by rw [oq q (fun w => h2 (by rw [w]; exact Nat.le_add_right _ _))]; exact hS.2.1 q h1 h2, fun q hq => ?_⟩, hb, ?_, hl⟩
  · rcases List.mem_append.mp hq with h | h
    · exact hS.2.2 q h
    · rw [hLc q h]; exact Nat.le_add_right _ _
  refine mx_H_one (i := a) hH hz oq rfl (fun j hj => ⟨fun k => rfl, fun k => by show mx_cl mj a0 a n j k = _; unfold mx_cl; rw [if_neg (fun q => hj q.1)]⟩) (fun _ => ?_)
  unfold mx_cell
  dsimp only
  rw [ho.2]
  simp only [show ¬ (101 = 100) by decide, if_true, if_false]
  rw [e1]
  unfold arrV
  congr 3
  funext j
  have := j.isLt
  simp [mx_cl]
end MP
