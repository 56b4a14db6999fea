section MH
variable {G : mG} {l : Launch} {M : mM} {d kc ks : Nat} {Post : Option Value → mS → Prop} {pc : Nat} {L st : List Value} {e : mE} {mi : mI} {mj : mJ}
/-- cell i is of kind c and length n -/
def mx_is (e : mE) (i c n : Nat) : Prop := i < e.1 ∧ e.2.1 i = (c, n)
def mx_up (m : mI) (a k : Nat) (x : Int32) : mI := fun b j => if b = a ∧ j = k then x else m b j
def mx_ul (m : mJ) (a k : Nat) (x : Int64) : mJ := fun b j => if b = a ∧ j = k then x else m b j
theorem mx_up_self (m : mI) (a k : Nat) (x : Int32) : mx_up m a k x a k = x := by simp [mx_up]
theorem mx_up_ne (m : mI) {a k b j : Nat} (x : Int32) (h : b = a → j ≠ k) : mx_up m a k x b j = m b j := by
  unfold mx_up
  rw [if_neg (fun q => h q.1 q.2)]
theorem mx_adl {i : Nat} (h : i < 100000) : mx_ad G i = G.1 + i := if_pos h
theorem mx_isl {i c n : Nat} {H : Heap} (h : mx_is e i c n) (hH : mx_H G (e, mi, mj) H) : mx_ad G i = G.1 + i := mx_adl (Nat.lt_of_lt_of_le h.1 hH.2.1)
/-- field k of class c by the pool entry idx of the class own -/
def mx_fld (own : String) (idx c k : Nat) : Prop := ∃ (C : String) (T : u_T) (N : Nat), vwCl[c]? = some (C, T, N) ∧ k < N ∧ Cond.fieldLink own idx C (T k).2.1 (T k).2.2.1 ∈ mx_TB ∧ (T k).1 = C ∧ (∀ w ∈ u_ws C T N, w ∈ mx_TB) ∧ (∀ k, k < N → parseFieldDescriptor (T k).2.2.1 = some (mx_ty c k)) ∧ (∀ a, a < N → ∀ b, b < N → a ≠ b → (T a).2.1 ≠ (T b).2.1)
theorem mx_fld_c {own : String} {idx c k : Nat} (h : mx_fld own idx c k) : c < 13 := by
  obtain ⟨C, T, N, h1, -⟩ := h
  exact (List.getElem?_eq_some_iff.mp h1).1
theorem mx_cellO {c i n : Nat} {H : Heap} (h : mx_is e i c n) (hc : c < 13) (hH : mx_H G (e, mi, mj) H) : mx_obj G (e, mi, mj) c i H := by
  have h1 := hH.2.2 i h.1
  unfold mx_cell at h1
  have e0 : ((e, mi, mj) : mS).1.2.1 i = (c, n) := h.2
  rw [e0] at h1
  simp only [show ¬ c = 100 by omega, show ¬ c = 101 by omega, show ¬ c = 102 by omega, show ¬ c = 103 by omega, show ¬ c = 104 by omega, show ¬ c = 999 by omega, if_false] at h1
  exact h1
theorem mx_cellI {i n : Nat} {H : Heap} (h : mx_is e i 100 n) (hH : mx_H G (e, mi, mj) H) : H[G.1 + i]? = some (arrV (G.2.2.1 0) n (fun j => .int (mi i j))) := by
  have h1 := hH.2.2 i h.1
  unfold mx_cell at h1
  have e0 : ((e, mi, mj) : mS).1.2.1 i = (100, n) := h.2
  rw [e0] at h1
  simpa using h1
theorem mx_cellJ {i n : Nat} {H : Heap} (h : mx_is e i 101 n) (hH : mx_H G (e, mi, mj) H) : H[G.1 + i]? = some (arrV (G.2.2.1 1) n (fun j => .long (mj i j))) := by
  have h1 := hH.2.2 i h.1
  unfold mx_cell at h1
  have e0 : ((e, mi, mj) : mS).1.2.1 i = (101, n) := h.2
  rw [e0] at h1
  simpa using h1
theorem mx_cellZ {i n : Nat} {H : Heap} (h : mx_is e i 102 n) (hH : mx_H G (e, mi, mj) H) : H[G.1 + i]? = some (arrV (G.2.2.1 2) n (fun j => .int (mi i j))) := by
  have h1 := hH.2.2 i h.1
  unfold mx_cell at h1
  have e0 : ((e, mi, mj) : mS).1.2.1 i = (102, n) := h.2
  rw [e0] at h1
  simpa using h1
theorem mx_cellN {i n : Nat} {H : Heap} (h : mx_is e i 103 n) (hH : mx_H G (e, mi, mj) H) : H[G.1 + i]? = some (arrV (G.2.2.1 3) n (fun j => mx_rv G (e.2.2 i j))) := by
  have h1 := hH.2.2 i h.1
  unfold mx_cell at h1
  have e0 : ((e, mi, mj) : mS).1.2.1 i = (103, n) := h.2
  rw [e0] at h1
  simpa using h1
theorem mx_cellP {i n : Nat} {H : Heap} (h : mx_is e i 104 n) (hH : mx_H G (e, mi, mj) H) : H[G.1 + i]? = some (arrV (G.2.2.1 4) n (fun j => mx_rv G (e.2.2 i j))) := by
  have h1 := hH.2.2 i h.1
  unfold mx_cell at h1
  have e0 : ((e, mi, mj) : mS).1.2.1 i = (104, n) := h.2
  rw [e0] at h1
  simpa using h1
/-- a heap that differs in one cell -/
theorem mx_H_one {i : Nat} {z z' : mS} {H H1 : Heap} (hH : mx_H G z H) (hz : H1.size = H.size) (ho : ∀ q, q ≠ G.1 + i → H1[q]? = H[q]?) (hn : z'.1 = z.1) (hsame : ∀ j, j ≠ i → (∀ k, z'.2.1 j k = z.2.1 j k) ∧ (∀ k, z'.2.2 j k = z.2.2 j k)) (hi : i < z.1.1 → mx_cell G z' i H1) : mx_H G z' H1 := by
  obtain ⟨e', mi', mj'⟩ := z'
  obtain ⟨e, mi, mj⟩ := z
  dsimp only at hn hsame hi
  subst hn
  refine ⟨hz.trans hH.1, hH.2.1, fun j hj => ?_⟩
  by_cases hji : j = i
  · subst hji; exact hi hj
  · have hc := hH.2.2 j hj
    have hq : H1[G.1 + j]? = H[G.1 + j]? := ho _ (by omega)
    have f1 : (fun k => mi' j k) = fun k => mi j k := funext (hsame j hji).1
    have f2 : (fun k => mj' j k) = fun k => mj j k := funext (hsame j hji).2
    unfold mx_cell at hc ⊢
    dsimp only at hc ⊢
    rw [hq]
    have f3 : (fun k => Value.int (mi' j k)) = fun k => Value.int (mi j k) := funext fun k => by rw [(hsame j hji).1 k]
    have f4 : (fun k => Value.long (mj' j k)) = fun k => Value.long (mj j k) := funext fun k => by rw [(hsame j hji).2 k]
    rw [f3, f4]
    have f5 : mx_obj G (e', mi', mj') (e'.2.1 j).1 j H1 ↔ mx_obj G (e', mi, mj) (e'.2.1 j).1 j H := by
      have f6 : ∀ c, (fun k => mx_fv G (e', mi', mj') (mx_ty c k) j k) = fun k => mx_fv G (e', mi, mj) (mx_ty c k) j k := by
        intro c
        funext k
        unfold mx_fv
        dsimp only
        rw [(hsame j hji).1 k, (hsame j hji).2 k]
      unfold mx_obj
      rw [f6]
      exact ⟨fun ⟨r, h1, h2⟩ => ⟨r, h1, h2.kept hq.symm⟩, fun ⟨r, h1, h2⟩ => ⟨r, h1, h2.kept hq⟩⟩
    rw [f5]
    exact hc
theorem mx_get {own : String} {idx c k i n : Nat} {v : Value} (hd : decode M.2.2.1 pc = .ok (.getfield idx, 3)) (hf : mx_fld own idx c k) (hM : M.1 = own) (ho : mx_is e i c n) (hv : mx_tr G v = mx_fv G (e, mi, mj) (mx_ty c k) i k)
    (kk : mx_Fr G l M d kc ks Post (pc + 3) L (v :: st) (e, mi, mj)) : mx_Fr G l M d kc ks Post pc L (.ref i :: st) (e, mi, mj) := by
  intro p en R s m args below meth c' H locs cells slots ls X
  obtain ⟨⟨hx, hcc, hml, hrt, hlk, hown, hnm, hts, hK⟩, hR, hS, hb, hH, hl⟩ := id X
  have hc13 := mx_fld_c hf
  obtain ⟨C, T, N, hcl, hk, hlink, hT1, hlay, hty, hnn⟩ := hf
  obtain ⟨r, h1, cell, q1, q2, q3, q4⟩ := mx_cellO ho hc13 hH
  have hr : r = (C, T, N) := Option.some.inj (h1.symm.trans hcl)
  subst hr
  obtain ⟨hSl, hfc, kC, hkC, hkind⟩ := hK.1 c _ hcl
  obtain ⟨cf, kf, fi, f, hi, hsl⟩ := hSl k hk
  have e1 : (mx_tr G (.ref i)) = .ref (G.1 + i) := by show Value.ref (mx_ad G i) = _; rw [mx_isl ho hH]
  show W p l en R s m args below meth c' H locs cells slots _ (F0 m pc ls (mx_tr G (.ref i) :: st.map (mx_tr G)))
  rw [e1]
  rw [hT1] at hi
  refine W.getf (v := mx_tr G v) hx hcc (hM ▸ hown) (hts _ hlink) hi (u_facts hfc hkC (u_lays (T := T) (N := N) hts hlay hk) (hT1 ▸ hi)).1 q1 (by rw [q3]; exact fun h => by cases h) ?_ rfl rfl hd (kk p en R s m args below meth c' H locs cells slots ls X)
  rw [hsl, q4 k hk, hv]
theorem mx_getI {own : String} {idx c k i n : Nat} (hd : decode M.2.2.1 pc = .ok (.getfield idx, 3)) (hf : mx_fld own idx c k) (hM : M.1 = own) (ht : mx_ty c k = .int ∨ mx_ty c k = .boolean) (ho : mx_is e i c n)
    (kk : mx_Fr G l M d kc ks Post (pc + 3) L (.int (mi i k) :: st) (e, mi, mj)) : mx_Fr G l M d kc ks Post pc L (.ref i :: st) (e, mi, mj) :=
  mx_get hd hf hM ho (by rcases ht with h | h <;> (rw [h]; rfl)) kk
theorem mx_getJ {own : String} {idx c k i n : Nat} (hd : decode M.2.2.1 pc = .ok (.getfield idx, 3)) (hf : mx_fld own idx c k) (hM : M.1 = own) (ht : mx_ty c k = .long) (ho : mx_is e i c n)
    (kk : mx_Fr G l M d kc ks Post (pc + 3) L (.long (mj i k) :: st) (e, mi, mj)) : mx_Fr G l M d kc ks Post pc L (.ref i :: st) (e, mi, mj) :=
  mx_get hd hf hM ho (by rw [ht]; rfl) kk
def mx_isR (ty : FieldType) : Bool := match ty with
  | .object _ => true
  | .array _ => true
  | _ => false
theorem mx_fvR {ty : FieldType} {z : mS} {i k : Nat} (h : mx_isR ty = true) : mx_fv G z ty i k = mx_rv G (z.1.2.2 i k) := by
  cases ty <;> first | rfl | cases h
theorem mx_getR {own : String} {idx c k i n a : Nat} (hd : decode M.2.2.1 pc = .ok (.getfield idx, 3)) (hf : mx_fld own idx c k) (hM : M.1 = own) (ht : mx_isR (mx_ty c k) = true) (ho : mx_is e i c n) (hr : e.2.2 i k = some a)
    (kk : mx_Fr G l M d kc ks Post (pc + 3) L (.ref a :: st) (e, mi, mj)) : mx_Fr G l M d kc ks Post pc L (.ref i :: st) (e, mi, mj) :=
  mx_get hd hf hM ho (by rw [mx_fvR ht]; show _ = mx_rv G (e.2.2 i k); rw [hr]; rfl) kk
theorem mx_iaload {i : Int32} {a n : Nat} (hd : decode M.2.2.1 pc = .ok (.iaload, 1)) (ho : mx_is e a 100 n) (hin : vp_in i n)
    (kk : mx_Fr G l M d kc ks Post (pc + 1) L (.int (mi a i.toNatClampNeg) :: st) (e, mi, mj)) : mx_Fr G l M d kc ks Post pc L (.int i :: .ref a :: st) (e, mi, mj) := by
  intro p en R s m args below meth c' H locs cells slots ls X
  obtain ⟨⟨hx, hcc, hml, hrt, hlk, hown, hnm, hts, hK⟩, hR, hS, hb, hH, hl⟩ := id X
  show W p l en R s m args below meth c' H locs cells slots _ (F0 m pc ls (.int i :: .ref (mx_ad G a) :: st.map (mx_tr G)))
  rw [mx_isl ho hH]
  have hlt : i.toNatClampNeg < n := Nat.not_le.mp fun q => hin (Or.inr q)
  exact W.iald (v := .int (mi a i.toNatClampNeg)) hx hcc (mx_cellI ho hH) ((hK.2 0 _ rfl).1 n _) (fun q => by cases q) (by rw [arrV_size]; exact hin) (by rw [arrV_read _ _ hlt]) rfl rfl hd (kk p en R s m args below meth c' H locs cells slots ls X)
theorem mx_laload {i : Int32} {a n : Nat} (hd : decode M.2.2.1 pc = .ok (.laload, 1)) (ho : mx_is e a 101 n) (hin : vp_in i n)
    (kk : mx_Fr G l M d kc ks Post (pc + 1) L (.long (mj a i.toNatClampNeg) :: st) (e, mi, mj)) : mx_Fr G l M d kc ks Post pc L (.int i :: .ref a :: st) (e, mi, mj) := by
  intro p en R s m args below meth c' H locs cells slots ls X
  obtain ⟨⟨hx, hcc, hml, hrt, hlk, hown, hnm, hts, hK⟩, hR, hS, hb, hH, hl⟩ := id X
  show W p l en R s m args below meth c' H locs cells slots _ (F0 m pc ls (.int i :: .ref (mx_ad G a) :: st.map (mx_tr G)))
  rw [mx_isl ho hH]
  have hlt : i.toNatClampNeg < n := Nat.not_le.mp fun q => hin (Or.inr q)
  exact W.lald (v := .long (mj a i.toNatClampNeg)) hx hcc (mx_cellJ ho hH) ((hK.2 1 _ rfl).1 n _) (fun q => by cases q) (by rw [arrV_size]; exact hin) (by rw [arrV_read _ _ hlt]) rfl rfl hd (kk p en R s m args below meth c' H locs cells slots ls X)
theorem mx_baload {i : Int32} {a n : Nat} (hd : decode M.2.2.1 pc = .ok (.baload, 1)) (ho : mx_is e a 102 n) (hin : vp_in i n)
    (kk : mx_Fr G l M d kc ks Post (pc + 1) L (.int (mi a i.toNatClampNeg) :: st) (e, mi, mj)) : mx_Fr G l M d kc ks Post pc L (.int i :: .ref a :: st) (e, mi, mj) := by
  intro p en R s m args below meth c' H locs cells slots ls X
  obtain ⟨⟨hx, hcc, hml, hrt, hlk, hown, hnm, hts, hK⟩, hR, hS, hb, hH, hl⟩ := id X
  show W p l en R s m args below meth c' H locs cells slots _ (F0 m pc ls (.int i :: .ref (mx_ad G a) :: st.map (mx_tr G)))
  rw [mx_isl ho hH]
  have hlt : i.toNatClampNeg < n := Nat.not_le.mp fun q => hin (Or.inr q)
  exact W.zald (v := .int (mi a i.toNatClampNeg)) hx hcc (mx_cellZ ho hH) ((hK.2 2 _ rfl).1 n _) (fun q => by cases q) (by rw [arrV_size]; exact hin) (by rw [arrV_read _ _ hlt]) rfl rfl hd (kk p en R s m args below meth c' H locs cells slots ls X)
theorem mx_aaload {i : Int32} {a n k b : Nat} (hd : decode M.2.2.1 pc = .ok (.aaload, 1)) (ho : mx_is e a k n) (hk : k = 103 ∨ k = 104) (hin : vp_in i n) (hr : e.2.2 a i.toNatClampNeg = some b)
    (kk : mx_Fr G l M d kc ks Post (pc + 1) L (.ref b :: st) (e, mi, mj)) : mx_Fr G l M d kc ks Post pc L (.int i :: .ref a :: st) (e, mi, mj) := by
  intro p en R s m args below meth c' H locs cells slots ls X
  obtain ⟨⟨hx, hcc, hml, hrt, hlk, hown, hnm, hts, hK⟩, hR, hS, hb, hH, hl⟩ := id X
  show W p l en R s m args below meth c' H locs cells slots _ (F0 m pc ls (.int i :: .ref (mx_ad G a) :: st.map (mx_tr G)))
  rw [mx_isl ho hH]
  have hlt : i.toNatClampNeg < n := Nat.not_le.mp fun q => hin (Or.inr q)
  have hv : mx_rv G (e.2.2 a i.toNatClampNeg) = mx_tr G (.ref b) := by rw [hr]; rfl
  rcases hk with rfl | rfl
  · exact W.aald (v := mx_tr G (.ref b)) hx hcc (mx_cellN ho hH) ((hK.2 3 _ rfl).1 n _) rfl (fun q => by cases q) (by rw [arrV_size]; exact hin) (by rw [arrV_read _ _ hlt, hv]) rfl rfl hd (kk p en R s m args below meth c' H locs cells slots ls X)
  · exact W.aald (v := mx_tr G (.ref b)) hx hcc (mx_cellP ho hH) ((hK.2 4 _ rfl).1 n _) rfl (fun q => by cases q) (by rw [arrV_size]; exact hin) (by rw [arrV_read _ _ hlt, hv]) rfl rfl hd (kk p en R s m args below meth c' H locs cells slots ls X)
theorem mx_alen {a n k : Nat} (v : Int32) (hd : decode M.2.2.1 pc = .ok (.arraylength, 1)) (ho : mx_is e a k n) (hk : k = 100 ∨ k = 101) (hv : n.toInt32 = v)
    (kk : mx_Fr G l M d kc ks Post (pc + 1) L (.int v :: st) (e, mi, mj)) : mx_Fr G l M d kc ks Post pc L (.ref a :: st) (e, mi, mj) := by
  intro p en R s m args below meth c' H locs cells slots ls X
  obtain ⟨⟨hx, hcc, hml, hrt, hlk, hown, hnm, hts, hK⟩, hR, hS, hb, hH, hl⟩ := id X
  show W p l en R s m args below meth c' H locs cells slots _ (F0 m pc ls (.ref (mx_ad G a) :: st.map (mx_tr G)))
  rw [mx_isl ho hH]
  rcases hk with rfl | rfl
  · exact W.alen (n := v) hx hcc (mx_cellI ho hH) ((hK.2 0 _ rfl).1 n _) (by rw [arrV_size]; exact hv) rfl rfl hd (kk p en R s m args below meth c' H locs cells slots ls X)
  · exact W.alen (n := v) hx hcc (mx_cellJ ho hH) ((hK.2 1 _ rfl).1 n _) (by rw [arrV_size]; exact hv) rfl rfl hd (kk p en R s m args below meth c' H locs cells slots ls X)
theorem mx_S_put {s : State} {H H1 : Heap} {locs : List Loc} {i k : Nat} (hS : va_S (mx_fr G) s.heap H locs) (hz : H1.size = H.size) (ho : ∀ q, q ≠ G.1 + i → H1[q]? = H[q]?) : va_S (mx_fr G) s.heap H1 (locs ++ [⟨G.1 + i, k⟩]) :=
  hS.put hz ho (Nat.le_add_right _ _)
theorem mx_iastore {i x : Int32} {a n : Nat} (hd : decode M.2.2.1 pc = .ok (.iastore, 1)) (ho : mx_is e a 100 n) (hin : vp_in i n)
    (kk : mx_Fr G l M d kc ks Post (pc + 1) L st (e, mx_up mi a i.toNatClampNeg x, mj)) : mx_Fr G l M d kc ks Post pc L (.int x :: .int i :: .ref a :: st) (e, mi, mj) := by
  intro p en R s m args below meth c' H locs cells slots ls X
  obtain ⟨⟨hx, hcc, hml, hrt, hlk, hown, hnm, hts, hK⟩, hR, hS, hb, hH, hl⟩ := id X
  show W p l en R s m args below meth c' H locs cells slots _ (F0 m pc ls (.int x :: .int i :: .ref (mx_ad G a) :: st.map (mx_tr G)))
  rw [mx_isl ho hH]
  refine W.iast hx hcc (mx_cellI ho hH) ((hK.2 0 _ rfl).1 n _) (fun q => by cases q) (by rw [arrV_size]; exact hin) rfl rfl hd fun H1 e1 hz oq => ?_
  refine kk p en R s m args below meth c' H1 _ cells slots ls ⟨X.1, hR, mx_S_put hS hz oq, hb, ?_, hl⟩
  refine mx_H_one (i := a) hH hz oq rfl (fun j hj => ⟨fun k => mx_up_ne _ _ (fun q => absurd q hj), fun k => rfl⟩) (fun _ => ?_)
  unfold mx_cell
  dsimp only
  rw [ho.2]
  simp only [if_true]
  rw [e1, arrV_store]
  congr 2
  funext j
  unfold updV mx_up
  by_cases hj : j = i.toNatClampNeg
  · simp [hj]
  · simp [hj]
theorem mx_bastore {i x : Int32} {a n : Nat} (hd : decode M.2.2.1 pc = .ok (.bastore, 1)) (ho : mx_is e a 102 n) (hin : vp_in i n) (hx0 : x = 0 ∨ x = 1)
    (kk : mx_Fr G l M d kc ks Post (pc + 1) L st (e, mx_up mi a i.toNatClampNeg x, mj)) : mx_Fr G l M d kc ks Post pc L (.int x :: .int i :: .ref a :: st) (e, mi, mj) := by
  intro p en R s m args below meth c' H locs cells slots ls X
  obtain ⟨⟨hx, hcc, hml, hrt, hlk, hown, hnm, hts, hK⟩, hR, hS, hb, hH, hl⟩ := id X
  show W p l en R s m args below meth c' H locs cells slots _ (F0 m pc ls (.int x :: .int i :: .ref (mx_ad G a) :: st.map (mx_tr G)))
  rw [mx_isl ho hH]
  refine W.zast hx hcc (mx_cellZ ho hH) ((hK.2 2 _ rfl).1 n _) (fun q => by cases q) (by rw [arrV_size]; exact hin) rfl rfl hd fun H1 e1 hz oq => ?_
  refine kk p en R s m args below meth c' H1 _ cells slots ls ⟨X.1, hR, mx_S_put hS hz oq, hb, ?_, hl⟩
  refine mx_H_one (i := a) hH hz oq rfl (fun j hj => ⟨fun k => mx_up_ne _ _ (fun q => absurd q hj), fun k => rfl⟩) (fun _ => ?_)
  unfold mx_cell
  dsimp only
  rw [ho.2]
  simp only [show ¬ (102 = 100) by decide, show ¬ (102 = 101) by decide, if_true, if_false]
  rw [e1, arrV_store]
  congr 2
  funext j
  unfold updV mx_up
  by_cases hj : j = i.toNatClampNeg
  · rcases hx0 with rfl | rfl <;> simp [hj] <;> decide
  · simp [hj]
theorem mx_lastore {i : Int32} {x : Int64} {a n : Nat} (hd : decode M.2.2.1 pc = .ok (.lastore, 1)) (ho : mx_is e a 101 n) (hin : vp_in i n)
    (kk : mx_Fr G l M d kc ks Post (pc + 1) L st (e, mi, mx_ul mj a i.toNatClampNeg x)) : mx_Fr G l M d kc ks Post pc L (.long x :: .int i :: .ref a :: st) (e, mi, mj) := by
  intro p en R s m args below meth c' H locs cells slots ls X
  obtain ⟨⟨hx, hcc, hml, hrt, hlk, hown, hnm, hts, hK⟩, hR, hS, hb, hH, hl⟩ := id X
  show W p l en R s m args below meth c' H locs cells slots _ (F0 m pc ls (.long x :: .int i :: .ref (mx_ad G a) :: st.map (mx_tr G)))
  rw [mx_isl ho hH]
  refine W.last hx hcc (mx_cellJ ho hH) ((hK.2 1 _ rfl).1 n _) (fun q => by cases q) (by rw [arrV_size]; exact hin) rfl rfl hd fun H1 e1 hz oq => ?_
  refine kk p en R s m args below meth c' H1 _ cells slots ls ⟨X.1, hR, mx_S_put hS hz oq, hb, ?_, hl⟩
  refine mx_H_one (i := a) hH hz oq rfl (fun j hj => ⟨fun k => rfl, fun k => by show mx_ul mj a _ x j k = _; unfold mx_ul; rw [if_neg (fun q => hj q.1)]⟩) (fun _ => ?_)
  unfold mx_cell
  dsimp only
  rw [ho.2]
  simp only [show ¬ (101 = 100) by decide, if_true, if_false]
  rw [e1, arrV_store]
  congr 2
  funext j
  unfold updV mx_ul
  by_cases hj : j = i.toNatClampNeg
  · simp [hj]
  · simp [hj]
end MH
