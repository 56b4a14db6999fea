section MN
variable {Y : State → Prop} {G : mG} {l : Launch} {M : mM} {d kc ks : Nat} {Post : Option Value → mS → Prop} {pc : Nat} {L st : List Value} {e : mE} {mi : mI} {mj : mJ}
/-- one cell more -/
def mx_ea (e : mE) (c n : Nat) : mE := (e.1 + 1, fun i => if i = e.1 then (c, n) else e.2.1 i, e.2.2)
/-- one reference set -/
def mx_er (e : mE) (a k b : Nat) : mE := (e.1, e.2.1, fun i j => if i = a ∧ j = k then some b else e.2.2 i j)
theorem mx_cell_same {z z' : mS} {i : Nat} {H H1 : Heap} (h : mx_cell G z i H) (hq : H1[G.1 + i]? = H[G.1 + i]?) (hs : z'.1.2.1 i = z.1.2.1 i) (hr : ∀ k, z'.1.2.2 i k = z.1.2.2 i k) (h1 : ∀ k, z'.2.1 i k = z.2.1 i k) (h2 : ∀ k, z'.2.2 i k = z.2.2 i k) : mx_cell G z' i H1 := by
  unfold mx_cell at h ⊢
  rw [hq, hs]
  have f3 : (fun k => Value.int (z'.2.1 i k)) = fun k => Value.int (z.2.1 i k) := funext fun k => by rw [h1 k]
  have f4 : (fun k => Value.long (z'.2.2 i k)) = fun k => Value.long (z.2.2 i k) := funext fun k => by rw [h2 k]
  have f5 : (fun k => mx_rv G (z'.1.2.2 i k)) = fun k => mx_rv G (z.1.2.2 i k) := funext fun k => by rw [hr k]
  rw [f3, f4, f5]
  have f6 : mx_obj G z' (z.1.2.1 i).1 i H1 ↔ mx_obj G z (z.1.2.1 i).1 i H := by
    have f7 : ∀ c, (fun k => mx_fv G z' (mx_ty c k) i k) = fun k => mx_fv G z (mx_ty c k) i k := by
      intro c
      funext k
      unfold mx_fv
      rw [h1 k, h2 k, hr k]
    unfold mx_obj
    rw [f7]
    exact ⟨fun ⟨r, h1, h2⟩ => ⟨r, h1, h2.kept hq.symm⟩, fun ⟨r, h1, h2⟩ => ⟨r, h1, h2.kept hq⟩⟩
  rw [f6]
  exact h
theorem mx_H_push {c n : Nat} {H H1 : Heap} (hH : mx_H G (e, mi, mj) H) (hz : H1.size = H.size + 1) (ho : ∀ q, q < H.size → H1[q]? = H[q]?) (hcap : e.1 < 100000) (hc : mx_cell G (mx_ea e c n, mi, mj) e.1 H1) : mx_H G (mx_ea e c n, mi, mj) H1 := by
  have hsz : H.size = G.1 + e.1 := hH.1
  refine ⟨by rw [hz, hsz]; rfl, hcap, fun i hi => ?_⟩
  have hi' : i < e.1 + 1 := hi
  by_cases h : i = e.1
  · rw [h]; exact hc
  · refine mx_cell_same (hH.2.2 i (show i < e.1 by omega)) (ho _ (by omega)) ?_ (fun _ => rfl) (fun _ => rfl) (fun _ => rfl)
    show (if i = e.1 then (c, n) else e.2.1 i) = e.2.1 i
    rw [if_neg h]
theorem mx_S_push {s : State} {H H1 : Heap} {locs : List Loc} (hS : va_S (mx_fr G) s.heap H locs) (hz : H1.size = H.size + 1) (ho : ∀ q, q < H.size → H1[q]? = H[q]?) : va_S (mx_fr G) s.heap H1 locs :=
  ⟨by rw [hz]; exact Nat.le_succ_of_le hS.1, fun q h1 h2 => by rw [ho q (Nat.lt_of_lt_of_le h1 hS.1)]; exact hS.2.1 q h1 h2, hS.2.2⟩
theorem mx_is_ea {c n : Nat} : mx_is (mx_ea e c n) e.1 c n := ⟨Nat.lt_succ_self _, if_pos rfl⟩
theorem mx_is_old {i c n c' n' : Nat} (h : mx_is e i c n) : mx_is (mx_ea e c' n') i c n := ⟨Nat.lt_succ_of_lt h.1, by show (if i = e.1 then _ else _) = _; rw [if_neg (Nat.ne_of_lt h.1)]; exact h.2⟩
theorem mx_is_er {i c n a k b : Nat} (h : mx_is e i c n) : mx_is (mx_er e a k b) i c n := h
theorem px_newI {n : Int32} (N : Nat) (hd : decode M.2.2.1 pc = .ok (.newarray .int, 2)) (hw : Cond.arrayClass .int ∈ mx_TB) (hn : n = nI N) (hN : N < 100000) (hcap : e.1 < 100000) (hz : ∀ j, mi e.1 j = 0) (h1 : 1 ≤ kc) (h2 : N ≤ ks)
    (kk : mx_FP Y G l M d (kc - 1) (ks - N) Post (pc + 2) L (.ref e.1 :: st) (mx_ea e 100 N, mi, mj)) : mx_FP Y G l M d kc ks Post pc L (.int n :: st) (e, mi, mj) := by
  intro p en R s m args below meth c' H locs cells slots ls X hY
  obtain ⟨⟨hx, hcc, hml, hrt, hlk, hown, hnm, hts, hK⟩, hR, hS, hb, hH, hl⟩ := id X
  subst hn
  have hcl : (nI N).toNatClampNeg = N := nI_clamp (by omega)
  have hsz : H.size = G.1 + e.1 := hH.1
  have hcb : componentBytes (newarray.typeOf .int) ≤ 8 := by decide
  have hby : N * componentBytes (newarray.typeOf .int) ≤ 100000 * 8 := Nat.mul_le_mul (Nat.le_of_lt hN) hcb
  refine W.newa (atype := .int) hx hcc (hts _ hw) rfl hd rfl (nI_pos (by omega)) (by rw [hcl]; exact Nat.le_trans hby (Nat.le_of_ble_eq_true rfl)) (by omega) (by rw [hcl]; omega) (fun cA kA comp g1 g2 g3 => ?_)
  have hca : cA = G.2.2.1 0 := Option.some.inj (g1.symm.trans (hK.2 0 _ rfl).2)
  subst hca
  rw [hcl]
  have hz1 : (Array.push H { cls := G.2.2.1 0, slots := Array.replicate N (defaultValue (newarray.typeOf .int)), vm := .none }).size = H.size + 1 := by simp
  have ho1 : ∀ q, q < H.size → (Array.push H { cls := G.2.2.1 0, slots := Array.replicate N (defaultValue (newarray.typeOf .int)), vm := .none })[q]? = H[q]? := fun q hq => by rw [Array.getElem?_push, if_neg (Nat.ne_of_lt hq)]
  have e1 : (.ref H.size : Value) = mx_tr G (.ref e.1) := by show _ = Value.ref (mx_ad G e.1); rw [mx_adl hcap, hsz]
  rw [e1]
  refine kk p en R s m args below meth c' _ locs (cells + 1) (slots + N) ls ⟨X.1, ⟨hR.1, hR.2.1, by omega, by omega⟩, mx_S_push hS hz1 ho1, hb, mx_H_push hH hz1 ho1 hcap ?_, hl⟩ hY
  unfold mx_cell
  have e2 : ((mx_ea e 100 N, mi, mj) : mS).1.2.1 e.1 = (100, N) := mx_is_ea.2
  rw [e2]
  simp only [if_true]
  rw [← hsz, Array.getElem?_push, if_pos rfl]
  rw [arrV_new]
  congr 2
  funext j
  rw [hz j]; rfl
theorem px_newZ {n : Int32} (N : Nat) (hd : decode M.2.2.1 pc = .ok (.newarray .boolean, 2)) (hw : Cond.arrayClass .boolean ∈ mx_TB) (hn : n = nI N) (hN : N < 100000) (hcap : e.1 < 100000) (hz : ∀ j, mi e.1 j = 0) (h1 : 1 ≤ kc) (h2 : N ≤ ks)
    (kk : mx_FP Y G l M d (kc - 1) (ks - N) Post (pc + 2) L (.ref e.1 :: st) (mx_ea e 102 N, mi, mj)) : mx_FP Y G l M d kc ks Post pc L (.int n :: st) (e, mi, mj) := by
  intro p en R s m args below meth c' H locs cells slots ls X hY
  obtain ⟨⟨hx, hcc, hml, hrt, hlk, hown, hnm, hts, hK⟩, hR, hS, hb, hH, hl⟩ := id X
  subst hn
  have hcl : (nI N).toNatClampNeg = N := nI_clamp (by omega)
  have hsz : H.size = G.1 + e.1 := hH.1
  have hcb : componentBytes (newarray.typeOf .boolean) ≤ 8 := by decide
  have hby : N * componentBytes (newarray.typeOf .boolean) ≤ 100000 * 8 := Nat.mul_le_mul (Nat.le_of_lt hN) hcb
  refine W.newa (atype := .boolean) hx hcc (hts _ hw) rfl hd rfl (nI_pos (by omega)) (by rw [hcl]; exact Nat.le_trans hby (Nat.le_of_ble_eq_true rfl)) (by omega) (by rw [hcl]; omega) (fun cA kA comp g1 g2 g3 => ?_)
  have hca : cA = G.2.2.1 2 := Option.some.inj (g1.symm.trans (hK.2 2 _ rfl).2)
  subst hca
  rw [hcl]
  have hz1 : (Array.push H { cls := G.2.2.1 2, slots := Array.replicate N (defaultValue (newarray.typeOf .boolean)), vm := .none }).size = H.size + 1 := by simp
  have ho1 : ∀ q, q < H.size → (Array.push H { cls := G.2.2.1 2, slots := Array.replicate N (defaultValue (newarray.typeOf .boolean)), vm := .none })[q]? = H[q]? := fun q hq => by rw [Array.getElem?_push, if_neg (Nat.ne_of_lt hq)]
  have e1 : (.ref H.size : Value) = mx_tr G (.ref e.1) := by show _ = Value.ref (mx_ad G e.1); rw [mx_adl hcap, hsz]
  rw [e1]
  refine kk p en R s m args below meth c' _ locs (cells + 1) (slots + N) ls ⟨X.1, ⟨hR.1, hR.2.1, by omega, by omega⟩, mx_S_push hS hz1 ho1, hb, mx_H_push hH hz1 ho1 hcap ?_, hl⟩ hY
  unfold mx_cell
  have e2 : ((mx_ea e 102 N, mi, mj) : mS).1.2.1 e.1 = (102, N) := mx_is_ea.2
  rw [e2]
  simp only [show ¬ (102 = 100) by decide, show ¬ (102 = 101) by decide, if_true, if_false]
  rw [← hsz, Array.getElem?_push, if_pos rfl]
  rw [arrV_new]
  congr 2
  funext j
  rw [hz j]; rfl
theorem px_newJ {n : Int32} (N : Nat) (hd : decode M.2.2.1 pc = .ok (.newarray .long, 2)) (hw : Cond.arrayClass .long ∈ mx_TB) (hn : n = nI N) (hN : N < 100000) (hcap : e.1 < 100000) (hz : ∀ j, mj e.1 j = 0) (h1 : 1 ≤ kc) (h2 : N ≤ ks)
    (kk : mx_FP Y G l M d (kc - 1) (ks - N) Post (pc + 2) L (.ref e.1 :: st) (mx_ea e 101 N, mi, mj)) : mx_FP Y G l M d kc ks Post pc L (.int n :: st) (e, mi, mj) := by
  intro p en R s m args below meth c' H locs cells slots ls X hY
  obtain ⟨⟨hx, hcc, hml, hrt, hlk, hown, hnm, hts, hK⟩, hR, hS, hb, hH, hl⟩ := id X
  subst hn
  have hcl : (nI N).toNatClampNeg = N := nI_clamp (by omega)
  have hsz : H.size = G.1 + e.1 := hH.1
  have hcb : componentBytes (newarray.typeOf .long) ≤ 8 := by decide
  have hby : N * componentBytes (newarray.typeOf .long) ≤ 100000 * 8 := Nat.mul_le_mul (Nat.le_of_lt hN) hcb
  refine W.newa (atype := .long) hx hcc (hts _ hw) rfl hd rfl (nI_pos (by omega)) (by rw [hcl]; exact Nat.le_trans hby (Nat.le_of_ble_eq_true rfl)) (by omega) (by rw [hcl]; omega) (fun cA kA comp g1 g2 g3 => ?_)
  have hca : cA = G.2.2.1 1 := Option.some.inj (g1.symm.trans (hK.2 1 _ rfl).2)
  subst hca
  rw [hcl]
  have hz1 : (Array.push H { cls := G.2.2.1 1, slots := Array.replicate N (defaultValue (newarray.typeOf .long)), vm := .none }).size = H.size + 1 := by simp
  have ho1 : ∀ q, q < H.size → (Array.push H { cls := G.2.2.1 1, slots := Array.replicate N (defaultValue (newarray.typeOf .long)), vm := .none })[q]? = H[q]? := fun q hq => by rw [Array.getElem?_push, if_neg (Nat.ne_of_lt hq)]
  have e1 : (.ref H.size : Value) = mx_tr G (.ref e.1) := by show _ = Value.ref (mx_ad G e.1); rw [mx_adl hcap, hsz]
  rw [e1]
  refine kk p en R s m args below meth c' _ locs (cells + 1) (slots + N) ls ⟨X.1, ⟨hR.1, hR.2.1, by omega, by omega⟩, mx_S_push hS hz1 ho1, hb, mx_H_push hH hz1 ho1 hcap ?_, hl⟩ hY
  unfold mx_cell
  have e2 : ((mx_ea e 101 N, mi, mj) : mS).1.2.1 e.1 = (101, N) := mx_is_ea.2
  rw [e2]
  simp only [show ¬ (101 = 100) by decide, if_true, if_false]
  rw [← hsz, Array.getElem?_push, if_pos rfl]
  rw [arrV_new]
  congr 2
  funext j
  rw [hz j]; rfl
/-- an array of objects: k 3 Network, 4 Picture -/
theorem px_newR {n : Int32} {own C : String} {idx : Nat} (N k : Nat) (hk : (k = 3 ∧ C = RX4) ∨ (k = 4 ∧ C = RX6)) (hd : decode M.2.2.1 pc = .ok (.anewarray idx, 3)) (hM : M.1 = own) (hw : Cond.classLink own idx C ∈ mx_TB) (hw2 : ∀ s, Y s → va_AO C s) (hn : n = nI N) (hN : N < 100000) (hcap : e.1 < 100000) (hz : ∀ j, e.2.2 e.1 j = none) (h1 : 1 ≤ kc) (h2 : N ≤ ks)
    (kk : mx_FP Y G l M d (kc - 1) (ks - N) Post (pc + 3) L (.ref e.1 :: st) (mx_ea e (100 + k) N, mi, mj)) : mx_FP Y G l M d kc ks Post pc L (.int n :: st) (e, mi, mj) := by
  intro p en R s m args below meth c' H locs cells slots ls X hY
  obtain ⟨⟨hx, hcc, hml, hrt, hlk, hown, hnm, hts, hK⟩, hR, hS, hb, hH, hl⟩ := id X
  subst hn
  have hcl : (nI N).toNatClampNeg = N := nI_clamp (by omega)
  have hsz : H.size = G.1 + e.1 := hH.1
  refine W.anew hx hcc (hM ▸ hown) (hts _ hw) (va_AO.use (hw2 s hY)) rfl hd rfl (nI_pos (by omega)) (by rw [hcl]; omega) (by omega) (by rw [hcl]; omega) (fun cA kA comp g1 g2 g3 g4 => ?_)
  have hca : cA = G.2.2.1 k := by
    rcases hk with ⟨rfl, rfl⟩ | ⟨rfl, rfl⟩
    · obtain ⟨kA', comp', q1, q2, q3, q4⟩ := (hK.2 3 _ rfl).2
      exact Option.some.inj (g1.symm.trans q4)
    · obtain ⟨kA', comp', q1, q2, q3, q4⟩ := (hK.2 4 _ rfl).2
      exact Option.some.inj (g1.symm.trans q4)
  subst hca
  rw [hcl]
  have hz1 : (Array.push H { cls := G.2.2.1 k, slots := Array.replicate N .null, vm := .none }).size = H.size + 1 := by simp
  have ho1 : ∀ q, q < H.size → (Array.push H { cls := G.2.2.1 k, slots := Array.replicate N .null, vm := .none })[q]? = H[q]? := fun q hq => by rw [Array.getElem?_push, if_neg (Nat.ne_of_lt hq)]
  have e1 : (.ref H.size : Value) = mx_tr G (.ref e.1) := by show _ = Value.ref (mx_ad G e.1); rw [mx_adl hcap, hsz]
  rw [e1]
  refine kk p en R s m args below meth c' _ locs (cells + 1) (slots + N) ls ⟨X.1, ⟨hR.1, hR.2.1, by omega, by omega⟩, mx_S_push hS hz1 ho1, hb, mx_H_push hH hz1 ho1 hcap ?_, hl⟩ hY
  unfold mx_cell
  have e2 : ((mx_ea e (100 + k) N, mi, mj) : mS).1.2.1 e.1 = (100 + k, N) := mx_is_ea.2
  rw [e2]
  have e3 : (Array.push H { cls := G.2.2.1 k, slots := Array.replicate N .null, vm := .none })[G.1 + e.1]? = some (arrV (G.2.2.1 k) N (fun j => mx_rv G ((mx_ea e (100 + k) N).2.2 e.1 j))) := by
    rw [← hsz, Array.getElem?_push, if_pos rfl, arrV_new]
    congr 2
    funext j
    show _ = mx_rv G (e.2.2 e.1 j)
    rw [hz j]; rfl
  rcases hk with ⟨rfl, rfl⟩ | ⟨rfl, rfl⟩
  · simp only [show ¬ (100 + 3 = 100) by decide, show ¬ (100 + 3 = 101) by decide, show ¬ (100 + 3 = 102) by decide, if_true, if_false]
    exact e3
  · simp only [show ¬ (100 + 4 = 100) by decide, show ¬ (100 + 4 = 101) by decide, show ¬ (100 + 4 = 102) by decide, show ¬ (100 + 4 = 103) by decide, if_true, if_false]
    exact e3
def mx_dv (ty : FieldType) : Bool := match ty with
  | .int => true
  | .boolean => true
  | .long => true
  | .object _ => true
  | .array _ => true
  | _ => false
/-- a class that can be made: its words -/
def mx_cls (own : String) (idx c N : Nat) : Prop := ∃ (C : String) (T : u_T), vwCl[c]? = some (C, T, N) ∧ Cond.classLink own idx C ∈ mx_TB ∧ Cond.instantiable C N ∈ mx_TB ∧ Cond.initialized C ∈ mx_TB ∧ (∀ w ∈ u_ws C T N, w ∈ mx_TB) ∧ (∀ k, k < N → parseFieldDescriptor (T k).2.2.1 = some (mx_ty c k)) ∧ (∀ k, k < N → mx_dv (mx_ty c k) = true)
theorem px_new {own : String} {idx c N : Nat} (hd : decode M.2.2.1 pc = .ok (.new idx, 3)) (hw : mx_cls own idx c N) (hM : M.1 = own) (hcap : e.1 < 100000) (hz : ∀ j, mi e.1 j = 0 ∧ mj e.1 j = 0 ∧ e.2.2 e.1 j = none) (h1 : 1 ≤ kc) (h2 : N ≤ ks)
    (kk : mx_FP Y G l M d (kc - 1) (ks - N) Post (pc + 3) L (.ref e.1 :: st) (mx_ea e c 0, mi, mj)) : mx_FP Y G l M d kc ks Post pc L st (e, mi, mj) := by
  intro p en R s m args below meth c' H locs cells slots ls X hY
  obtain ⟨⟨hx, hcc, hml, hrt, hlk, hown, hnm, hts, hK⟩, hR, hS, hb, hH, hl⟩ := id X
  obtain ⟨C, T, hcl, hw1, hw2, hw3, hlay, hty, hdv⟩ := hw
  have hc13 : c < 13 := (List.getElem?_eq_some_iff.mp hcl).1
  have hsz : H.size = G.1 + e.1 := hH.1
  refine W.newcK hx hcc (hM ▸ hown) (hts _ hw1) (hts _ hw2) (hts _ hw3) rfl hd (by omega) (by omega) (hK.1 c _ hcl).2.1 rfl (fun H1 kC g1 g2 g3 g4 => ?_)
  have e1 : (.ref H.size : Value) = mx_tr G (.ref e.1) := by show _ = Value.ref (mx_ad G e.1); rw [mx_adl hcap, hsz]
  rw [e1]
  refine kk p en R s m args below meth c' _ locs (cells + 1) (slots + N) ls ⟨X.1, ⟨hR.1, hR.2.1, by omega, by omega⟩, mx_S_push hS g3 g4, hb, mx_H_push hH g3 g4 hcap ?_, hl⟩ hY
  unfold mx_cell
  have e2 : ((mx_ea e c 0, mi, mj) : mS).1.2.1 e.1 = (c, 0) := mx_is_ea.2
  rw [e2]
  simp only [show ¬ c = 100 by omega, show ¬ c = 101 by omega, show ¬ c = 102 by omega, show ¬ c = 103 by omega, show ¬ c = 104 by omega, show ¬ c = 999 by omega, if_false]
  refine ⟨(C, T, N), hcl, ?_⟩
  rw [← hsz]
  refine t_OB.to (u_born (mx_ty c) hts hlay (hK.1 c _ hcl) g1 g2 hty) (fun k hk => ?_)
  have h3 := hdv k hk
  obtain ⟨z1, z2, z3⟩ := hz k
  unfold mx_fv
  show _ = match mx_ty c k with
    | .long => Value.long (mj e.1 k)
    | .object _ => mx_rv G (e.2.2 e.1 k)
    | .array _ => mx_rv G (e.2.2 e.1 k)
    | _ => Value.int (mi e.1 k)
  rw [z1, z2, z3]
  cases hh : mx_ty c k with
  | int => rfl
  | boolean => rfl
  | long => rfl
  | object n => rfl
  | array t => rfl
  | _ => rw [hh] at h3; cases h3
/-- a final reference, set in a constructor -/
theorem px_putR {own : String} {idx c k i n a : Nat} (hd : decode M.2.2.1 pc = .ok (.putfield idx, 3)) (hf : mx_fld own idx c k) (hM : M.1 = own) (hfin : ∃ r : vw_C, vwCl[c]? = some r ∧ (r.2.1 k).2.2.2 = true ∧ (r.2.1 k).1 = own) (hin : M.2.1.name = "<init>") (ht : mx_isR (mx_ty c k) = true) (ho : mx_is e i c n)
    (kk : mx_FP Y G l M d kc ks Post (pc + 3) L st (mx_er e i k a, mi, mj)) : mx_FP Y G l M d kc ks Post pc L (.ref a :: .ref i :: st) (e, mi, mj) := by
  intro p en R s m args below meth c' H locs cells slots ls X hY
  obtain ⟨⟨hx, hcc, hml, hrt, hlk, hown, hnm, hts, hK⟩, hR, hS, hb, hH, hl⟩ := id X
  have hc13 := mx_fld_c hf
  obtain ⟨C, T, N, hcl, hk, hlink, hT1, hlay, hty, hnn⟩ := hf
  obtain ⟨r0, hr0, hfin, hdecl⟩ := hfin
  have : r0 = (C, T, N) := Option.some.inj (hr0.symm.trans hcl)
  subst this
  obtain ⟨r, h1, cell, q1, q2, q3, q4⟩ := mx_cellO ho hc13 hH
  have hr : r = (C, T, N) := Option.some.inj (h1.symm.trans hcl)
  subst hr
  have hap := va_apart (own := own) hts hlay (mx_ty c) hty hnn hK hcl
  obtain ⟨hSl, hfc, kC, hkC, hkind⟩ := hK.1 c _ hcl
  obtain ⟨cf, kf, fi, f, hi, hsl⟩ := hSl k hk
  have hlay1 := hts _ (hlay _ (u_in_lay (C := C) hk))
  unfold u_lay at hlay1
  rw [if_pos hfin] at hlay1
  have hst := (u_facts hfc hkC (u_lays (T := T) (N := N) hts hlay hk) hi).1
  have hown' : s.vm.findClass own = some m.cls := hM ▸ hown
  have hcf : m.cls = cf := by
    obtain ⟨_, _, c'', _, _, _, -, -, hf', -, -, -, hown2, -⟩ := Cond.laysFinal_spec hlay1
    have e1 : c'' = cf := by have := hi.symm.trans hf'; simp at this; exact this.1.symm
    rw [hdecl] at hown2
    rw [← e1]; exact Option.some.inj (hown'.symm.trans hown2)
  have hnr : narrow (mx_ty c k) (.ref (mx_ad G a)) = .ref (mx_ad G a) := by
    cases hq : mx_ty c k <;> first | rfl | (rw [hq] at ht; cases ht)
  have hfr : fits (mx_ty c k) (.ref (mx_ad G a)) = true := by
    cases hq : mx_ty c k <;> first | rfl | (rw [hq] at ht; cases ht)
  have h6 := u_fits hfc hkC hkind (Or.inr hlay1) hi (hty k hk) hnr hfr
  have e1 : (mx_tr G (.ref i)) = .ref (G.1 + i) := by show Value.ref (mx_ad G i) = _; rw [mx_isl ho hH]
  show W p l en R s m args below meth c' H locs cells slots _ (F0 m pc ls (.ref (mx_ad G a) :: mx_tr G (.ref i) :: st.map (mx_tr G)))
  rw [e1]
  refine W.putFinK hx hcc hown' (hts _ hlink) (hT1 ▸ hi) hst hcf (hnm.trans hin) (by rw [q2]; exact h6) q1 q3 (by rw [hsl]; exact k2_hasslot (q4 k hk)) rfl rfl hd fun H1 w1 w2 w3 => ?_
  rw [hsl] at w1
  refine kk p en R s m args below meth c' H1 _ cells slots ls ⟨X.1, hR, mx_S_put hS w2 w3, hb, ?_, hl⟩ hY
  refine ⟨w2.trans hH.1, hH.2.1, fun j hj => ?_⟩
  by_cases hji : j = i
  · subst hji
    unfold mx_cell
    have e2 : ((mx_er e j k a, mi, mj) : mS).1.2.1 j = (c, n) := ho.2
    rw [e2]
    simp only [show ¬ c = 100 by omega, show ¬ c = 101 by omega, show ¬ c = 102 by omega, show ¬ c = 103 by omega, show ¬ c = 104 by omega, show ¬ c = 999 by omega, if_false]
    refine ⟨(C, T, N), hcl, t_OB.to (V := updV (fun q => mx_fv G (e, mi, mj) (mx_ty c q) j q) k (.ref (mx_ad G a))) ⟨_, w1, q2, q3, t_set q4 hap hk _⟩ (fun q _ => ?_)⟩
    unfold updV
    by_cases hq : q = k
    · subst hq
      rw [if_pos rfl, mx_fvR ht]
      show _ = mx_rv G (if j = j ∧ q = q then some a else e.2.2 j q)
      rw [if_pos ⟨rfl, rfl⟩]; rfl
    · rw [if_neg hq]
      unfold mx_fv
      show _ = match mx_ty c q with
        | .long => Value.long (mj j q)
        | .object _ => mx_rv G (if j = j ∧ q = k then some a else e.2.2 j q)
        | .array _ => mx_rv G (if j = j ∧ q = k then some a else e.2.2 j q)
        | _ => Value.int (mi j q)
      rw [if_neg (fun z => hq z.2)]
      rfl
  · refine mx_cell_same (hH.2.2 j hj) (w3 _ (fun q => hji (Nat.add_left_cancel q))) rfl (fun q => ?_) (fun _ => rfl) (fun _ => rfl)
    show (if j = i ∧ q = k then some a else e.2.2 j q) = _
    rw [if_neg (fun z => hji z.1)]
/-- an element of an array of objects -/
theorem px_aastore {i : Int32} {a b n k c0 n0 : Nat} {C : String} (hk : (k = 3 ∧ C = RX4 ∧ c0 = 4) ∨ (k = 4 ∧ C = RX6 ∧ c0 = 6)) (hd : decode M.2.2.1 pc = .ok (.aastore, 1)) (ho : mx_is e a (100 + k) n) (hv : mx_is e b c0 n0) (hin : vp_in i n)
    (kk : mx_FP Y G l M d kc ks Post (pc + 1) L st (mx_er e a i.toNatClampNeg b, mi, mj)) : mx_FP Y G l M d kc ks Post pc L (.ref b :: .int i :: .ref a :: st) (e, mi, mj) := by
  intro p en R s m args below meth c' H locs cells slots ls X hY
  obtain ⟨⟨hx, hcc, hml, hrt, hlk, hown, hnm, hts, hK⟩, hR, hS, hb, hH, hl⟩ := id X
  show W p l en R s m args below meth c' H locs cells slots _ (F0 m pc ls (.ref (mx_ad G b) :: .int i :: .ref (mx_ad G a) :: st.map (mx_tr G)))
  rw [mx_isl ho hH, mx_isl hv hH]
  have hlt : i.toNatClampNeg < n := Nat.not_le.mp fun q => hin (Or.inr q)
  have h0 : ¬ i < 0 := fun q => hin (Or.inl q)
  have hcell : H[G.1 + a]? = some (arrV (G.2.2.1 k) n (fun j => mx_rv G (e.2.2 a j))) := by
    rcases hk with ⟨rfl, -, -⟩ | ⟨rfl, -, -⟩
    · exact mx_cellN ho hH
    · exact mx_cellP ho hH
  obtain ⟨r, hr, hrC⟩ : ∃ r : vw_C, vwCl[c0]? = some r ∧ r.1 = C := by
    rcases hk with ⟨-, rfl, rfl⟩ | ⟨-, rfl, rfl⟩
    · exact ⟨_, rfl, rfl⟩
    · exact ⟨_, rfl, rfl⟩
  have hc13 : c0 < 13 := (List.getElem?_eq_some_iff.mp hr).1
  obtain ⟨r', hr', cellV, g1, g2, g3, -⟩ := mx_cellO hv hc13 hH
  have hcls := (hK.1 c0 r hr).2
  obtain ⟨kA, comp, k1, k2, k3, -⟩ : va_RA s (G.2.2.1 k) (.object C) := by
    rcases hk with ⟨rfl, rfl, -⟩ | ⟨rfl, rfl, -⟩
    · exact (hK.2 3 _ rfl).2
    · exact (hK.2 4 _ rfl).2
  have hcomp : comp = G.2.1.1 c0 := Option.some.inj (k3.symm.trans (hrC ▸ hcls.1))
  subst hcomp
  obtain ⟨kC, hkC, -⟩ := hcls.2
  refine W.aast hx hcc hcell (fun q h => by cases h) (fun h => by cases h) k1 k2 rfl hkC ⟨h0, by rw [arrV_size]; exact hlt⟩ g1 (fun q h => by rw [g3] at h; cases h) (by rw [g2]; exact hkC) (by rw [g2]; exact va_assign hcls) rfl rfl hd fun H1 w1 w2 w3 => ?_
  refine kk p en R s m args below meth c' H1 _ cells slots ls ⟨X.1, hR, mx_S_put hS w2 w3, hb, ?_, hl⟩ hY
  refine ⟨w2.trans hH.1, hH.2.1, fun j hj => ?_⟩
  by_cases hji : j = a
  · subst hji
    unfold mx_cell
    have e2 : ((mx_er e j i.toNatClampNeg b, mi, mj) : mS).1.2.1 j = (100 + k, n) := ho.2
    rw [e2]
    have e3 : H1[G.1 + j]? = some (arrV (G.2.2.1 k) n (fun q => mx_rv G ((mx_er e j i.toNatClampNeg b).2.2 j q))) := by
      rw [w1, arrV_store]
      congr 2
      funext q
      unfold updV
      show _ = mx_rv G (if j = j ∧ q = i.toNatClampNeg then some b else e.2.2 j q)
      by_cases hq : q = i.toNatClampNeg
      · rw [if_pos hq, if_pos ⟨rfl, hq⟩]
        show _ = Value.ref (mx_ad G b)
        rw [mx_isl hv hH]
      · rw [if_neg hq, if_neg (fun z => hq z.2)]
    rcases hk with ⟨rfl, -, -⟩ | ⟨rfl, -, -⟩
    · simp only [show ¬ (100 + 3 = 100) by decide, show ¬ (100 + 3 = 101) by decide, show ¬ (100 + 3 = 102) by decide, if_true, if_false]
      exact e3
    · simp only [show ¬ (100 + 4 = 100) by decide, show ¬ (100 + 4 = 101) by decide, show ¬ (100 + 4 = 102) by decide, show ¬ (100 + 4 = 103) by decide, if_true, if_false]
      exact e3
  · refine mx_cell_same (hH.2.2 j hj) (w3 _ (fun q => hji (Nat.add_left_cancel q))) rfl (fun q => ?_) (fun _ => rfl) (fun _ => rfl)
    show (if j = a ∧ q = i.toNatClampNeg then some b else e.2.2 j q) = _
    rw [if_neg (fun z => hji z.1)]
end MN
