/-- what holds of the law's first state: the script, links and strings, what an exception needs -/
def mx_YL (G : mG) (Ls : Nat) (xs : Nat → Int32) : State → Prop := fun s => (va_X (G.2.2.2 400000) Ls xs s s.heap ∧ G.2.2.2 400000 < s.heap.size ∧ ¬ mx_fr G (G.2.2.2 400000)) ∧ mx_N G s ∧ mx_XN G s
def lawP : Option Value → mS → Prop := fun v _ => v = some (.int 1)
abbrev LF (G : mG) (l : Launch) (kc ks Ls : Nat) (xs : Nat → Int32) (pc : Nat) (L st : List Value) (z : mS) : Prop := mx_FP (mx_YL G Ls xs) G l ML_law 1000 kc ks lawP pc L st z
section LRW
variable {Y : State → Prop} {G : mG} {l : Launch} {M : mM} {d kc ks : Nat} {Post : Option Value → mS → Prop} {pc : Nat} {L st : List Value} {e : mE} {mi : mI} {mj : mJ}
theorem px_sld {Ls : Nat} {xs : Nat → Int32} {i : Int32} {z : mS} (hd : decode M.2.2.1 pc = .ok (.iaload, 1)) (hYX : ∀ s, Y s → va_X (G.2.2.2 400000) Ls xs s s.heap ∧ G.2.2.2 400000 < s.heap.size ∧ ¬ mx_fr G (G.2.2.2 400000)) (hin : vp_in i Ls)
    (kk : mx_FP Y G l M d kc ks Post (pc + 1) L (.int (xs i.toNatClampNeg) :: st) z) : mx_FP Y G l M d kc ks Post pc L (.int i :: .ref 400000 :: st) z := by
  intro p en R s m args below meth c' H locs cells slots ls X hY
  obtain ⟨⟨hx, hcc, hml, hrt, hlk, hown, hnm, hts, hK⟩, hR, hS, hb, hH, hl⟩ := id X
  obtain ⟨h1, h2, h3⟩ := hYX s hY
  have e1 : (mx_tr G (.ref 400000)) = .ref (G.2.2.2 400000) := by show Value.ref (mx_ad G 400000) = _; rw [mx_ad_o (by decide)]
  show W p l en R s m args below meth c' H locs cells slots _ (F0 m pc ls (.int i :: mx_tr G (.ref 400000) :: st.map (mx_tr G)))
  rw [e1]
  exact va_sld hx hcc h1 h2 h3 hS hin hd (kk p en R s m args below meth c' H locs cells slots ls X hY)
theorem px_sclen {Ls : Nat} {xs : Nat → Int32} {z : mS} (hd : decode M.2.2.1 pc = .ok (.arraylength, 1)) (hYX : ∀ s, Y s → va_X (G.2.2.2 400000) Ls xs s s.heap ∧ G.2.2.2 400000 < s.heap.size ∧ ¬ mx_fr G (G.2.2.2 400000))
    (kk : mx_FP Y G l M d kc ks Post (pc + 1) L (.int (Int32.ofNat Ls) :: st) z) : mx_FP Y G l M d kc ks Post pc L (.ref 400000 :: st) z := by
  intro p en R s m args below meth c' H locs cells slots ls X hY
  obtain ⟨⟨hx, hcc, hml, hrt, hlk, hown, hnm, hts, hK⟩, hR, hS, hb, hH, hl⟩ := id X
  obtain ⟨h1, h2, h3⟩ := hYX s hY
  have e1 : (mx_tr G (.ref 400000)) = .ref (G.2.2.2 400000) := by show Value.ref (mx_ad G 400000) = _; rw [mx_ad_o (by decide)]
  show W p l en R s m args below meth c' H locs cells slots _ (F0 m pc ls (mx_tr G (.ref 400000) :: st.map (mx_tr G)))
  rw [e1]
  exact va_slen hx hcc h1 h2 h3 hS hd (kk p en R s m args below meth c' H locs cells slots ls X hY)
theorem rx_cV {own : String} {idx n d' c0 n0 i : Nat} {M' : mM} {av st0 : List Value} {r : Int32} {z1 : mS} (hd : decode M.2.2.1 pc = .ok (.invokevirtual idx, 3)) (hi : mx_inv own idx M' n) (hM : M.1 = own)
    (hV : Cond.instanceMethod M'.2.1 ∈ mx_TB ∧ Cond.selects M'.2.1.cls M'.2.1 M'.2.1 ∈ mx_TB) (hcl : ∃ r : vw_C, vwCl[c0]? = some r ∧ r.1 = M'.2.1.cls) (ho : mx_is e i c0 n0)
    (hc : mx_Call G l M' d' 0 0 (.ref i :: av) (e, mi, mj) (fun v z => v = some (.int r) ∧ z = z1)) (hd' : d' < d) (hst : st0 = av.reverse ++ (.ref i :: st)) (hn : av.length = n) (hW : (st.map fun v => v.category).sum ≤ 8)
    (kk : mx_FP Y G l M d kc ks Post (pc + 3) L (.int r :: st) z1) : mx_FP Y G l M d kc ks Post pc L st0 (e, mi, mj) :=
  px_callV hd hi hM hV hcl ho hc hd' (Nat.zero_le _) (Nat.zero_le _) hst hn hW (fun v z' h => by obtain ⟨rfl, rfl⟩ := h; exact kk)
theorem rx_cN {own : String} {idx n d' c0 n0 i : Nat} {M' : mM} {av st0 : List Value} {r : Int32} {z1 : mS} (hd : decode M.2.2.1 pc = .ok (.invokevirtual idx, 3)) (hi : mx_inv own idx M' n) (hM : M.1 = own)
    (hV : Cond.instanceMethod M'.2.1 ∈ mx_TB ∧ Cond.selects M'.2.1.cls M'.2.1 M'.2.1 ∈ mx_TB) (hcl : ∃ r : vw_C, vwCl[c0]? = some r ∧ r.1 = M'.2.1.cls) (ho : mx_is e i c0 n0) (hYN : ∀ s, Y s → mx_N G s)
    (hc : mx_CallN G l M' d' 0 0 (.ref i :: av) (e, mi, mj) (fun v z => v = some (.int r) ∧ z = z1)) (hd' : d' < d) (hst : st0 = av.reverse ++ (.ref i :: st)) (hn : av.length = n) (hW : (st.map fun v => v.category).sum ≤ 8)
    (kk : mx_FP Y G l M d kc ks Post (pc + 3) L (.int r :: st) z1) : mx_FP Y G l M d kc ks Post pc L st0 (e, mi, mj) :=
  px_callVN hd hi hM hV hcl ho hYN hc hd' hst hn hW (fun v z' h => by obtain ⟨rfl, rfl⟩ := h; exact kk)
end LRW
theorem iW_point : mx_invW RLaw 48 ML_point [(0, 10, 13, 13)] 4 := ⟨mx_in (i := 1417) (by decide +kernel) (by decide +kernel), mx_in (i := 1419) (by decide +kernel) (by decide +kernel), mx_in (i := 0) (by decide +kernel) (by decide +kernel), by decide +kernel, by decide +kernel, by decide, mx_in (i := 1418) (by decide +kernel) (by decide +kernel)⟩
theorem iW_slack : mx_invW RLaw 61 ML_slack [(0, 9, 12, 13)] 3 := ⟨mx_in (i := 1495) (by decide +kernel) (by decide +kernel), mx_in (i := 1497) (by decide +kernel) (by decide +kernel), mx_in (i := 0) (by decide +kernel) (by decide +kernel), by decide +kernel, by decide +kernel, by decide, mx_in (i := 1496) (by decide +kernel) (by decide +kernel)⟩
theorem iW_proofBy : mx_invW RLaw 134 ML_proofBy [(0, 8, 11, 13)] 2 := ⟨mx_in (i := 1502) (by decide +kernel) (by decide +kernel), mx_in (i := 1504) (by decide +kernel) (by decide +kernel), mx_in (i := 0) (by decide +kernel) (by decide +kernel), by decide +kernel, by decide +kernel, by decide, mx_in (i := 1503) (by decide +kernel) (by decide +kernel)⟩
theorem iW_mean : mx_invW RLaw 174 ML_mean [(0, 9, 12, 13)] 3 := ⟨mx_in (i := 1509) (by decide +kernel) (by decide +kernel), mx_in (i := 1511) (by decide +kernel) (by decide +kernel), mx_in (i := 0) (by decide +kernel) (by decide +kernel), by decide +kernel, by decide +kernel, by decide, mx_in (i := 1510) (by decide +kernel) (by decide +kernel)⟩
