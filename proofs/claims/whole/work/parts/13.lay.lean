def mx_let {α β : Type} (x : α) (f : α → β) : β := f x
theorem mx_letE {α β : Type} {x : α} {f : α → Option β} {r : β} (h : mx_let x f = some r) : ∃ v, v = x ∧ f v = some r := ⟨x, rfl, h⟩
theorem mx_letK {α β : Type} {x : α} {f : α → Option β} {r : β} {J : α → Prop} {Q : Prop} (h : mx_let x f = some r) (hj : J x) (hf : ∀ k, J k → f k = some r → Q) : Q := hf x hj h
/-- how deep a recursion may go -/
def mx_RD : Nat := 64
def mx_chk {β : Type} (b : Bool) (k : Option β) : Option β := if b = true then k else none
theorem mx_chkE {β : Type} {b : Bool} {k : Option β} {r : β} (h : mx_chk b k = some r) : b = true ∧ k = some r := by
  unfold mx_chk at h
  split at h
  · exact ⟨by assumption, h⟩
  · cases h
def mx_inb (i : Int32) (n : Nat) : Bool := decide (¬ (i < 0 ∨ n ≤ i.toNatClampNeg))
theorem mx_inbE {i : Int32} {n : Nat} (h : mx_inb i n = true) : vp_in i n := by
  unfold vp_in
  unfold mx_inb at h
  exact of_decide_eq_true h
def mx_b01 (x : Int32) : Bool := decide (x = 0 ∨ x = 1)
theorem mx_b01E {x : Int32} (h : mx_b01 x = true) : x = 0 ∨ x = 1 := of_decide_eq_true h
theorem mx_nb {x : Int32} (h : x = 0 ∨ x = 1) : narrow .boolean (.int x) = .int x := by rcases h with rfl | rfl <;> rfl
def mx_nz (x : Int32) : Bool := decide (¬ x = 0)
theorem mx_nzE {x : Int32} (h : mx_nz x = true) : ¬ x = 0 := of_decide_eq_true h
def mx_nzl (x : Int64) : Bool := decide (¬ x = 0)
theorem mx_nzlE {x : Int64} (h : mx_nzl x = true) : ¬ x = 0 := of_decide_eq_true h
/-- more turns than any loop takes -/
def mx_FU : Nat := 100000
abbrev mB : Type := mI × mJ
/-- how long a Row's items are, by their number -/
def mx_rl (a : Nat) : Nat := if a = 187 then 40 else 10
section MR
variable {G : mG} {l : Launch} {M : mM} {d kc ks : Nat} {Post : Option Value → mS → Prop} {pc : Nat} {L st : List Value} {e : mE} {mi : mI} {mj : mJ}
theorem mx_entryF {z : mS} {av : List Value} (hp : plainFor M.2.1 = true ∧ M.1 = M.2.1.cls) (hn : (mx_L0 av).length ≤ M.2.2.2.1)
    (hL : mx_L0 av ++ List.replicate (M.2.2.2.1 - (mx_L0 av).length) (.float 0) = L) (kk : mx_Fr G l M d kc ks Post 0 L [] z) : mx_Call G l M d kc ks av z Post := by
  subst hL
  unfold mx_Call Met
  refine MetFree.of_bodySF (code := M.2.2.1) (maxLocals := M.2.2.2.1) (ret := M.2.2.2.2) hp.1 ?_ ?_
  · intro args s m h hn
    obtain ⟨meth, c, h1, h2, h3, h4, h5, h6, -, -⟩ := Cond.code_spec hn (atoms_spec (ws := mx_ws M) h _ List.mem_cons_self)
    exact ⟨meth, c, h1, h2, h3, h4, h5, h6⟩
  · intro p e s m args below meth c s₁ B hml hP _
    have hh0 : s₁.heap = s.heap := by rw [B.state]; rfl
    obtain ⟨rfl, hH, hK⟩ := hP
    have hts := atoms_spec (ws := mx_ws M) B.pre
    have hown : s.vm.findClass M.1 = some m.cls := hp.2 ▸ findClass_of_methodNamed B.named
    have hl := lv_entry (av.map (mx_tr G)) (n := M.2.2.2.1) (by rw [mx_len]; exact hn)
    have K := kk p e (headSpec (mx_ws M) (mx_rm d kc ks)).room s m _ below meth c s.heap [] 0 0 _ ⟨⟨B.exec, B.bytes, hml, B.returns, B.notSynchronized, hown, (name_of_methodNamed B.named B.method).1, fun w hw => hts w (List.mem_cons_of_mem _ hw), hK⟩,
      ⟨Nat.le_refl _, Nat.le_refl _, by simp [headSpec, mx_rm], by simp [headSpec, mx_rm]⟩, va_S.rf, by rw [hH.1]; exact Nat.le_add_right _ _, hH, mx_has_mono hl (fun q hq => by rw [mx_al_app, mx_al_fl, List.append_nil] at hq; exact mx_al_args av 0 q hq)⟩
    obtain ⟨t, a1, o, b1, b2, b3⟩ := K s₁ hh0 (Stand.of_body B)
    exact ⟨t, o, by rw [lg_entry_eq]; exact a1, b1, b2, ⟨b3.1, b3.2⟩⟩
theorem mx_ialoadC {i : Int32} {a n : Nat} (k : Nat) (hd : decode M.2.2.1 pc = .ok (.iaload, 1)) (ho : mx_is e a 100 n) (hk : i.toNatClampNeg = k) (hin : vp_in i n)
    (kk : mx_Fr G l M d kc ks Post (pc + 1) L (.int (mi a k) :: st) (e, mi, mj)) : mx_Fr G l M d kc ks Post pc L (.int i :: .ref a :: st) (e, mi, mj) := mx_iaload hd ho hin (by rw [hk]; exact kk)
theorem mx_iastoreC {i x : Int32} {a n : Nat} (k : Nat) (hd : decode M.2.2.1 pc = .ok (.iastore, 1)) (ho : mx_is e a 100 n) (hk : i.toNatClampNeg = k) (hin : vp_in i n)
    (kk : mx_Fr G l M d kc ks Post (pc + 1) L st (e, mx_up mi a k x, mj)) : mx_Fr G l M d kc ks Post pc L (.int x :: .int i :: .ref a :: st) (e, mi, mj) := mx_iastore hd ho hin (by rw [hk]; exact kk)
theorem mx_cVi {own : String} {idx n d' c0 n0 i : Nat} {M' : mM} {av st0 : List Value} {r : Int32} {z1 : mS} (hd : decode M.2.2.1 pc = .ok (.invokevirtual idx, 3)) (hi : mx_inv own idx M' n) (hM : M.1 = own)
    (hV : Cond.instanceMethod M'.2.1 ∈ mx_TB ∧ Cond.selects M'.2.1.cls M'.2.1 M'.2.1 ∈ mx_TB) (hcl : ∃ r : vw_C, vwCl[c0]? = some r ∧ r.1 = M'.2.1.cls) (ho : mx_is e i c0 n0)
    (hc : mx_Call G l M' d' 0 0 (.ref i :: av) (e, mi, mj) (fun v z => v = some (.int r) ∧ z = z1)) (hd' : d' < d) (hst : st0 = av.reverse ++ (.ref i :: st)) (hn : av.length = n) (hW : (st.map fun v => v.category).sum ≤ 8)
    (kk : mx_Fr G l M d 0 0 Post (pc + 3) L (.int r :: st) z1) : mx_Fr G l M d 0 0 Post pc L st0 (e, mi, mj) :=
  mx_callV hd hi hM hV hcl ho hc hd' (Nat.le_refl _) (Nat.le_refl _) hst hn hW (fun v z' h => by obtain ⟨rfl, rfl⟩ := h; exact kk)
theorem mx_cSi {own : String} {idx n d' : Nat} {M' : mM} {av st0 : List Value} {z : mS} {r : Int32} {z1 : mS} (hd : decode M.2.2.1 pc = .ok (.invokestatic idx, 3)) (hi : mx_inv own idx M' n) (hM : M.1 = own)
    (hV : Cond.static M'.2.1 ∈ mx_TB) (hc : mx_Call G l M' d' 0 0 av z (fun v z => v = some (.int r) ∧ z = z1)) (hd' : d' < d) (hst : st0 = av.reverse ++ st) (hn : av.length = n) (hW : (st.map fun v => v.category).sum ≤ 8)
    (kk : mx_Fr G l M d 0 0 Post (pc + 3) L (.int r :: st) z1) : mx_Fr G l M d 0 0 Post pc L st0 z :=
  mx_callS hd hi hM hV hc hd' (Nat.le_refl _) (Nat.le_refl _) hst hn hW (fun v z' h => by obtain ⟨rfl, rfl⟩ := h; exact kk)
theorem mx_cVj {own : String} {idx n d' c0 n0 i : Nat} {M' : mM} {av st0 : List Value} {r : Int64} {z1 : mS} (hd : decode M.2.2.1 pc = .ok (.invokevirtual idx, 3)) (hi : mx_inv own idx M' n) (hM : M.1 = own)
    (hV : Cond.instanceMethod M'.2.1 ∈ mx_TB ∧ Cond.selects M'.2.1.cls M'.2.1 M'.2.1 ∈ mx_TB) (hcl : ∃ r : vw_C, vwCl[c0]? = some r ∧ r.1 = M'.2.1.cls) (ho : mx_is e i c0 n0)
    (hc : mx_Call G l M' d' 0 0 (.ref i :: av) (e, mi, mj) (fun v z => v = some (.long r) ∧ z = z1)) (hd' : d' < d) (hst : st0 = av.reverse ++ (.ref i :: st)) (hn : av.length = n) (hW : (st.map fun v => v.category).sum ≤ 8)
    (kk : mx_Fr G l M d 0 0 Post (pc + 3) L (.long r :: st) z1) : mx_Fr G l M d 0 0 Post pc L st0 (e, mi, mj) :=
  mx_callV hd hi hM hV hcl ho hc hd' (Nat.le_refl _) (Nat.le_refl _) hst hn hW (fun v z' h => by obtain ⟨rfl, rfl⟩ := h; exact kk)
theorem mx_cSj {own : String} {idx n d' : Nat} {M' : mM} {av st0 : List Value} {z : mS} {r : Int64} {z1 : mS} (hd : decode M.2.2.1 pc = .ok (.invokestatic idx, 3)) (hi : mx_inv own idx M' n) (hM : M.1 = own)
    (hV : Cond.static M'.2.1 ∈ mx_TB) (hc : mx_Call G l M' d' 0 0 av z (fun v z => v = some (.long r) ∧ z = z1)) (hd' : d' < d) (hst : st0 = av.reverse ++ st) (hn : av.length = n) (hW : (st.map fun v => v.category).sum ≤ 8)
    (kk : mx_Fr G l M d 0 0 Post (pc + 3) L (.long r :: st) z1) : mx_Fr G l M d 0 0 Post pc L st0 z :=
  mx_callS hd hi hM hV hc hd' (Nat.le_refl _) (Nat.le_refl _) hst hn hW (fun v z' h => by obtain ⟨rfl, rfl⟩ := h; exact kk)
theorem mx_cVr {own : String} {idx n d' c0 n0 i : Nat} {M' : mM} {av st0 : List Value} {r : Nat} {z1 : mS} (hd : decode M.2.2.1 pc = .ok (.invokevirtual idx, 3)) (hi : mx_inv own idx M' n) (hM : M.1 = own)
    (hV : Cond.instanceMethod M'.2.1 ∈ mx_TB ∧ Cond.selects M'.2.1.cls M'.2.1 M'.2.1 ∈ mx_TB) (hcl : ∃ r : vw_C, vwCl[c0]? = some r ∧ r.1 = M'.2.1.cls) (ho : mx_is e i c0 n0)
    (hc : mx_Call G l M' d' 0 0 (.ref i :: av) (e, mi, mj) (fun v z => v = some (.ref r) ∧ z = z1)) (hd' : d' < d) (hst : st0 = av.reverse ++ (.ref i :: st)) (hn : av.length = n) (hW : (st.map fun v => v.category).sum ≤ 8)
    (kk : mx_Fr G l M d 0 0 Post (pc + 3) L (.ref r :: st) z1) : mx_Fr G l M d 0 0 Post pc L st0 (e, mi, mj) :=
  mx_callV hd hi hM hV hcl ho hc hd' (Nat.le_refl _) (Nat.le_refl _) hst hn hW (fun v z' h => by obtain ⟨rfl, rfl⟩ := h; exact kk)
theorem mx_cSr {own : String} {idx n d' : Nat} {M' : mM} {av st0 : List Value} {z : mS} {r : Nat} {z1 : mS} (hd : decode M.2.2.1 pc = .ok (.invokestatic idx, 3)) (hi : mx_inv own idx M' n) (hM : M.1 = own)
    (hV : Cond.static M'.2.1 ∈ mx_TB) (hc : mx_Call G l M' d' 0 0 av z (fun v z => v = some (.ref r) ∧ z = z1)) (hd' : d' < d) (hst : st0 = av.reverse ++ st) (hn : av.length = n) (hW : (st.map fun v => v.category).sum ≤ 8)
    (kk : mx_Fr G l M d 0 0 Post (pc + 3) L (.ref r :: st) z1) : mx_Fr G l M d 0 0 Post pc L st0 z :=
  mx_callS hd hi hM hV hc hd' (Nat.le_refl _) (Nat.le_refl _) hst hn hW (fun v z' h => by obtain ⟨rfl, rfl⟩ := h; exact kk)
theorem mx_cVv {own : String} {idx n d' c0 n0 i : Nat} {M' : mM} {av st0 : List Value} {z1 : mS} (hd : decode M.2.2.1 pc = .ok (.invokevirtual idx, 3)) (hi : mx_inv own idx M' n) (hM : M.1 = own)
    (hV : Cond.instanceMethod M'.2.1 ∈ mx_TB ∧ Cond.selects M'.2.1.cls M'.2.1 M'.2.1 ∈ mx_TB) (hcl : ∃ r : vw_C, vwCl[c0]? = some r ∧ r.1 = M'.2.1.cls) (ho : mx_is e i c0 n0)
    (hc : mx_Call G l M' d' 0 0 (.ref i :: av) (e, mi, mj) (fun v z => v = none ∧ z = z1)) (hd' : d' < d) (hst : st0 = av.reverse ++ (.ref i :: st)) (hn : av.length = n) (hW : (st.map fun v => v.category).sum ≤ 8)
    (kk : mx_Fr G l M d 0 0 Post (pc + 3) L (st) z1) : mx_Fr G l M d 0 0 Post pc L st0 (e, mi, mj) :=
  mx_callV hd hi hM hV hcl ho hc hd' (Nat.le_refl _) (Nat.le_refl _) hst hn hW (fun v z' h => by obtain ⟨rfl, rfl⟩ := h; exact kk)
theorem mx_cSv {own : String} {idx n d' : Nat} {M' : mM} {av st0 : List Value} {z : mS} {z1 : mS} (hd : decode M.2.2.1 pc = .ok (.invokestatic idx, 3)) (hi : mx_inv own idx M' n) (hM : M.1 = own)
    (hV : Cond.static M'.2.1 ∈ mx_TB) (hc : mx_Call G l M' d' 0 0 av z (fun v z => v = none ∧ z = z1)) (hd' : d' < d) (hst : st0 = av.reverse ++ st) (hn : av.length = n) (hW : (st.map fun v => v.category).sum ≤ 8)
    (kk : mx_Fr G l M d 0 0 Post (pc + 3) L (st) z1) : mx_Fr G l M d 0 0 Post pc L st0 z :=
  mx_callS hd hi hM hV hc hd' (Nat.le_refl _) (Nat.le_refl _) hst hn hW (fun v z' h => by obtain ⟨rfl, rfl⟩ := h; exact kk)
end MR
def ly7 (e : mE) (a : Nat) : Prop := mx_is e a 7 0 ∧ (e.2.2 a 0 = some (a + 1) ∧ mx_is e (a + 1) 100 (mx_rl (a + 1)))
theorem ly7_o {e : mE} {a : Nat} (h : ly7 e a) : mx_is e a 7 0 := h.1
theorem ly7_r0 {e : mE} {a : Nat} (h : ly7 e a) : e.2.2 a 0 = some (a + 1) := h.2.1
theorem ly7_s0 {e : mE} {a : Nat} (h : ly7 e a) : mx_is e (a + 1) 100 (mx_rl (a + 1)) := h.2.2
def ly4 (e : mE) (a : Nat) : Prop := mx_is e a 4 0 ∧ (e.2.2 a 5 = some (a + 1) ∧ mx_is e (a + 1) 101 10) ∧ (e.2.2 a 6 = some (a + 2) ∧ mx_is e (a + 2) 100 10) ∧ (e.2.2 a 7 = some (a + 3) ∧ mx_is e (a + 3) 100 10) ∧ (e.2.2 a 8 = some (a + 4) ∧ mx_is e (a + 4) 100 10) ∧ (e.2.2 a 9 = some (a + 5) ∧ mx_is e (a + 5) 100 30) ∧ (e.2.2 a 10 = some (a + 6) ∧ mx_is e (a + 6) 100 30) ∧ (e.2.2 a 11 = some (a + 7) ∧ mx_is e (a + 7) 100 30) ∧ (e.2.2 a 12 = some (a + 8) ∧ mx_is e (a + 8) 100 100) ∧ (e.2.2 a 13 = some (a + 9) ∧ mx_is e (a + 9) 100 6) ∧ (e.2.2 a 14 = some (a + 10) ∧ mx_is e (a + 10) 100 6)
theorem ly4_o {e : mE} {a : Nat} (h : ly4 e a) : mx_is e a 4 0 := h.1
theorem ly4_r5 {e : mE} {a : Nat} (h : ly4 e a) : e.2.2 a 5 = some (a + 1) := h.2.1.1
theorem ly4_s5 {e : mE} {a : Nat} (h : ly4 e a) : mx_is e (a + 1) 101 10 := h.2.1.2
theorem ly4_r6 {e : mE} {a : Nat} (h : ly4 e a) : e.2.2 a 6 = some (a + 2) := h.2.2.1.1
theorem ly4_s6 {e : mE} {a : Nat} (h : ly4 e a) : mx_is e (a + 2) 100 10 := h.2.2.1.2
theorem ly4_r7 {e : mE} {a : Nat} (h : ly4 e a) : e.2.2 a 7 = some (a + 3) := h.2.2.2.1.1
theorem ly4_s7 {e : mE} {a : Nat} (h : ly4 e a) : mx_is e (a + 3) 100 10 := h.2.2.2.1.2
theorem ly4_r8 {e : mE} {a : Nat} (h : ly4 e a) : e.2.2 a 8 = some (a + 4) := h.2.2.2.2.1.1
theorem ly4_s8 {e : mE} {a : Nat} (h : ly4 e a) : mx_is e (a + 4) 100 10 := h.2.2.2.2.1.2
theorem ly4_r9 {e : mE} {a : Nat} (h : ly4 e a) : e.2.2 a 9 = some (a + 5) := h.2.2.2.2.2.1.1
theorem ly4_s9 {e : mE} {a : Nat} (h : ly4 e a) : mx_is e (a + 5) 100 30 := h.2.2.2.2.2.1.2
theorem ly4_r10 {e : mE} {a : Nat} (h : ly4 e a) : e.2.2 a 10 = some (a + 6) := h.2.2.2.2.2.2.1.1
theorem ly4_s10 {e : mE} {a : Nat} (h : ly4 e a) : mx_is e (a + 6) 100 30 := h.2.2.2.2.2.2.1.2
theorem ly4_r11 {e : mE} {a : Nat} (h : ly4 e a) : e.2.2 a 11 = some (a + 7) := h.2.2.2.2.2.2.2.1.1
theorem ly4_s11 {e : mE} {a : Nat} (h : ly4 e a) : mx_is e (a + 7) 100 30 := h.2.2.2.2.2.2.2.1.2
theorem ly4_r12 {e : mE} {a : Nat} (h : ly4 e a) : e.2.2 a 12 = some (a + 8) := h.2.2.2.2.2.2.2.2.1.1
theorem ly4_s12 {e : mE} {a : Nat} (h : ly4 e a) : mx_is e (a + 8) 100 100 := h.2.2.2.2.2.2.2.2.1.2
theorem ly4_r13 {e : mE} {a : Nat} (h : ly4 e a) : e.2.2 a 13 = some (a + 9) := h.2.2.2.2.2.2.2.2.2.1.1
theorem ly4_s13 {e : mE} {a : Nat} (h : ly4 e a) : mx_is e (a + 9) 100 6 := h.2.2.2.2.2.2.2.2.2.1.2
theorem ly4_r14 {e : mE} {a : Nat} (h : ly4 e a) : e.2.2 a 14 = some (a + 10) := h.2.2.2.2.2.2.2.2.2.2.1
theorem ly4_s14 {e : mE} {a : Nat} (h : ly4 e a) : mx_is e (a + 10) 100 6 := h.2.2.2.2.2.2.2.2.2.2.2
def ly10 (e : mE) (a : Nat) : Prop := mx_is e a 10 0 ∧ (e.2.2 a 0 = some (a + 1) ∧ mx_is e (a + 1) 100 940) ∧ (e.2.2 a 1 = some (a + 2) ∧ mx_is e (a + 2) 101 22)
theorem ly10_o {e : mE} {a : Nat} (h : ly10 e a) : mx_is e a 10 0 := h.1
theorem ly10_r0 {e : mE} {a : Nat} (h : ly10 e a) : e.2.2 a 0 = some (a + 1) := h.2.1.1
theorem ly10_s0 {e : mE} {a : Nat} (h : ly10 e a) : mx_is e (a + 1) 100 940 := h.2.1.2
theorem ly10_r1 {e : mE} {a : Nat} (h : ly10 e a) : e.2.2 a 1 = some (a + 2) := h.2.2.1
theorem ly10_s1 {e : mE} {a : Nat} (h : ly10 e a) : mx_is e (a + 2) 101 22 := h.2.2.2
def ly5 (e : mE) (a : Nat) : Prop := mx_is e a 5 0 ∧ (e.2.2 a 0 = some (a + 1) ∧ ly4 e (a + 1))
theorem ly5_o {e : mE} {a : Nat} (h : ly5 e a) : mx_is e a 5 0 := h.1
theorem ly5_r0 {e : mE} {a : Nat} (h : ly5 e a) : e.2.2 a 0 = some (a + 1) := h.2.1
theorem ly5_s0 {e : mE} {a : Nat} (h : ly5 e a) : ly4 e (a + 1) := h.2.2
def ly9 (e : mE) (a : Nat) : Prop := mx_is e a 9 0 ∧ (e.2.2 a 0 = some (a + 1) ∧ ly7 e (a + 1))
theorem ly9_o {e : mE} {a : Nat} (h : ly9 e a) : mx_is e a 9 0 := h.1
theorem ly9_r0 {e : mE} {a : Nat} (h : ly9 e a) : e.2.2 a 0 = some (a + 1) := h.2.1
theorem ly9_s0 {e : mE} {a : Nat} (h : ly9 e a) : ly7 e (a + 1) := h.2.2
def ly2 (e : mE) (a : Nat) : Prop := mx_is e a 2 0 ∧ (e.2.2 a 0 = some (a + 1) ∧ ly4 e (a + 1)) ∧ (e.2.2 a 4 = some (a + 12) ∧ mx_is e (a + 12) 100 1024) ∧ (e.2.2 a 6 = some (a + 13) ∧ mx_is e (a + 13) 100 144) ∧ (e.2.2 a 7 = some (a + 14) ∧ mx_is e (a + 14) 100 144) ∧ (e.2.2 a 8 = some (a + 15) ∧ mx_is e (a + 15) 100 864) ∧ (e.2.2 a 9 = some (a + 16) ∧ mx_is e (a + 16) 100 864) ∧ (e.2.2 a 10 = some (a + 17) ∧ mx_is e (a + 17) 100 10) ∧ (e.2.2 a 12 = some (a + 18) ∧ mx_is e (a + 18) 100 10) ∧ (e.2.2 a 13 = some (a + 19) ∧ mx_is e (a + 19) 100 110) ∧ (e.2.2 a 14 = some (a + 20) ∧ mx_is e (a + 20) 100 30)
theorem ly2_o {e : mE} {a : Nat} (h : ly2 e a) : mx_is e a 2 0 := h.1
theorem ly2_r0 {e : mE} {a : Nat} (h : ly2 e a) : e.2.2 a 0 = some (a + 1) := h.2.1.1
theorem ly2_s0 {e : mE} {a : Nat} (h : ly2 e a) : ly4 e (a + 1) := h.2.1.2
theorem ly2_r4 {e : mE} {a : Nat} (h : ly2 e a) : e.2.2 a 4 = some (a + 12) := h.2.2.1.1
theorem ly2_s4 {e : mE} {a : Nat} (h : ly2 e a) : mx_is e (a + 12) 100 1024 := h.2.2.1.2
theorem ly2_r6 {e : mE} {a : Nat} (h : ly2 e a) : e.2.2 a 6 = some (a + 13) := h.2.2.2.1.1
theorem ly2_s6 {e : mE} {a : Nat} (h : ly2 e a) : mx_is e (a + 13) 100 144 := h.2.2.2.1.2
theorem ly2_r7 {e : mE} {a : Nat} (h : ly2 e a) : e.2.2 a 7 = some (a + 14) := h.2.2.2.2.1.1
theorem ly2_s7 {e : mE} {a : Nat} (h : ly2 e a) : mx_is e (a + 14) 100 144 := h.2.2.2.2.1.2
theorem ly2_r8 {e : mE} {a : Nat} (h : ly2 e a) : e.2.2 a 8 = some (a + 15) := h.2.2.2.2.2.1.1
theorem ly2_s8 {e : mE} {a : Nat} (h : ly2 e a) : mx_is e (a + 15) 100 864 := h.2.2.2.2.2.1.2
theorem ly2_r9 {e : mE} {a : Nat} (h : ly2 e a) : e.2.2 a 9 = some (a + 16) := h.2.2.2.2.2.2.1.1
theorem ly2_s9 {e : mE} {a : Nat} (h : ly2 e a) : mx_is e (a + 16) 100 864 := h.2.2.2.2.2.2.1.2
theorem ly2_r10 {e : mE} {a : Nat} (h : ly2 e a) : e.2.2 a 10 = some (a + 17) := h.2.2.2.2.2.2.2.1.1
theorem ly2_s10 {e : mE} {a : Nat} (h : ly2 e a) : mx_is e (a + 17) 100 10 := h.2.2.2.2.2.2.2.1.2
theorem ly2_r12 {e : mE} {a : Nat} (h : ly2 e a) : e.2.2 a 12 = some (a + 18) := h.2.2.2.2.2.2.2.2.1.1
theorem ly2_s12 {e : mE} {a : Nat} (h : ly2 e a) : mx_is e (a + 18) 100 10 := h.2.2.2.2.2.2.2.2.1.2
theorem ly2_r13 {e : mE} {a : Nat} (h : ly2 e a) : e.2.2 a 13 = some (a + 19) := h.2.2.2.2.2.2.2.2.2.1.1
theorem ly2_s13 {e : mE} {a : Nat} (h : ly2 e a) : mx_is e (a + 19) 100 110 := h.2.2.2.2.2.2.2.2.2.1.2
theorem ly2_r14 {e : mE} {a : Nat} (h : ly2 e a) : e.2.2 a 14 = some (a + 20) := h.2.2.2.2.2.2.2.2.2.2.1
theorem ly2_s14 {e : mE} {a : Nat} (h : ly2 e a) : mx_is e (a + 20) 100 30 := h.2.2.2.2.2.2.2.2.2.2.2
def ly3 (e : mE) (a : Nat) : Prop := mx_is e a 3 0 ∧ (e.2.2 a 0 = some (a + 1) ∧ mx_is e (a + 1) 103 9 ∧ ∀ i, i < 9 → e.2.2 (a + 1) i = some (a + 2 + 11 * i) ∧ ly4 e (a + 2 + 11 * i))
theorem ly3_o {e : mE} {a : Nat} (h : ly3 e a) : mx_is e a 3 0 := h.1
theorem ly3_r0 {e : mE} {a : Nat} (h : ly3 e a) : e.2.2 a 0 = some (a + 1) := h.2.1
theorem ly3_s0 {e : mE} {a : Nat} (h : ly3 e a) : mx_is e (a + 1) 103 9 := h.2.2.1
theorem ly3_e0 {e : mE} {a i : Nat} (h : ly3 e a) (hi : i < 9) : e.2.2 (a + 1) i = some (a + 2 + 11 * i) ∧ ly4 e (a + 2 + 11 * i) := h.2.2.2 i hi
def ly0 (e : mE) (a : Nat) : Prop := mx_is e a 0 0 ∧ (e.2.2 a 0 = some (a + 1) ∧ mx_is e (a + 1) 100 40) ∧ (e.2.2 a 1 = some (a + 2) ∧ mx_is e (a + 2) 100 40) ∧ (e.2.2 a 2 = some (a + 3) ∧ mx_is e (a + 3) 100 40) ∧ (e.2.2 a 3 = some (a + 4) ∧ mx_is e (a + 4) 100 40)
theorem ly0_o {e : mE} {a : Nat} (h : ly0 e a) : mx_is e a 0 0 := h.1
theorem ly0_r0 {e : mE} {a : Nat} (h : ly0 e a) : e.2.2 a 0 = some (a + 1) := h.2.1.1
theorem ly0_s0 {e : mE} {a : Nat} (h : ly0 e a) : mx_is e (a + 1) 100 40 := h.2.1.2
theorem ly0_r1 {e : mE} {a : Nat} (h : ly0 e a) : e.2.2 a 1 = some (a + 2) := h.2.2.1.1
theorem ly0_s1 {e : mE} {a : Nat} (h : ly0 e a) : mx_is e (a + 2) 100 40 := h.2.2.1.2
theorem ly0_r2 {e : mE} {a : Nat} (h : ly0 e a) : e.2.2 a 2 = some (a + 3) := h.2.2.2.1.1
theorem ly0_s2 {e : mE} {a : Nat} (h : ly0 e a) : mx_is e (a + 3) 100 40 := h.2.2.2.1.2
theorem ly0_r3 {e : mE} {a : Nat} (h : ly0 e a) : e.2.2 a 3 = some (a + 4) := h.2.2.2.2.1
theorem ly0_s3 {e : mE} {a : Nat} (h : ly0 e a) : mx_is e (a + 4) 100 40 := h.2.2.2.2.2
def ly8 (e : mE) (a : Nat) : Prop := mx_is e a 8 0 ∧ (e.2.2 a 0 = some (a + 1) ∧ mx_is e (a + 1) 100 40) ∧ (e.2.2 a 1 = some (a + 2) ∧ mx_is e (a + 2) 100 40) ∧ (e.2.2 a 2 = some (a + 3) ∧ mx_is e (a + 3) 100 40) ∧ (e.2.2 a 3 = some (a + 4) ∧ mx_is e (a + 4) 100 40)
theorem ly8_o {e : mE} {a : Nat} (h : ly8 e a) : mx_is e a 8 0 := h.1
theorem ly8_r0 {e : mE} {a : Nat} (h : ly8 e a) : e.2.2 a 0 = some (a + 1) := h.2.1.1
theorem ly8_s0 {e : mE} {a : Nat} (h : ly8 e a) : mx_is e (a + 1) 100 40 := h.2.1.2
theorem ly8_r1 {e : mE} {a : Nat} (h : ly8 e a) : e.2.2 a 1 = some (a + 2) := h.2.2.1.1
theorem ly8_s1 {e : mE} {a : Nat} (h : ly8 e a) : mx_is e (a + 2) 100 40 := h.2.2.1.2
theorem ly8_r2 {e : mE} {a : Nat} (h : ly8 e a) : e.2.2 a 2 = some (a + 3) := h.2.2.2.1.1
theorem ly8_s2 {e : mE} {a : Nat} (h : ly8 e a) : mx_is e (a + 3) 100 40 := h.2.2.2.1.2
theorem ly8_r3 {e : mE} {a : Nat} (h : ly8 e a) : e.2.2 a 3 = some (a + 4) := h.2.2.2.2.1
theorem ly8_s3 {e : mE} {a : Nat} (h : ly8 e a) : mx_is e (a + 4) 100 40 := h.2.2.2.2.2
def ly1 (e : mE) (a : Nat) : Prop := mx_is e a 1 0
theorem ly1_o {e : mE} {a : Nat} (h : ly1 e a) : mx_is e a 1 0 := h
def ly6 (e : mE) (a : Nat) : Prop := mx_is e a 6 0 ∧ (e.2.2 a 0 = some (a + 1) ∧ ly4 e (a + 1)) ∧ (e.2.2 a 1 = some (a + 12) ∧ ly8 e (a + 12))
theorem ly6_o {e : mE} {a : Nat} (h : ly6 e a) : mx_is e a 6 0 := h.1
theorem ly6_r0 {e : mE} {a : Nat} (h : ly6 e a) : e.2.2 a 0 = some (a + 1) := h.2.1.1
theorem ly6_s0 {e : mE} {a : Nat} (h : ly6 e a) : ly4 e (a + 1) := h.2.1.2
theorem ly6_r1 {e : mE} {a : Nat} (h : ly6 e a) : e.2.2 a 1 = some (a + 12) := h.2.2.1
theorem ly6_s1 {e : mE} {a : Nat} (h : ly6 e a) : ly8 e (a + 12) := h.2.2.2
def ly11 (e : mE) (a : Nat) : Prop := mx_is e a 11 0 ∧ (e.2.2 a 0 = some (a + 1) ∧ ly10 e (a + 1)) ∧ (e.2.2 a 1 = some (a + 4) ∧ ly4 e (a + 4)) ∧ (e.2.2 a 2 = some (a + 15) ∧ ly4 e (a + 15)) ∧ (e.2.2 a 3 = some (a + 26) ∧ ly5 e (a + 26)) ∧ (e.2.2 a 4 = some (a + 38) ∧ ly9 e (a + 38)) ∧ (e.2.2 a 5 = some (a + 41) ∧ ly7 e (a + 41)) ∧ (e.2.2 a 6 = some (a + 43) ∧ ly7 e (a + 43)) ∧ (e.2.2 a 7 = some (a + 45) ∧ ly2 e (a + 45)) ∧ (e.2.2 a 8 = some (a + 66) ∧ ly7 e (a + 66)) ∧ (e.2.2 a 9 = some (a + 68) ∧ ly3 e (a + 68)) ∧ (e.2.2 a 10 = some (a + 169) ∧ ly0 e (a + 169)) ∧ (e.2.2 a 11 = some (a + 174) ∧ ly8 e (a + 174)) ∧ (e.2.2 a 12 = some (a + 179) ∧ ly8 e (a + 179)) ∧ (e.2.2 a 13 = some (a + 184) ∧ mx_is e (a + 184) 104 2 ∧ ∀ i, i < 2 → e.2.2 (a + 184) i = some (a + 188 + 17 * i) ∧ ly6 e (a + 188 + 17 * i)) ∧ (e.2.2 a 14 = some (a + 185) ∧ ly1 e (a + 185)) ∧ (e.2.2 a 15 = some (a + 186) ∧ ly7 e (a + 186))
theorem ly11_o {e : mE} {a : Nat} (h : ly11 e a) : mx_is e a 11 0 := h.1
theorem ly11_r0 {e : mE} {a : Nat} (h : ly11 e a) : e.2.2 a 0 = some (a + 1) := h.2.1.1
theorem ly11_s0 {e : mE} {a : Nat} (h : ly11 e a) : ly10 e (a + 1) := h.2.1.2
theorem ly11_r1 {e : mE} {a : Nat} (h : ly11 e a) : e.2.2 a 1 = some (a + 4) := h.2.2.1.1
theorem ly11_s1 {e : mE} {a : Nat} (h : ly11 e a) : ly4 e (a + 4) := h.2.2.1.2
theorem ly11_r2 {e : mE} {a : Nat} (h : ly11 e a) : e.2.2 a 2 = some (a + 15) := h.2.2.2.1.1
theorem ly11_s2 {e : mE} {a : Nat} (h : ly11 e a) : ly4 e (a + 15) := h.2.2.2.1.2
theorem ly11_r3 {e : mE} {a : Nat} (h : ly11 e a) : e.2.2 a 3 = some (a + 26) := h.2.2.2.2.1.1
theorem ly11_s3 {e : mE} {a : Nat} (h : ly11 e a) : ly5 e (a + 26) := h.2.2.2.2.1.2
theorem ly11_r4 {e : mE} {a : Nat} (h : ly11 e a) : e.2.2 a 4 = some (a + 38) := h.2.2.2.2.2.1.1
theorem ly11_s4 {e : mE} {a : Nat} (h : ly11 e a) : ly9 e (a + 38) := h.2.2.2.2.2.1.2
theorem ly11_r5 {e : mE} {a : Nat} (h : ly11 e a) : e.2.2 a 5 = some (a + 41) := h.2.2.2.2.2.2.1.1
theorem ly11_s5 {e : mE} {a : Nat} (h : ly11 e a) : ly7 e (a + 41) := h.2.2.2.2.2.2.1.2
theorem ly11_r6 {e : mE} {a : Nat} (h : ly11 e a) : e.2.2 a 6 = some (a + 43) := h.2.2.2.2.2.2.2.1.1
theorem ly11_s6 {e : mE} {a : Nat} (h : ly11 e a) : ly7 e (a + 43) := h.2.2.2.2.2.2.2.1.2
theorem ly11_r7 {e : mE} {a : Nat} (h : ly11 e a) : e.2.2 a 7 = some (a + 45) := h.2.2.2.2.2.2.2.2.1.1
theorem ly11_s7 {e : mE} {a : Nat} (h : ly11 e a) : ly2 e (a + 45) := h.2.2.2.2.2.2.2.2.1.2
theorem ly11_r8 {e : mE} {a : Nat} (h : ly11 e a) : e.2.2 a 8 = some (a + 66) := h.2.2.2.2.2.2.2.2.2.1.1
theorem ly11_s8 {e : mE} {a : Nat} (h : ly11 e a) : ly7 e (a + 66) := h.2.2.2.2.2.2.2.2.2.1.2
theorem ly11_r9 {e : mE} {a : Nat} (h : ly11 e a) : e.2.2 a 9 = some (a + 68) := h.2.2.2.2.2.2.2.2.2.2.1.1
theorem ly11_s9 {e : mE} {a : Nat} (h : ly11 e a) : ly3 e (a + 68) := h.2.2.2.2.2.2.2.2.2.2.1.2
theorem ly11_r10 {e : mE} {a : Nat} (h : ly11 e a) : e.2.2 a 10 = some (a + 169) := h.2.2.2.2.2.2.2.2.2.2.2.1.1
theorem ly11_s10 {e : mE} {a : Nat} (h : ly11 e a) : ly0 e (a + 169) := h.2.2.2.2.2.2.2.2.2.2.2.1.2
theorem ly11_r11 {e : mE} {a : Nat} (h : ly11 e a) : e.2.2 a 11 = some (a + 174) := h.2.2.2.2.2.2.2.2.2.2.2.2.1.1
theorem ly11_s11 {e : mE} {a : Nat} (h : ly11 e a) : ly8 e (a + 174) := h.2.2.2.2.2.2.2.2.2.2.2.2.1.2
theorem ly11_r12 {e : mE} {a : Nat} (h : ly11 e a) : e.2.2 a 12 = some (a + 179) := h.2.2.2.2.2.2.2.2.2.2.2.2.2.1.1
theorem ly11_s12 {e : mE} {a : Nat} (h : ly11 e a) : ly8 e (a + 179) := h.2.2.2.2.2.2.2.2.2.2.2.2.2.1.2
theorem ly11_r13 {e : mE} {a : Nat} (h : ly11 e a) : e.2.2 a 13 = some (a + 184) := h.2.2.2.2.2.2.2.2.2.2.2.2.2.2.1.1
theorem ly11_s13 {e : mE} {a : Nat} (h : ly11 e a) : mx_is e (a + 184) 104 2 := h.2.2.2.2.2.2.2.2.2.2.2.2.2.2.1.2.1
theorem ly11_e13 {e : mE} {a i : Nat} (h : ly11 e a) (hi : i < 2) : e.2.2 (a + 184) i = some (a + 188 + 17 * i) ∧ ly6 e (a + 188 + 17 * i) := h.2.2.2.2.2.2.2.2.2.2.2.2.2.2.1.2.2 i hi
theorem ly11_r14 {e : mE} {a : Nat} (h : ly11 e a) : e.2.2 a 14 = some (a + 185) := h.2.2.2.2.2.2.2.2.2.2.2.2.2.2.2.1.1
theorem ly11_s14 {e : mE} {a : Nat} (h : ly11 e a) : ly1 e (a + 185) := h.2.2.2.2.2.2.2.2.2.2.2.2.2.2.2.1.2
theorem ly11_r15 {e : mE} {a : Nat} (h : ly11 e a) : e.2.2 a 15 = some (a + 186) := h.2.2.2.2.2.2.2.2.2.2.2.2.2.2.2.2.1
theorem ly11_s15 {e : mE} {a : Nat} (h : ly11 e a) : ly7 e (a + 186) := h.2.2.2.2.2.2.2.2.2.2.2.2.2.2.2.2.2
def ly12 (e : mE) (a : Nat) : Prop := mx_is e a 12 0 ∧ (e.2.2 a 1 = some (a + 1) ∧ mx_is e (a + 1) 100 940) ∧ (e.2.2 a 14 = some (a + 2) ∧ mx_is e (a + 2) 100 432) ∧ (e.2.2 a 15 = some (a + 3) ∧ mx_is e (a + 3) 100 125) ∧ (e.2.2 a 16 = some (a + 4) ∧ mx_is e (a + 4) 100 864) ∧ (e.2.2 a 17 = some (a + 5) ∧ mx_is e (a + 5) 100 520) ∧ (e.2.2 a 18 = some (a + 6) ∧ mx_is e (a + 6) 100 65) ∧ (e.2.2 a 19 = some (a + 7) ∧ mx_is e (a + 7) 100 65) ∧ (e.2.2 a 20 = some (a + 8) ∧ mx_is e (a + 8) 101 10) ∧ (e.2.2 a 21 = some (a + 9) ∧ mx_is e (a + 9) 101 10) ∧ (e.2.2 a 22 = some (a + 10) ∧ mx_is e (a + 10) 101 20) ∧ (e.2.2 a 23 = some (a + 11) ∧ mx_is e (a + 11) 102 2) ∧ (e.2.2 a 24 = some (a + 12) ∧ mx_is e (a + 12) 102 10) ∧ (e.2.2 a 26 = some (a + 13) ∧ mx_is e (a + 13) 100 10) ∧ (e.2.2 a 27 = some (a + 14) ∧ mx_is e (a + 14) 100 10) ∧ (e.2.2 a 28 = some (a + 15) ∧ mx_is e (a + 15) 100 10) ∧ (e.2.2 a 34 = some (a + 16) ∧ mx_is e (a + 16) 100 10) ∧ (e.2.2 a 35 = some (a + 17) ∧ mx_is e (a + 17) 100 10) ∧ (e.2.2 a 36 = some (a + 18) ∧ mx_is e (a + 18) 100 10) ∧ (e.2.2 a 37 = some (a + 19) ∧ mx_is e (a + 19) 100 6) ∧ (e.2.2 a 38 = some (a + 20) ∧ mx_is e (a + 20) 100 6) ∧ (e.2.2 a 39 = some (a + 21) ∧ mx_is e (a + 21) 100 30) ∧ (e.2.2 a 40 = some (a + 22) ∧ mx_is e (a + 22) 100 110) ∧ (e.2.2 a 50 = some (a + 23) ∧ mx_is e (a + 23) 100 48) ∧ (e.2.2 a 53 = some (a + 24) ∧ mx_is e (a + 24) 100 160) ∧ (e.2.2 a 54 = some (a + 25) ∧ mx_is e (a + 25) 100 4) ∧ (e.2.2 a 57 = some (a + 26) ∧ mx_is e (a + 26) 100 240)
theorem ly12_o {e : mE} {a : Nat} (h : ly12 e a) : mx_is e a 12 0 := h.1
theorem ly12_r1 {e : mE} {a : Nat} (h : ly12 e a) : e.2.2 a 1 = some (a + 1) := h.2.1.1
theorem ly12_s1 {e : mE} {a : Nat} (h : ly12 e a) : mx_is e (a + 1) 100 940 := h.2.1.2
theorem ly12_r14 {e : mE} {a : Nat} (h : ly12 e a) : e.2.2 a 14 = some (a + 2) := h.2.2.1.1
theorem ly12_s14 {e : mE} {a : Nat} (h : ly12 e a) : mx_is e (a + 2) 100 432 := h.2.2.1.2
theorem ly12_r15 {e : mE} {a : Nat} (h : ly12 e a) : e.2.2 a 15 = some (a + 3) := h.2.2.2.1.1
theorem ly12_s15 {e : mE} {a : Nat} (h : ly12 e a) : mx_is e (a + 3) 100 125 := h.2.2.2.1.2
theorem ly12_r16 {e : mE} {a : Nat} (h : ly12 e a) : e.2.2 a 16 = some (a + 4) := h.2.2.2.2.1.1
theorem ly12_s16 {e : mE} {a : Nat} (h : ly12 e a) : mx_is e (a + 4) 100 864 := h.2.2.2.2.1.2
theorem ly12_r17 {e : mE} {a : Nat} (h : ly12 e a) : e.2.2 a 17 = some (a + 5) := h.2.2.2.2.2.1.1
theorem ly12_s17 {e : mE} {a : Nat} (h : ly12 e a) : mx_is e (a + 5) 100 520 := h.2.2.2.2.2.1.2
theorem ly12_r18 {e : mE} {a : Nat} (h : ly12 e a) : e.2.2 a 18 = some (a + 6) := h.2.2.2.2.2.2.1.1
theorem ly12_s18 {e : mE} {a : Nat} (h : ly12 e a) : mx_is e (a + 6) 100 65 := h.2.2.2.2.2.2.1.2
theorem ly12_r19 {e : mE} {a : Nat} (h : ly12 e a) : e.2.2 a 19 = some (a + 7) := h.2.2.2.2.2.2.2.1.1
theorem ly12_s19 {e : mE} {a : Nat} (h : ly12 e a) : mx_is e (a + 7) 100 65 := h.2.2.2.2.2.2.2.1.2
theorem ly12_r20 {e : mE} {a : Nat} (h : ly12 e a) : e.2.2 a 20 = some (a + 8) := h.2.2.2.2.2.2.2.2.1.1
theorem ly12_s20 {e : mE} {a : Nat} (h : ly12 e a) : mx_is e (a + 8) 101 10 := h.2.2.2.2.2.2.2.2.1.2
theorem ly12_r21 {e : mE} {a : Nat} (h : ly12 e a) : e.2.2 a 21 = some (a + 9) := h.2.2.2.2.2.2.2.2.2.1.1
theorem ly12_s21 {e : mE} {a : Nat} (h : ly12 e a) : mx_is e (a + 9) 101 10 := h.2.2.2.2.2.2.2.2.2.1.2
theorem ly12_r22 {e : mE} {a : Nat} (h : ly12 e a) : e.2.2 a 22 = some (a + 10) := h.2.2.2.2.2.2.2.2.2.2.1.1
theorem ly12_s22 {e : mE} {a : Nat} (h : ly12 e a) : mx_is e (a + 10) 101 20 := h.2.2.2.2.2.2.2.2.2.2.1.2
theorem ly12_r23 {e : mE} {a : Nat} (h : ly12 e a) : e.2.2 a 23 = some (a + 11) := h.2.2.2.2.2.2.2.2.2.2.2.1.1
theorem ly12_s23 {e : mE} {a : Nat} (h : ly12 e a) : mx_is e (a + 11) 102 2 := h.2.2.2.2.2.2.2.2.2.2.2.1.2
theorem ly12_r24 {e : mE} {a : Nat} (h : ly12 e a) : e.2.2 a 24 = some (a + 12) := h.2.2.2.2.2.2.2.2.2.2.2.2.1.1
theorem ly12_s24 {e : mE} {a : Nat} (h : ly12 e a) : mx_is e (a + 12) 102 10 := h.2.2.2.2.2.2.2.2.2.2.2.2.1.2
theorem ly12_r26 {e : mE} {a : Nat} (h : ly12 e a) : e.2.2 a 26 = some (a + 13) := h.2.2.2.2.2.2.2.2.2.2.2.2.2.1.1
theorem ly12_s26 {e : mE} {a : Nat} (h : ly12 e a) : mx_is e (a + 13) 100 10 := h.2.2.2.2.2.2.2.2.2.2.2.2.2.1.2
theorem ly12_r27 {e : mE} {a : Nat} (h : ly12 e a) : e.2.2 a 27 = some (a + 14) := h.2.2.2.2.2.2.2.2.2.2.2.2.2.2.1.1
theorem ly12_s27 {e : mE} {a : Nat} (h : ly12 e a) : mx_is e (a + 14) 100 10 := h.2.2.2.2.2.2.2.2.2.2.2.2.2.2.1.2
theorem ly12_r28 {e : mE} {a : Nat} (h : ly12 e a) : e.2.2 a 28 = some (a + 15) := h.2.2.2.2.2.2.2.2.2.2.2.2.2.2.2.1.1
theorem ly12_s28 {e : mE} {a : Nat} (h : ly12 e a) : mx_is e (a + 15) 100 10 := h.2.2.2.2.2.2.2.2.2.2.2.2.2.2.2.1.2
theorem ly12_r34 {e : mE} {a : Nat} (h : ly12 e a) : e.2.2 a 34 = some (a + 16) := h.2.2.2.2.2.2.2.2.2.2.2.2.2.2.2.2.1.1
theorem ly12_s34 {e : mE} {a : Nat} (h : ly12 e a) : mx_is e (a + 16) 100 10 := h.2.2.2.2.2.2.2.2.2.2.2.2.2.2.2.2.1.2
theorem ly12_r35 {e : mE} {a : Nat} (h : ly12 e a) : e.2.2 a 35 = some (a + 17) := h.2.2.2.2.2.2.2.2.2.2.2.2.2.2.2.2.2.1.1
theorem ly12_s35 {e : mE} {a : Nat} (h : ly12 e a) : mx_is e (a + 17) 100 10 := h.2.2.2.2.2.2.2.2.2.2.2.2.2.2.2.2.2.1.2
theorem ly12_r36 {e : mE} {a : Nat} (h : ly12 e a) : e.2.2 a 36 = some (a + 18) := h.2.2.2.2.2.2.2.2.2.2.2.2.2.2.2.2.2.2.1.1
theorem ly12_s36 {e : mE} {a : Nat} (h : ly12 e a) : mx_is e (a + 18) 100 10 := h.2.2.2.2.2.2.2.2.2.2.2.2.2.2.2.2.2.2.1.2
theorem ly12_r37 {e : mE} {a : Nat} (h : ly12 e a) : e.2.2 a 37 = some (a + 19) := h.2.2.2.2.2.2.2.2.2.2.2.2.2.2.2.2.2.2.2.1.1
theorem ly12_s37 {e : mE} {a : Nat} (h : ly12 e a) : mx_is e (a + 19) 100 6 := h.2.2.2.2.2.2.2.2.2.2.2.2.2.2.2.2.2.2.2.1.2
theorem ly12_r38 {e : mE} {a : Nat} (h : ly12 e a) : e.2.2 a 38 = some (a + 20) := h.2.2.2.2.2.2.2.2.2.2.2.2.2.2.2.2.2.2.2.2.1.1
theorem ly12_s38 {e : mE} {a : Nat} (h : ly12 e a) : mx_is e (a + 20) 100 6 := h.2.2.2.2.2.2.2.2.2.2.2.2.2.2.2.2.2.2.2.2.1.2
theorem ly12_r39 {e : mE} {a : Nat} (h : ly12 e a) : e.2.2 a 39 = some (a + 21) := h.2.2.2.2.2.2.2.2.2.2.2.2.2.2.2.2.2.2.2.2.2.1.1
theorem ly12_s39 {e : mE} {a : Nat} (h : ly12 e a) : mx_is e (a + 21) 100 30 := h.2.2.2.2.2.2.2.2.2.2.2.2.2.2.2.2.2.2.2.2.2.1.2
theorem ly12_r40 {e : mE} {a : Nat} (h : ly12 e a) : e.2.2 a 40 = some (a + 22) := h.2.2.2.2.2.2.2.2.2.2.2.2.2.2.2.2.2.2.2.2.2.2.1.1
theorem ly12_s40 {e : mE} {a : Nat} (h : ly12 e a) : mx_is e (a + 22) 100 110 := h.2.2.2.2.2.2.2.2.2.2.2.2.2.2.2.2.2.2.2.2.2.2.1.2
theorem ly12_r50 {e : mE} {a : Nat} (h : ly12 e a) : e.2.2 a 50 = some (a + 23) := h.2.2.2.2.2.2.2.2.2.2.2.2.2.2.2.2.2.2.2.2.2.2.2.1.1
theorem ly12_s50 {e : mE} {a : Nat} (h : ly12 e a) : mx_is e (a + 23) 100 48 := h.2.2.2.2.2.2.2.2.2.2.2.2.2.2.2.2.2.2.2.2.2.2.2.1.2
theorem ly12_r53 {e : mE} {a : Nat} (h : ly12 e a) : e.2.2 a 53 = some (a + 24) := h.2.2.2.2.2.2.2.2.2.2.2.2.2.2.2.2.2.2.2.2.2.2.2.2.1.1
theorem ly12_s53 {e : mE} {a : Nat} (h : ly12 e a) : mx_is e (a + 24) 100 160 := h.2.2.2.2.2.2.2.2.2.2.2.2.2.2.2.2.2.2.2.2.2.2.2.2.1.2
theorem ly12_r54 {e : mE} {a : Nat} (h : ly12 e a) : e.2.2 a 54 = some (a + 25) := h.2.2.2.2.2.2.2.2.2.2.2.2.2.2.2.2.2.2.2.2.2.2.2.2.2.1.1
theorem ly12_s54 {e : mE} {a : Nat} (h : ly12 e a) : mx_is e (a + 25) 100 4 := h.2.2.2.2.2.2.2.2.2.2.2.2.2.2.2.2.2.2.2.2.2.2.2.2.2.1.2
theorem ly12_r57 {e : mE} {a : Nat} (h : ly12 e a) : e.2.2 a 57 = some (a + 26) := h.2.2.2.2.2.2.2.2.2.2.2.2.2.2.2.2.2.2.2.2.2.2.2.2.2.2.1
theorem ly12_s57 {e : mE} {a : Nat} (h : ly12 e a) : mx_is e (a + 26) 100 240 := h.2.2.2.2.2.2.2.2.2.2.2.2.2.2.2.2.2.2.2.2.2.2.2.2.2.2.2
