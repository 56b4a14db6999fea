/-! ===== the machine of pictures (mx_): cells by number, their ints and longs as functions; one row an instruction, goal first ===== -/
/-- base address, classes and slots, array classes (0 int, 1 long, 2 boolean, 3 Network, 4 Picture), addresses of strings -/
abbrev mG : Type := Nat × va_G × (Nat → ClassId) × (Nat → Nat)
def mx_ad (G : mG) (i : Nat) : Nat := if i < 100000 then G.1 + i else G.2.2.2 i
def mx_tr (G : mG) : Value → Value
  | .ref a => .ref (mx_ad G a)
  | v => v
/-- how many cells, their kind and length, their references -/
abbrev mE : Type := Nat × (Nat → Nat × Nat) × (Nat → Nat → Option Nat)
abbrev mI : Type := Nat → Nat → Int32
abbrev mJ : Type := Nat → Nat → Int64
abbrev mS : Type := mE × mI × mJ
def mx_rv (G : mG) (r : Option Nat) : Value := match r with
  | none => .null
  | some a => .ref (mx_ad G a)
def mx_fv (G : mG) (z : mS) (ty : FieldType) (i k : Nat) : Value := match ty with
  | .long => .long (z.2.2 i k)
  | .object _ => mx_rv G (z.1.2.2 i k)
  | .array _ => mx_rv G (z.1.2.2 i k)
  | _ => .int (z.2.1 i k)
def mx_ty (c : Nat) : Nat → FieldType := match c with
  | 0 => tyX0 | 1 => tyX1 | 2 => tyX2 | 3 => tyX3 | 4 => tyX4 | 5 => tyX5 | 6 => tyX6 | 7 => tyX7 | 8 => tyX8 | 9 => tyX9 | 10 => tyX10 | 11 => tyX11
  | _ => tyX12
def mx_obj (G : mG) (z : mS) (c i : Nat) (H : Heap) : Prop := ∃ r : vw_C, vwCl[c]? = some r ∧ t_OB (G.1 + i) (G.2.1.1 c) r.2.2 (G.2.1.2 c) H (fun k => mx_fv G z (mx_ty c k) i k)
/-- a cell by its kind: 0 to 12 objects, 100 on arrays, 999 anything -/
def mx_cell (G : mG) (z : mS) (i : Nat) (H : Heap) : Prop :=
  if (z.1.2.1 i).1 = 100 then H[G.1 + i]? = some (arrV (G.2.2.1 0) (z.1.2.1 i).2 (fun j => .int (z.2.1 i j)))
  else if (z.1.2.1 i).1 = 101 then H[G.1 + i]? = some (arrV (G.2.2.1 1) (z.1.2.1 i).2 (fun j => .long (z.2.2 i j)))
  else if (z.1.2.1 i).1 = 102 then H[G.1 + i]? = some (arrV (G.2.2.1 2) (z.1.2.1 i).2 (fun j => .int (z.2.1 i j)))
  else if (z.1.2.1 i).1 = 103 then H[G.1 + i]? = some (arrV (G.2.2.1 3) (z.1.2.1 i).2 (fun j => mx_rv G (z.1.2.2 i j)))
  else if (z.1.2.1 i).1 = 104 then H[G.1 + i]? = some (arrV (G.2.2.1 4) (z.1.2.1 i).2 (fun j => mx_rv G (z.1.2.2 i j)))
  else if (z.1.2.1 i).1 = 999 then True
  else mx_obj G z (z.1.2.1 i).1 i H
def mx_H (G : mG) (z : mS) (H : Heap) : Prop := H.size = G.1 + z.1.1 ∧ z.1.1 ≤ 100000 ∧ ∀ i, i < z.1.1 → mx_cell G z i H
def mx_tys (G : mG) : List (ClassId × FieldType) := [(G.2.2.1 0, .int), (G.2.2.1 1, .long), (G.2.2.1 2, .boolean), (G.2.2.1 3, .object RX4), (G.2.2.1 4, .object RX6)]
def mx_K (G : mG) (U : State) : Prop := va_K G.2.1 vwCl (mx_tys G) U
theorem mx_K.moved {G : mG} {u U : State} (hvm : u.vm.Alike U.vm) (h : mx_K G u) : mx_K G U := va_K.moved hvm h
/-- the locals that are known; .float: not known -/
def mx_al (G : mG) : Nat → List Value → List (Nat × Value)
  | _, [] => []
  | i, v :: L => match v with
    | .float _ => mx_al G (i + 1) L
    | v => (i, mx_tr G v) :: mx_al G (i + 1) L
theorem mx_al_cons (G : mG) (i : Nat) (v : Value) (L : List Value) : (∃ f, v = .float f ∧ mx_al G i (v :: L) = mx_al G (i + 1) L) ∨ mx_al G i (v :: L) = (i, mx_tr G v) :: mx_al G (i + 1) L := by
  cases v with
  | float f => exact Or.inl ⟨f, rfl, rfl⟩
  | _ => exact Or.inr rfl
theorem mx_al_in {G : mG} {L : List Value} : ∀ {n i : Nat} {v : Value}, L[i]? = some v → (∀ f, v ≠ .float f) → (n + i, mx_tr G v) ∈ mx_al G n L := by
  induction L with
  | nil => intro n i v h; simp at h
  | cons a L ih =>
    intro n i v h hf
    cases i with
    | zero =>
      simp at h
      subst h
      rcases mx_al_cons G n a L with ⟨f, e, -⟩ | e
      · exact absurd e (hf f)
      · rw [e]; exact List.mem_cons_self
    | succ i =>
      have h1 : L[i]? = some v := by simpa using h
      have h2 := ih (n := n + 1) h1 hf
      have e2 : n + 1 + i = n + (i + 1) := by omega
      rw [e2] at h2
      rcases mx_al_cons G n a L with ⟨f, e, e3⟩ | e
      · rw [e3]; exact h2
      · rw [e]; exact List.mem_cons_of_mem _ h2
theorem mx_al_out {G : mG} {L : List Value} : ∀ {n : Nat} {q : Nat × Value}, q ∈ mx_al G n L → ∃ (i : Nat) (v : Value), q = (n + i, mx_tr G v) ∧ L[i]? = some v ∧ ∀ f, v ≠ .float f := by
  induction L with
  | nil => intro n q h; simp [mx_al] at h
  | cons a L ih =>
    intro n q h
    have key : q ∈ mx_al G (n + 1) L → ∃ (i : Nat) (v : Value), q = (n + i, mx_tr G v) ∧ (a :: L)[i]? = some v ∧ ∀ f, v ≠ .float f := by
      intro h
      obtain ⟨i, v, e, h1, h2⟩ := ih h
      exact ⟨i + 1, v, by rw [e, show n + 1 + i = n + (i + 1) by omega], by simpa using h1, h2⟩
    cases a with
    | float f => exact key h
    | _ =>
      rcases List.mem_cons.mp h with rfl | h
      · exact ⟨0, _, rfl, rfl, fun f q => by cases q⟩
      · exact key h
theorem mx_tr_cat (G : mG) (v : Value) : (mx_tr G v).category = v.category := by cases v <;> rfl
theorem mx_at {G : mG} {ls : Array Slot} {n i : Nat} {L : List Value} {v : Value} (h : lv_has ls n (mx_al G 0 L)) (hk : L[i]? = some v) (hf : ∀ f, v ≠ .float f) : ls[i]? = some (.val (mx_tr G v)) := by
  have h1 := h.2.2 _ (mx_al_in (n := 0) hk hf)
  simpa using h1
/-- a store of one slot: what takes two slots just below is lost -/
def mx_s1 (L : List Value) (i : Nat) (v : Value) : List Value := match i with
  | 0 => L.set 0 v
  | j + 1 => if (L[j]?.getD .null).category = 2 then (L.set j (.float 0)).set (j + 1) v else L.set (j + 1) v
/-- a store of two slots -/
def mx_s2 (L : List Value) (i : Nat) (v : Value) : List Value := (mx_s1 L i v).set (i + 1) (.float 0)
theorem mx_set_in {L : List Value} {i j : Nat} {v w : Value} (h : (L.set i v)[j]? = some w) : (j = i ∧ w = v) ∨ (j ≠ i ∧ L[j]? = some w) := by
  rw [List.getElem?_set] at h
  by_cases hij : i = j
  · rw [if_pos hij] at h
    split at h
    · cases h; exact Or.inl ⟨hij.symm, rfl⟩
    · cases h
  · rw [if_neg hij] at h
    exact Or.inr ⟨fun q => hij q.symm, h⟩
theorem mx_s1_get {L : List Value} {i j : Nat} {v w : Value} (h : (mx_s1 L i v)[j]? = some w) (hw : ∀ f, w ≠ .float f) : (j = i ∧ w = v) ∨ (j ≠ i ∧ L[j]? = some w ∧ ¬ (j + 1 = i ∧ w.category = 2)) := by
  unfold mx_s1 at h
  cases i with
  | zero =>
    rcases mx_set_in h with q | q
    · exact Or.inl q
    · exact Or.inr ⟨q.1, q.2, fun z => by omega⟩
  | succ k =>
    dsimp only at h
    split at h
    · rcases mx_set_in h with q | q
      · exact Or.inl q
      · rcases mx_set_in q.2 with r | r
        · exact absurd r.2 (hw 0)
        · exact Or.inr ⟨q.1, r.2, fun z => r.1 (by omega)⟩
    · rename_i hc
      rcases mx_set_in h with q | q
      · exact Or.inl q
      · refine Or.inr ⟨q.1, q.2, fun z => hc ?_⟩
        have : j = k := by omega
        subst this
        rw [q.2]
        exact z.2
theorem mx_s1_in {G : mG} {L : List Value} {i : Nat} {v : Value} {q : Nat × Value} (h : q ∈ mx_al G 0 (mx_s1 L i v)) :
    q ∈ (i, mx_tr G v) :: (mx_al G 0 L).filter (fun q => !(q.1 == i) && !(q.1 + 1 == i && q.2.category == 2)) := by
  obtain ⟨j, w, e, hj, hw⟩ := mx_al_out h
  rw [Nat.zero_add] at e
  subst e
  rcases mx_s1_get hj hw with ⟨rfl, rfl⟩ | ⟨hji, hL, hn⟩
  · exact List.mem_cons_self
  · refine List.mem_cons_of_mem _ (List.mem_filter.mpr ⟨by have := mx_al_in (G := G) (n := 0) hL hw; simpa using this, ?_⟩)
    simp only [Bool.and_eq_true, Bool.not_eq_true', beq_eq_false_iff_ne, ne_eq, Bool.and_eq_false_iff]
    refine ⟨hji, ?_⟩
    by_cases h1 : j + 1 = i
    · right; rw [mx_tr_cat]; exact fun q => hn ⟨h1, q⟩
    · left; exact h1
theorem mx_s2_in {G : mG} {L : List Value} {i : Nat} {v : Value} {q : Nat × Value} (h : q ∈ mx_al G 0 (mx_s2 L i v)) :
    q ∈ (i, mx_tr G v) :: (mx_al G 0 L).filter (fun q => !(q.1 == i) && (!(q.1 == i + 1) && !(q.1 + 1 == i && q.2.category == 2))) := by
  obtain ⟨j, w, e, hj, hw⟩ := mx_al_out h
  rw [Nat.zero_add] at e
  subst e
  rcases mx_set_in hj with ⟨-, rfl⟩ | ⟨hj1, hj⟩
  · exact absurd rfl (hw 0)
  rcases mx_s1_get hj hw with ⟨rfl, rfl⟩ | ⟨hji, hL, hn⟩
  · exact List.mem_cons_self
  · refine List.mem_cons_of_mem _ (List.mem_filter.mpr ⟨by have := mx_al_in (G := G) (n := 0) hL hw; simpa using this, ?_⟩)
    simp only [Bool.and_eq_true, Bool.not_eq_true', beq_eq_false_iff_ne, ne_eq, Bool.and_eq_false_iff]
    refine ⟨hji, hj1, ?_⟩
    by_cases h1 : j + 1 = i
    · right; rw [mx_tr_cat]; exact fun q => hn ⟨h1, q⟩
    · left; exact h1
theorem mx_has_mono {ls : Array Slot} {n : Nat} {l l' : List (Nat × Value)} (h : lv_has ls n l) (hs : ∀ q ∈ l', q ∈ l) : lv_has ls n l' := ⟨h.1, h.2.1, fun q hq => h.2.2 q (hs q hq)⟩
/-- fewer known locals -/
def mx_le : List Value → List Value → Prop
  | [], _ => True
  | .float _ :: L', L => mx_le L' L.tail
  | v :: L', L => L.head? = some v ∧ mx_le L' L.tail
theorem mx_le_al {G : mG} : ∀ {L' L : List Value} {n : Nat}, mx_le L' L → ∀ q ∈ mx_al G n L', q ∈ mx_al G n L := by
  intro L'
  induction L' with
  | nil => intro L n _ q hq; simp [mx_al] at hq
  | cons v L' ih =>
    intro L n h q hq
    have tl : ∀ (K : List Value), q ∈ mx_al G (n + 1) K.tail → q ∈ mx_al G n K := by
      intro K hK
      cases K with
      | nil => simpa [mx_al] using hK
      | cons a K =>
        rcases mx_al_cons G n a K with ⟨f, -, e⟩ | e
        · rw [e]; exact hK
        · rw [e]; exact List.mem_cons_of_mem _ hK
    cases v with
    | float f => exact tl L (ih h q hq)
    | _ =>
      rcases List.mem_cons.mp hq with rfl | hq
      · cases L with
        | nil => simp [mx_le] at h
        | cons a L =>
          have ha := h.1
          simp at ha
          subst ha
          exact List.mem_cons_self
      · exact tl L (ih h.2 q hq)
/-! the words: all that hold at every state of a launch -/
def mx_TB : List Cond := lw_tbl.filter goodWord
theorem mx_TBg : GoodIn mx_TB mx_TB := fun w hw => ⟨hw, good_of_word (List.mem_filter.mp hw).2⟩
def mx_ws (M : mM) : List Cond := .code M.2.1 M.2.2.1 M.2.2.2.1 M.2.2.2.2 :: mx_TB
theorem mx_in {w : Cond} {i : Nat} (h : tables_1[i]? = some w) (hg : goodWord w = true) : w ∈ mx_TB := List.mem_filter.mpr ⟨List.mem_append_right _ (List.mem_of_getElem? h), hg⟩
theorem mx_inS {w : Cond} {i : Nat} (h : (k2_sels lw_privs)[i]? = some w) (hg : goodWord w = true) : w ∈ mx_TB := List.mem_filter.mpr ⟨List.mem_append_left _ (List.mem_of_getElem? h), hg⟩
def mx_C (G : mG) (M : mM) (p : Program) (s : State) (m : MethodId) (args : Array Value) (meth : Method) (c : Code) : Prop :=
  p.tables.exec = Jvm.exec ∧ c.code = M.2.2.1 ∧ c.maxLocals = M.2.2.2.1 ∧ meth.sig.returnType = M.2.2.2.2 ∧ meth.locks = false ∧ s.vm.findClass M.1 = some m.cls ∧ meth.name = M.2.1.name ∧ (∀ w ∈ mx_TB, w.before args s = true) ∧ mx_K G s
def mx_fr (G : mG) : Nat → Prop := fun q => G.1 ≤ q
def mx_Q (G : mG) (Post : Option Value → mS → Prop) : Array Value → State → Outcome → State → Prop := fun _ st o t =>
  (∃ (v : Option Value) (z : mS), o = .returned (v.map (mx_tr G)) ∧ Post v z ∧ mx_H G z t.heap) ∧ va_F (mx_fr G) st t
def mx_Pc (G : mG) (av : List Value) (z : mS) : Array Value → State → Prop := fun a U => a = (av.map (mx_tr G)).toArray ∧ mx_H G z U.heap ∧ mx_K G U
def mx_rm (d kc ks : Nat) : Room := { frames := d, cells := kc, slots := ks, locals := 60 * d }
/-- A CALL: the method, at depth d, making at most kc cells of ks slots, from arguments av and picture z, ends with Post -/
def mx_Call (G : mG) (l : Launch) (M : mM) (d kc ks : Nat) (av : List Value) (z : mS) (Post : Option Value → mS → Prop) : Prop :=
  Met l M.2.1 (mx_ws M) (mx_rm d kc ks) (mx_Pc G av z) (mx_Q G Post) kc ks (mx_fr G)
/-- what holds of the machine wherever a frame is -/
def mx_X (G : mG) (M : mM) (d kc ks : Nat) (L : List Value) (z : mS) (p : Program) (R : Room) (s : State) (m : MethodId) (args : Array Value) (meth : Method) (c : Code) (H : Heap) (locs : List Loc) (cells slots : Nat) (ls : Array Slot) : Prop :=
  mx_C G M p s m args meth c ∧ (d ≤ R.frames ∧ 60 * d ≤ R.locals ∧ cells + kc ≤ R.cells ∧ slots + ks ≤ R.slots) ∧ va_S (mx_fr G) s.heap H locs ∧ G.1 ≤ s.heap.size ∧ mx_H G z H ∧ lv_has ls M.2.2.2.1 (mx_al G 0 L)
/-- A FRAME: from pc, locals L, stack st and picture z on the method ends with Post -/
def mx_Fr (G : mG) (l : Launch) (M : mM) (d kc ks : Nat) (Post : Option Value → mS → Prop) (pc : Nat) (L st : List Value) (z : mS) : Prop :=
  ∀ (p : Program) (e : Env) (R : Room) (s : State) (m : MethodId) (args : Array Value) (below : List Frame) (meth : Method) (c : Code) (H : Heap) (locs : List Loc) (cells slots : Nat) (ls : Array Slot),
    mx_X G M d kc ks L z p R s m args meth c H locs cells slots ls →
    W p l e R s m args below meth c H locs cells slots (MQ below (mx_Q G Post) args s R.cells R.slots (mx_fr G)) (F0 m pc ls (st.map (mx_tr G)))
