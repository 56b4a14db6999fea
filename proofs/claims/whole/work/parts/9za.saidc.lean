/-! ===== sayings: the pile and the tree are the same ===== -/
section SAIDC
variable {c c' d : mB} {N : Rw}
/-- the pile of values after so many parts, the top first -/
def pst (A : Nat → Int32) (O : Nat → Int32) (al : Int32) : Nat → List Int32
  | 0 => []
  | i + 1 => if cdf A i = 0 then O i :: pst A O al i else if cdf A i = 1 then (match pst A O al i with
      | x :: r => (al &&& (x ^^^ -1)) :: r
      | [] => []) else (match pst A O al i with
      | y :: x :: r => (if A i = 111 then x &&& y else x ||| y) :: r
      | _ => [])
def pv (A : Nat → Int32) (O : Nat → Int32) (al : Int32) (i : Nat) : Int32 := (pst A O al (i + 1)).headD 0
theorem cdf_1 {A : Nat → Int32} {i : Nat} (h : A i = 112) : cdf A i = 1 := by unfold cdf; rw [if_pos h]
theorem cdf_2 {A : Nat → Int32} {i : Nat} (h : A i = 110 ∨ A i = 111) : cdf A i = 2 := by
  unfold cdf
  rw [if_neg (by rcases h with h | h <;> rw [h] <;> decide), if_pos h]
theorem cdf_0 {A : Nat → Int32} {i u : Nat} (h : A i = i3 (100 + u)) (h1 : 13 ≤ u) (h2 : u ≤ 21) : cdf A i = 0 := by
  have ne : ∀ k, 100 + u ≠ k → k < 1000 → ¬ i3 (100 + u) = i3 k := fun k h1 h2 e => h1 ((i3_eq (by omega) (by omega)).mp e)
  unfold cdf
  rw [h, if_neg (show ¬ i3 (100 + u) = 112 from ne 112 (by omega) (by omega)), if_neg (by
    rintro (e | e)
    · exact ne 110 (by omega) (by omega) e
    · exact ne 111 (by omega) (by omega) e)]
theorem stk_lt {f : Nat → Nat} : ∀ {i x : Nat}, x ∈ stk f i → x < i := by
  intro i
  induction i with
  | zero => intro x h; cases h
  | succ i ih =>
    intro x h
    unfold stk at h
    rcases List.mem_cons.mp h with e | e
    · omega
    · split at e
      · have := ih e; omega
      · split at e
        · have := ih (List.mem_of_mem_tail e); omega
        · have := ih (List.mem_of_mem_tail (List.mem_of_mem_tail e)); omega
theorem pst_stk {A B W O : Nat → Int32} {al : Int32} {R : Rw} : ∀ {k : Nat}, (∀ i, i < k → SYP A B W R i) → pst A O al k = (stk (cdf A) k).map (pv A O al) := by
  intro k
  induction k with
  | zero => intro _; rfl
  | succ k ih =>
    intro h
    have h1 := ih (fun i hi => h i (by omega))
    rcases h k (by omega) with ⟨a1, a2, x, r, a3, a4⟩ | ⟨a1, y, x, r, a3, a4, a5⟩ | ⟨u, v, g, a1, a2, a3, a4, -⟩
    · have hc := cdf_1 a1
      have e1 : pst A O al (k + 1) = (al &&& (pv A O al x ^^^ -1)) :: r.map (pv A O al) := by
        show (if cdf A k = 0 then _ else if cdf A k = 1 then _ else _) = _
        rw [hc, if_neg (by omega), if_pos rfl, h1, a3]
        rfl
      have e2 : pv A O al k = al &&& (pv A O al x ^^^ -1) := by
        show (pst A O al (k + 1)).headD 0 = _
        rw [e1]; rfl
      rw [e1, ← e2]
      show _ = (k :: (if cdf A k = 0 then _ else if cdf A k = 1 then _ else _)).map _
      rw [hc, if_neg (by omega), if_pos rfl, a3]
      rfl
    · have hc : cdf A k = 2 := cdf_2 (by rcases a1 with a1 | a1 <;> exact (by first | exact Or.inl a1.1 | exact Or.inr a1.1))
      have e1 : pst A O al (k + 1) = (if A k = 111 then pv A O al x &&& pv A O al y else pv A O al x ||| pv A O al y) :: r.map (pv A O al) := by
        show (if cdf A k = 0 then _ else if cdf A k = 1 then _ else _) = _
        rw [hc, if_neg (by omega), if_neg (by omega), h1, a3]
        rfl
      have e2 : pv A O al k = (if A k = 111 then pv A O al x &&& pv A O al y else pv A O al x ||| pv A O al y) := by
        show (pst A O al (k + 1)).headD 0 = _
        rw [e1]; rfl
      rw [e1, ← e2]
      show _ = (k :: (if cdf A k = 0 then _ else if cdf A k = 1 then _ else _)).map _
      rw [hc, if_neg (by omega), if_neg (by omega), a3]
      rfl
    · have hc := cdf_0 a3 a1 a2
      have e1 : pst A O al (k + 1) = O k :: pst A O al k := by
        show (if cdf A k = 0 then _ else if cdf A k = 1 then _ else _) = _
        rw [hc, if_pos rfl]
      have e2 : pv A O al k = O k := by
        show (pst A O al (k + 1)).headD 0 = _
        rw [e1]; rfl
      rw [e1, ← e2, h1]
      show _ = (k :: (if cdf A k = 0 then _ else if cdf A k = 1 then _ else _)).map _
      rw [hc, if_pos rfl]
      rfl
theorem pv_not {A B W O : Nat → Int32} {al : Int32} {R : Rw} {k x : Nat} {r : List Nat} (h : ∀ i, i < k → SYP A B W R i) (a1 : A k = 112) (a3 : stk (cdf A) k = x :: r) : pv A O al k = al &&& (pv A O al x ^^^ -1) := by
  show (if cdf A k = 0 then _ else if cdf A k = 1 then _ else _ : List Int32).headD 0 = _
  rw [cdf_1 a1, if_neg (by omega), if_pos rfl, pst_stk h, a3]
  rfl
theorem pv_two {A B W O : Nat → Int32} {al : Int32} {R : Rw} {k x y : Nat} {r : List Nat} (h : ∀ i, i < k → SYP A B W R i) (a1 : A k = 110 ∨ A k = 111) (a3 : stk (cdf A) k = y :: x :: r) : pv A O al k = (if A k = 111 then pv A O al x &&& pv A O al y else pv A O al x ||| pv A O al y) := by
  show (if cdf A k = 0 then _ else if cdf A k = 1 then _ else _ : List Int32).headD 0 = _
  rw [cdf_2 a1, if_neg (by omega), if_neg (by omega), pst_stk h, a3]
  rfl
theorem pv_one {A O : Nat → Int32} {al : Int32} {k u : Nat} (a3 : A k = i3 (100 + u)) (a1 : 13 ≤ u) (a2 : u ≤ 21) : pv A O al k = O k := by
  show (if cdf A k = 0 then _ else if cdf A k = 1 then _ else _ : List Int32).headD 0 = _
  rw [cdf_0 a3 a1 a2, if_pos rfl]
  rfl
/-- all points -/
theorem all_bits : ∀ n, n ≤ 10 → ∀ p, p < 32 → bt ((1 : Int32) <<< (i3 n &&& 31) - 1) p = decide (p < n) := by decide +kernel
/-- values: bits of points only -/
def OKO (N : Rw) (A B W O : Nat → Int32) (k : Nat) : Prop := ∀ i, i < k → cdf A i = 0 → (∀ m, CG m 4 N → CS m 4 N → FX8_pointsOfOne 4 (A i) (B i) (W i) m = some (O i)) ∧ ∃ u v sg, 13 ≤ u ∧ u ≤ 21 ∧ A i = i3 (100 + u) ∧ N (192 + 4 * i) = i3 (50 + u) ∧ (u ≤ 14 ∨ (u = 15 ∨ u = 16) ∧ v < nP N ∧ N (193 + 4 * i) = i3 v ∨ u = 17 ∧ v ≤ 5 ∧ N (193 + 4 * i) = i3 v ∨ 18 ≤ u ∧ v ≤ 999 ∧ (sg = 60 ∨ sg = 61 ∨ sg = 62) ∧ N (195 + 4 * i) = i3 sg ∧ N (194 + 4 * i) = i3 v) ∧ ∀ p, p < 32 → bt (O i) p = (decide (p < nP N) && lf N u v sg p)
theorem OKO_ex {A B W : Nat → Int32} {k : Nat} (g : GI N) (s : SI N) (h : CG c 4 N) (hs : CS c 4 N) (hS : ∀ i, i < k → SYP A B W N i) : ∃ O, OKO N A B W O k := by
  have hn : ∀ i, ∃ X, i < k → cdf A i = 0 → (∀ m, CG m 4 N → CS m 4 N → FX8_pointsOfOne 4 (A i) (B i) (W i) m = some X) ∧ ∃ u v sg, 13 ≤ u ∧ u ≤ 21 ∧ A i = i3 (100 + u) ∧ N (192 + 4 * i) = i3 (50 + u) ∧ (u ≤ 14 ∨ (u = 15 ∨ u = 16) ∧ v < nP N ∧ N (193 + 4 * i) = i3 v ∨ u = 17 ∧ v ≤ 5 ∧ N (193 + 4 * i) = i3 v ∨ 18 ≤ u ∧ v ≤ 999 ∧ (sg = 60 ∨ sg = 61 ∨ sg = 62) ∧ N (195 + 4 * i) = i3 sg ∧ N (194 + 4 * i) = i3 v) ∧ ∀ p, p < 32 → bt X p = (decide (p < nP N) && lf N u v sg p) := by
    intro i
    by_cases hi : i < k
    · rcases hS i hi with ⟨a1, -⟩ | ⟨a1, -⟩ | ⟨u, v, sg, a1, a2, a3, a4, a5⟩
      · exact ⟨0, fun _ q => by rw [cdf_1 a1] at q; omega⟩
      · exact ⟨0, fun _ q => by rw [cdf_2 (by rcases a1 with a1 | a1 <;> exact (by first | exact Or.inl a1.1 | exact Or.inr a1.1))] at q; omega⟩
      · have hv : u ≤ 14 ∨ (u = 15 ∨ u = 16) ∧ v < nP N ∧ W i = i3 v ∨ u = 17 ∧ v ≤ 5 ∧ W i = i3 v ∨ 18 ≤ u ∧ v ≤ 999 ∧ (sg = 60 ∨ sg = 61 ∨ sg = 62) ∧ B i = i3 sg ∧ W i = i3 v := by
          rcases a5 with q | ⟨q0, q1, q2, q3⟩ | ⟨q0, q1, q2, q3⟩ | ⟨q0, q1, q2, q3, q4, q5, q6⟩
          · exact Or.inl q
          · exact Or.inr (Or.inl ⟨q0, q1, q2⟩)
          · exact Or.inr (Or.inr (Or.inl ⟨q0, q1, q2⟩))
          · exact Or.inr (Or.inr (Or.inr ⟨q0, q1, q2, q3, q5⟩))
        obtain ⟨X, e1, e2⟩ := C_one g s h hs (v := v) (sg := sg) a1 a2 (B i) (W i) hv
        refine ⟨X, fun _ _ => ⟨fun m m1 m2 => ?_, u, v, sg, a1, a2, a3, a4, ?_, e2⟩⟩
        · obtain ⟨X', f1, f2⟩ := C_one g s m1 m2 (v := v) (sg := sg) a1 a2 (B i) (W i) hv
          rw [a3, f1, bt_ext (fun p hp => by rw [f2 p hp, e2 p hp] : ∀ p, p < 32 → bt X' p = bt X p)]
        rcases a5 with q | ⟨q0, q1, q2, q3⟩ | ⟨q0, q1, q2, q3⟩ | ⟨q0, q1, q2, q3, q4, q5, q6⟩
        · exact Or.inl q
        · exact Or.inr (Or.inl ⟨q0, q1, q3⟩)
        · exact Or.inr (Or.inr (Or.inl ⟨q0, q1, q3⟩))
        · exact Or.inr (Or.inr (Or.inr ⟨q0, q1, q2, q4, q6⟩))
    · exact ⟨0, fun q => absurd q hi⟩
  exact ⟨fun i => Classical.choose (hn i), fun i hi q => Classical.choose_spec (hn i) hi q⟩
/-- bits of values, and what the reference holds -/
theorem M_holds {A B W O : Nat → Int32} {k : Nat} (hk : k ≤ 40) (g : GI N) (s : SI N) (hd : d.1 224 = N) (hS : ∀ i, i < k → SYP A B W N i) (hO : OKO N A B W O k) {al : Int32} (hal : ∀ p, p < 32 → bt al p = decide (p < nP N)) :
    ∀ (i : Nat), i < k → (∀ p, nP N ≤ p → p < 32 → bt (pv A O al i) p = false) ∧ ∀ D, i < D → ∀ p, p < nP N → FX12_holds D 222 (i3 i) (i3 p) d = some (b2 (bt (pv A O al i) p)) := by
  have hn := g.1.2
  have eN : ∀ x, d.1 (222 + 2) x = N x := fun x => by rw [← hd]
  intro i
  induction i using Nat.strongRecOn with
  | _ i ih =>
    intro hi
    have hS' : ∀ j, j < i → SYP A B W N j := fun j hj => hS j (by omega)
    rcases hS i hi with ⟨a1, a2, x, r, a3, a4⟩ | ⟨a1, y, x, r, a3, a4, a5⟩ | ⟨u, v, sg, a1, a2, a3, a4, -⟩
    · have hx : x < i := stk_lt (f := cdf A) (i := i) (by rw [a3]; exact List.mem_cons_self)
      obtain ⟨i1, i2⟩ := ih x hx (by omega)
      have e := pv_not (O := O) (al := al) hS' a1 a3
      refine ⟨fun p h1 h2 => ?_, fun D hD p hp => ?_⟩
      · rw [e, bt_and, hal p h2, decide_eq_false (by omega), Bool.false_and]
      · obtain ⟨D, rfl⟩ : ∃ E, D = E + 1 := ⟨D - 1, by omega⟩
        show FX12_holds_B (FX12_holds D) 222 (i3 i) (i3 p) d = _
        unfold FX12_holds_B
        rw [mx_letI, i3_Lmul, i3_Ladd, i3_succ, mx_inb_i3 (by omega) (by omega), mx_chkT, mx_letI, i3_addL, mx_inb_i3 (by omega) (by omega), mx_chkT, mx_letI, mx_inb_i3 (by omega) (by omega), mx_chkT, i3_toNat (by omega), i3_toNat (by omega), i3_toNat (by omega), eN (192 + 4 * i), eN (192 + 4 * i + 1), a2, show 192 + 4 * i + 1 = 193 + 4 * i by omega, a4, if_pos (show (1 : Int32) = 1 from rfl), i2 D (by omega) p hp, ob_some, e, bt_and, bt_xor, bt_m1 (by omega), hal p (by omega), decide_eq_true hp, Bool.true_and]
        cases bt (pv A O al x) p <;> rfl
    · have hy : y < i := stk_lt (f := cdf A) (i := i) (by rw [a3]; exact List.mem_cons_self)
      have hx : x < i := stk_lt (f := cdf A) (i := i) (by rw [a3]; exact List.mem_cons_of_mem _ List.mem_cons_self)
      obtain ⟨x1, x2⟩ := ih x hx (by omega)
      obtain ⟨y1, y2⟩ := ih y hy (by omega)
      have e := pv_two (O := O) (al := al) hS' (by rcases a1 with a1 | a1 <;> exact (by first | exact Or.inl a1.1 | exact Or.inr a1.1)) a3
      rcases a1 with ⟨a1, a2⟩ | ⟨a1, a2⟩
      · rw [a1, if_neg (show ¬ (110 : Int32) = 111 by decide)] at e
        refine ⟨fun p h1 h2 => ?_, fun D hD p hp => ?_⟩
        · rw [e, bt_or, x1 p h1 h2, y1 p h1 h2]; rfl
        · obtain ⟨D, rfl⟩ : ∃ E, D = E + 1 := ⟨D - 1, by omega⟩
          show FX12_holds_B (FX12_holds D) 222 (i3 i) (i3 p) d = _
          unfold FX12_holds_B
          rw [mx_letI, i3_Lmul, i3_Ladd, i3_succ, mx_inb_i3 (by omega) (by omega), mx_chkT, mx_letI, i3_addL, mx_inb_i3 (by omega) (by omega), mx_chkT, mx_letI, mx_inb_i3 (by omega) (by omega), mx_chkT, i3_toNat (by omega), i3_toNat (by omega), i3_toNat (by omega), eN (192 + 4 * i), eN (192 + 4 * i + 1), eN (192 + 4 * i + 2), a2, show 192 + 4 * i + 1 = 193 + 4 * i by omega, show 192 + 4 * i + 2 = 194 + 4 * i by omega, a4, a5, if_neg (show ¬ (3 : Int32) = 1 by decide), if_neg (show ¬ (3 : Int32) = 2 by decide), if_pos (show (3 : Int32) = 3 from rfl), x2 D (by omega) p hp, y2 D (by omega) p hp, ob_some, e, bt_or]
          cases bt (pv A O al x) p <;> cases bt (pv A O al y) p <;> rfl
      · rw [a1, if_pos (show (111 : Int32) = 111 from rfl)] at e
        refine ⟨fun p h1 h2 => ?_, fun D hD p hp => ?_⟩
        · rw [e, bt_and, x1 p h1 h2]; rfl
        · obtain ⟨D, rfl⟩ : ∃ E, D = E + 1 := ⟨D - 1, by omega⟩
          show FX12_holds_B (FX12_holds D) 222 (i3 i) (i3 p) d = _
          unfold FX12_holds_B
          rw [mx_letI, i3_Lmul, i3_Ladd, i3_succ, mx_inb_i3 (by omega) (by omega), mx_chkT, mx_letI, i3_addL, mx_inb_i3 (by omega) (by omega), mx_chkT, mx_letI, mx_inb_i3 (by omega) (by omega), mx_chkT, i3_toNat (by omega), i3_toNat (by omega), i3_toNat (by omega), eN (192 + 4 * i), eN (192 + 4 * i + 1), eN (192 + 4 * i + 2), a2, show 192 + 4 * i + 1 = 193 + 4 * i by omega, show 192 + 4 * i + 2 = 194 + 4 * i by omega, a4, a5, if_neg (show ¬ (2 : Int32) = 1 by decide), if_pos (show (2 : Int32) = 2 from rfl), x2 D (by omega) p hp, y2 D (by omega) p hp, ob_some, e, bt_and]
          cases bt (pv A O al x) p <;> cases bt (pv A O al y) p <;> rfl
    · have e := pv_one (O := O) (al := al) a3 a1 a2
      obtain ⟨-, u', v', sg', b1, b2', b3, b4, b5, b6⟩ := hO i hi (cdf_0 a3 a1 a2)
      refine ⟨fun p h1 h2 => ?_, fun D hD p hp => ?_⟩
      · rw [e, b6 p h2, decide_eq_false (by omega), Bool.false_and]
      · obtain ⟨D, rfl⟩ : ∃ E, D = E + 1 := ⟨D - 1, by omega⟩
        show FX12_holds_B (FX12_holds D) 222 (i3 i) (i3 p) d = _
        rw [M_one g s hd b1 b2' hp (by omega) b4 b5, e, b6 p (by omega), decide_eq_true hp, Bool.true_and]
end SAIDC
