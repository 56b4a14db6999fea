/-! ===== path and flower of a point ===== -/
theorem nodup_le {row : List Nat} {n : Nat} (h : row.Nodup) (hx : ∀ x ∈ row, x < n) : row.length ≤ n := by
  have := List.Nodup.length_le_of_subset (l₂ := List.range n) h (fun x hm => List.mem_range.mpr (hx x hm))
  rwa [List.length_range] at this
theorem nodup_inj {row : List Nat} (h : row.Nodup) {i j : Nat} (hi : i < row.length) (hj : j < row.length) (e : row.getD i 0 = row.getD j 0) : i = j := by
  rw [List.getD_eq_getElem?_getD, List.getD_eq_getElem?_getD, List.getElem?_eq_getElem hi, List.getElem?_eq_getElem hj] at e
  refine (List.getElem?_inj hi h).mp ?_
  rw [List.getElem?_eq_getElem hi, List.getElem?_eq_getElem hj]
  exact congrArg some e
theorem gd_mem {row : List Nat} {i : Nat} (hi : i < row.length) : row.getD i 0 ∈ row := by
  rw [List.getD_eq_getElem?_getD, List.getElem?_eq_getElem hi]
  exact List.getElem_mem _
def fw (closed : Bool) : Nat := if closed = true then 1 else 0
/-- the first that is found, fewest pairs first -/
def fnd (N : Rw) (closed : Bool) (p : Nat) : Option (List Nat) := fs (fun n => if n < fw closed then none else ext N closed n [p]) 5
theorem ext_many {N : Rw} (g : GI N) (s : SI N) {closed : Bool} {n p : Nat} (hp : p < nP N) (h : nP N < 1 + 2 * n + (if closed = true then 0 else 1)) : ext N closed n [p] = none := by
  cases e : ext N closed n [p] with
  | none => rfl
  | some row =>
    obtain ⟨h1, h2, h3⟩ := ext_ok g s e (by simp) (fun x hx => by rw [List.mem_singleton] at hx; rw [hx]; exact hp)
    have := nodup_le h1 h2
    rw [h3] at this
    simp only [List.length_cons, List.length_nil] at this
    omega
theorem fnd_ok {N : Rw} (g : GI N) (s : SI N) {closed : Bool} {p : Nat} {row : List Nat} (hp : p < nP N) (h : fnd N closed p = some row) : row.Nodup ∧ (∀ x ∈ row, x < nP N) ∧ row.length ≤ 10 ∧ row.length % 2 = (if closed = true then 1 else 0) ∧ (if closed = true then 3 else 2) ≤ row.length := by
  have hn := g.1.2
  obtain ⟨n, hn5, e⟩ := fs_some h
  split at e
  · cases e
  · rename_i hf
    obtain ⟨h1, h2, h3⟩ := ext_ok g s e (by simp) (fun x hx => by rw [List.mem_singleton] at hx; rw [hx]; exact hp)
    have := nodup_le h1 h2
    simp only [List.length_cons, List.length_nil] at h3
    refine ⟨h1, h2, by omega, ?_, ?_⟩
    · cases closed <;> simp at h3 ⊢ <;> omega
    · cases closed
      · simp at h3 ⊢; omega
      · simp [fw] at hf; simp at h3 ⊢; omega
section FIND
variable {c d : mB} {p0 : Nat} {N : Rw}
theorem C_findRow (hp0 : p0 + 11 ≤ 39) (closed : Bool) (h : Nt c p0 N) {p : Nat} (hp : p < nP N) : hw (FX9_findRow 38 p0 (i3 p) (i3 (fw closed)) (b2 closed) c) (fun r => mx_out (SW 39) c r.2 ∧ match fnd N closed p with
      | some row => r.1 = 1 ∧ Rx r.2 39 row
      | none => r.1 = 0) := by
  have hh := h
  obtain ⟨g, s, h2, h3⟩ := hh
  have hn := g.1.2
  have hfw : fw closed ≤ 1 := by unfold fw; split <;> omega
  have key : hw (FX9_findRow_L3 38 p0 (i3 p) (b2 closed) mx_FU (i3 (fw closed)) c) (fun q => match q with
      | .inl rr => mx_out (SW 39) c rr.2 ∧ rr.1 = 1 ∧ ∃ row, fnd N closed p = some row ∧ Rx rr.2 39 row
      | .inr m => mx_out (SW 39) c m ∧ fnd N closed p = none) := by
    refine lp_inv (L := fun fu y m => FX9_findRow_L3 38 p0 (i3 p) (b2 closed) fu y m) (n := 5) (fun n m => fw closed ≤ n ∧ mx_out (SW 39) c m ∧ fs (fun n => if n < fw closed then none else ext N closed n [p]) n = none) ?_ ?_ (fw closed) mx_FU c (by omega) (FU_lt (by omega)) ⟨Nat.le_refl _, mx_out.rf, fs_none (fun j hj => if_pos hj)⟩
    · intro fu m hm
      show hw (FX9_findRow_L3 38 p0 (i3 p) (b2 closed) (fu + 1) (i3 5) m) _
      rw [FX9_findRow_L3]
      exact hw_some ⟨hm.2.1, hm.2.2⟩
    · intro fu n m hn5 hm hs
      show hw (FX9_findRow_L3 38 p0 (i3 p) (b2 closed) (fu + 1) (i3 n) m) _
      obtain ⟨hf1, z, hf⟩ := hm
      rw [FX9_findRow_L3, if_neg (by show ¬ i3 5 ≤ i3 n; rw [i3_le (by omega) (by omega)]; omega)]
      have ec : FX7_clear (38 + 1) m = some (mx_up m.1 39 1 0, m.2) := rfl
      have R0 : Rx (mx_up m.1 39 1 0, m.2) 39 [] := ⟨⟨mx_up_self m.1 39 1 0, Nat.zero_le _, rfl, rfl, by omega⟩, fun i hi => absurd hi (Nat.not_lt_zero i)⟩
      obtain ⟨c1, e1, r1, z1⟩ := Rx_add R0 (by simp) p
      have z0 : mx_out (SW 39) c (mx_up m.1 39 1 0, m.2) := mx_out_up z rfl (Or.inl ⟨rfl, rfl⟩)
      have zz := SWtr z0 z1
      rw [ec, ob_some]
      show hw (Option.bind (FX7_add 39 (i3 p) (mx_up m.1 39 1 0, m.2)) _) _
      rw [e1, ob_some]
      obtain ⟨⟨v, c2⟩, e2, z2, R2⟩ := C_goOn (N := N) hp0 closed n 64 (row := [p]) (c := c1) (sn := pw p) (by omega) (SW_nt hp0 h zz) r1 (by simp) (by simp only [List.length_cons, List.length_nil]; split <;> omega) (fun x hx => by rw [List.mem_singleton] at hx; rw [hx]; exact hp) (fun j hj => by rw [bt_pwk (by omega) hj]; simp)
      show hw (Option.bind (FX9_goOn 64 38 p0 (pw p) (i3 n) (b2 closed) c1) _) _
      rw [e2, ob_some]
      have eF : (if n < fw closed then none else ext N closed n [p]) = ext N closed n [p] := if_neg (by omega)
      cases hE : ext N closed n [p] with
      | some row =>
        rw [hE] at R2
        obtain ⟨rfl, R3⟩ := R2
        rw [if_neg n10]
        exact hw_some ⟨SWtr zz z2, rfl, row, fs_hit hf (by rw [eF, hE]) hn5, R3⟩
      | none =>
        rw [hE] at R2
        obtain ⟨rfl, R3⟩ := R2
        rw [if_pos rfl, mx_letI, i3_succ]
        exact hs _ ⟨by omega, SWtr zz z2, by rw [fs_step hf, eF, hE]⟩
  unfold FX9_findRow
  refine hw_bind (hw_mono key (fun q hq => ?_))
  cases q with
  | inl rr =>
    obtain ⟨z, e, row', he, hr⟩ := hq
    exact hw_some ⟨z, by rw [he]; exact ⟨e, hr⟩⟩
  | inr m =>
    obtain ⟨z, he⟩ := hq
    exact hw_some ⟨z, by rw [he]⟩
theorem M_layPath (g : GI N) (s : SI N) (h : d.1 224 = N) {p : Nat} (hp : p < nP N) (hlo : lone N p = true) : hw (FX12_layPath 222 (i3 p) d) (fun r => mx_out WY d r.2 ∧ match fnd N false p with
      | some row => r.1 = i3 row.length ∧ ways r.2 row
      | none => r.1 = 0) := by
  have hn := g.1.2
  have eF : ∀ n, (if n < fw false then none else ext N false n [p]) = ext N false n [p] := fun n => if_neg (by unfold fw; simp)
  have efnd : fnd N false p = fs (fun n => if n < fw false then none else ext N false n [p]) (nP N / 2) := fs_more (by omega) (fun n h1 h2 => by rw [eF]; exact ext_many g s hp (by simp; omega))
  have z0 : mx_out WY d (mx_up d.1 235 0 (i3 p), d.2) := mx_out_up mx_out.rf rfl rfl
  have w0 : ways (mx_up d.1 235 0 (i3 p), d.2) [p] := fun i hi => by
    have : i = 0 := by simp at hi; omega
    subst this
    exact mx_up_self d.1 235 0 (i3 p)
  have key : hw (FX12_layPath_L9 222 (i3 p) mx_FU (i3 (2 * 0 + 2)) (mx_up d.1 235 0 (i3 p), d.2)) (fun q => match q with
      | .inl rr => mx_out WY d rr.2 ∧ ∃ row, fnd N false p = some row ∧ rr.1 = i3 row.length ∧ ways rr.2 row
      | .inr m => mx_out WY d m ∧ fnd N false p = none) := by
    rw [efnd]
    refine lp_ig (fun j => i3 (2 * j + 2)) (L := fun fu y m => FX12_layPath_L9 222 (i3 p) fu y m) (n := nP N / 2) (fun n m => mx_out WY d m ∧ ways m [p] ∧ fs (fun n => if n < fw false then none else ext N false n [p]) n = none) ?_ ?_ 0 mx_FU _ (by omega) (FU_lt (by omega)) ⟨z0, w0, rfl⟩
    · intro fu m hm
      show hw (FX12_layPath_L9 222 (i3 p) (fu + 1) (i3 (2 * (nP N / 2) + 2)) m) _
      rw [FX12_layPath_L9]
      simp (disch := omega) only [Nat.reduceAdd, WY_row h hm.1, N0 g, ob_some, mx_letI, mx_chkT, mx_inb_i3, mx_inb_lit, lit_toNat, i3_toNat, i3_le, i3_lt, i3_leL, i3_Lle, i3_ltL, i3_Llt, i3_neg, i3_eq, i3_eqL, i3_ne1, i3_add, i3_addL, i3_Ladd, i3_mul, i3_mulL, i3_Lmul, mx_b01_0, mx_b01_1, b2_01, b2_0, b2_1, se_inl, se_inr, if_true, if_false, e10, e01, e00, e11, em1, em1lt, Nat.not_lt_zero, if_pos, if_neg]
      exact hw_some ⟨hm.1, hm.2.2⟩
    · intro fu n m hn5 hm hs
      show hw (FX12_layPath_L9 222 (i3 p) (fu + 1) (i3 (2 * n + 2)) m) _
      obtain ⟨z, hW, hf⟩ := hm
      have hNm := WY_row h z
      rw [FX12_layPath_L9]
      simp (disch := omega) only [Nat.reduceAdd, hNm, N0 g, ob_some, mx_letI, mx_chkT, mx_inb_i3, mx_inb_lit, lit_toNat, i3_toNat, i3_le, i3_lt, i3_leL, i3_Lle, i3_ltL, i3_Llt, i3_neg, i3_eq, i3_eqL, i3_ne1, i3_add, i3_addL, i3_Ladd, i3_mul, i3_mulL, i3_Lmul, mx_b01_0, mx_b01_1, b2_01, b2_0, b2_1, se_inl, se_inr, if_true, if_false, e10, e01, e00, e11, em1, em1lt, Nat.not_lt_zero, if_pos, if_neg]
      obtain ⟨⟨v, c2⟩, e2, z2, R2⟩ := M_goesOn g s n 64 (row := [p]) (d := m) (us := pw p) (by omega) hNm hW rfl (by simp only [List.length_cons, List.length_nil]; omega) (fun x hx => by rw [List.mem_singleton] at hx; rw [hx]; exact hp) (fun j hj => by rw [bt_pwk (by omega) hj]; simp) (Or.inl hlo)
      rw [show ([p] : List Nat).length + 2 * n + 1 = 2 * n + 2 by simp only [List.length_cons, List.length_nil]; omega] at e2
      show hw (Option.bind (FX12_goesOn 64 222 (i3 1) (i3 (2 * n + 2)) (pw p) m) _) _
      rw [show i3 1 = i3 ([p] : List Nat).length from rfl, e2, ob_some]
      cases hE : ext N false n [p] with
      | some row =>
        rw [hE] at R2
        obtain ⟨rfl, R3⟩ := R2
        rw [if_neg n10]
        have h3 := (ext_ok g s hE (by simp) (fun x hx => by rw [List.mem_singleton] at hx; rw [hx]; exact hp)).2.2
        simp only [List.length_cons, List.length_nil] at h3
        refine hw_some ⟨WYtr z z2, row, fs_hit hf (by rw [eF, hE]) hn5, ?_, R3⟩
        have h4 : row.length = 2 * n + 2 := by rw [h3]; simp only [Bool.false_eq_true, if_false]; omega
        rw [h4]
      | none =>
        rw [hE] at R2
        obtain ⟨rfl, R3⟩ := R2
        rw [if_pos rfl, show 2 * n + 2 + 2 = 2 * (n + 1) + 2 by omega]
        exact hs _ ⟨WYtr z z2, R3, by rw [fs_step hf, eF, hE]⟩
  unfold FX12_layPath
  rw [mx_letI]
  show hw (Option.bind (FX12_layPath_L9 222 (i3 p) mx_FU (i3 (2 * 0 + 2)) (mx_up d.1 235 0 (i3 p), d.2)) _) _
  refine hw_bind (hw_mono key (fun q hq => ?_))
  cases q with
  | inl rr =>
    obtain ⟨z, row', he, e, hr⟩ := hq
    exact hw_some ⟨z, by rw [he]; exact ⟨e, hr⟩⟩
  | inr m =>
    obtain ⟨z, he⟩ := hq
    exact hw_some ⟨z, by rw [he]⟩
end FIND
