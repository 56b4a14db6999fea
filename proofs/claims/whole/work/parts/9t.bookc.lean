/-! ===== the lines of a book ===== -/
section BOOKC
variable {c c' d d' : mB} {n lim p l P : Nat} {t : Nat → Nat}
def eE (r : Int32 × mB) : Option (Int32 × mB) := if r.1 = 0 then some (0, r.2) else Option.bind (FX12_readEnd 222 r.2) (fun r34 => if r34.1 = 0 then some (0, r34.2) else some (1, r34.2))
def eC (r : Int32 × mB) : Option (Int32 × mB) := if r.1 = 0 then some (0, r.2) else FX10_take 1 59 r.2
def BL (P : Nat) (c d : mB) (l : Nat) : Prop := ∃ k, k ≤ 6 ∧ c.1 170 l = i3 (100 + mi (3 + k)) ∧ d.1 246 (4 * l) = i3 k ∧ BLk P k c d l
theorem M_whatL (w : Nat → Int32) (hw7 : ∀ k, k < 7 → FX12_isWord 222 (i3 (3 + k)) d = some (w k)) : FX12_readBookLine_L4 222 d mx_FU (-1) 0 = some (fo (fun k s => if w k = 0 then s else i3 k) 7 (-1)) := by
  refine lp_fo (L := fun fu y s => FX12_readBookLine_L4 222 d fu s y) (n := 7) (fun k s => if w k = 0 then s else i3 k) (fun s => s) (-1) ?_ ?_ mx_FU (FU_lt (by omega))
  · intro fu s
    show FX12_readBookLine_L4 222 d (fu + 1) s (i3 7) = _
    rw [FX12_readBookLine_L4, if_pos (show 6 < i3 7 by decide)]
  · intro fu k s hk
    show FX12_readBookLine_L4 222 d (fu + 1) s (i3 k) = FX12_readBookLine_L4 222 d fu (if w k = 0 then s else i3 k) (i3 (k + 1))
    rw [FX12_readBookLine_L4, if_neg (by show ¬ i3 6 < i3 k; rw [i3_lt (by omega) (by omega)]; omega), i3_Ladd, hw7 k hk, ob_some, mx_letI, mx_letI, i3_succ]
    by_cases q : w k = 0
    · rw [if_pos q, if_pos q]
    · rw [if_neg q, if_neg q]
theorem M_what (h : PR c d n lim t p) : (∃ k, k ≤ 6 ∧ c.1 1 6 = i3 (100 + mi (3 + k)) ∧ FX12_readBookLine_L4 222 d mx_FU (-1) 0 = some (i3 k) ∧ tkp n lim t p < min n lim ∧ d.1 222 7 = 2) ∨ ((∀ k, k ≤ 6 → c.1 1 6 ≠ i3 (100 + mi (3 + k))) ∧ FX12_readBookLine_L4 222 d mx_FU (-1) 0 = some (-1)) := by
  by_cases hx : ∃ k, k ≤ 6 ∧ c.1 1 6 = i3 (100 + mi (3 + k))
  · left
    obtain ⟨k, hk, e⟩ := hx
    have inj : ∀ j, j ≤ 6 → ∀ k, k ≤ 6 → mi (3 + j) = mi (3 + k) → j = k := by decide
    have hm : ∀ j, j ≤ 6 → mi (3 + j) < 22 := by decide
    have ws : ∀ j, j < 7 → FX12_isWord 222 (i3 (3 + j)) d = some (if j = k then 1 else 0) := fun j hj => by
      rcases PR_isWord h (k := 3 + j) (by omega) with ⟨q1, q2, -⟩ | ⟨q1, q2⟩
      · rw [q1] at e
        have h1 := hm j (by omega)
        have h2 := hm k (by omega)
        rw [i3_eq (by omega) (by omega)] at e
        rw [if_pos (inj j (by omega) k hk (by omega))]
        exact q2
      · rw [if_neg (fun q => q1 (by rw [q]; exact e))]
        exact q2
    refine ⟨k, hk, e, ?_, ?_⟩
    · rw [M_whatL _ ws]
      rcases (by omega : k = 0 ∨ k = 1 ∨ k = 2 ∨ k = 3 ∨ k = 4 ∨ k = 5 ∨ k = 6) with e | e | e | e | e | e | e <;> subst e <;> rfl
    · rcases PR_isWord h (k := 3 + k) (by omega) with ⟨q1, q2, q3, q4⟩ | ⟨q1, q2⟩
      · exact ⟨q3, q4⟩
      · exact absurd e q1
  · right
    have hx' : ∀ k, k ≤ 6 → c.1 1 6 ≠ i3 (100 + mi (3 + k)) := fun k hk e => hx ⟨k, hk, e⟩
    refine ⟨hx', ?_⟩
    rw [M_whatL (fun _ => 0) (fun j hj => by
      rcases PR_isWord h (k := 3 + j) (by omega) with ⟨q1, q2, -⟩ | ⟨q1, q2⟩
      · exact absurd q1 (hx' j (by omega))
      · exact q2)]
    rfl
theorem C_deedY {k : Nat} (hk : k ≤ 6) (m : mB) : FX0_isDeed (i3 (100 + mi (3 + k))) m = some 1 := by
  rcases (by omega : k = 0 ∨ k = 1 ∨ k = 2 ∨ k = 3 ∨ k = 4 ∨ k = 5 ∨ k = 6) with e | e | e | e | e | e | e <;> subst e <;> rfl
theorem C_deedN {x : Int32} (h : ∀ k, k ≤ 6 → x ≠ i3 (100 + mi (3 + k))) (m : mB) : FX0_isDeed x m = some 0 := by
  unfold FX0_isDeed
  rw [if_neg (show ¬ x = 102 from h 0 (by omega)), if_neg (show ¬ x = 103 from h 3 (by omega))]
  by_cases q : x < 105
  · rw [if_pos q]
  · rw [if_neg q]
    by_cases q2 : 109 < x
    · rw [if_pos q2]
    · exfalso
      obtain ⟨v, rfl, hv⟩ := i3_of (x := x) (fun w => q (by
        rw [Int32.lt_iff_toInt_lt] at w ⊢
        have e0 : (0 : Int32).toInt = 0 := rfl
        have e1 : (105 : Int32).toInt = 105 := rfl
        omega))
      have a1 : ¬ i3 v < i3 105 := q
      have a2 : ¬ i3 109 < i3 v := q2
      rw [i3_lt (by omega) (by omega)] at a1 a2
      rcases (by omega : v = 105 ∨ v = 106 ∨ v = 107 ∨ v = 108 ∨ v = 109) with e | e | e | e | e <;> subst e
      · exact h 1 (by omega) rfl
      · exact h 2 (by omega) rfl
      · exact h 4 (by omega) rfl
      · exact h 5 (by omega) rfl
      · exact h 6 (by omega) rfl
theorem RLc {k : Nat} (hk : k ≤ 6) (h6 : c.1 1 6 = i3 (100 + mi (3 + k))) (hl : c.1 169 4 = i3 l) (hl40 : l < 40) : FX0_readLine 169 1 4 c = Option.bind (FX10_advance 1 (mx_up c.1 170 l (i3 (100 + mi (3 + k))), c.2)) (Fk k) := by
  unfold FX0_readLine FX10_kind
  rw [h6, ob_some, C_deedY hk, ob_some, if_neg (show ¬ (1 : Int32) = 0 by decide), hl, if_neg (i3_ge0 (by omega)), if_pos (by show i3 l < i3 40; rw [i3_lt (by omega) (by omega)]; exact hl40), mx_inb_i3 (by omega) (by omega), mx_chkT, i3_toNat (by omega), mx_letI]
  show Option.bind (FX10_advance 1 (mx_up c.1 170 l (i3 (100 + mi (3 + k))), c.2)) _ = _
  congr 1
  funext r10
  rcases (by omega : k = 0 ∨ k = 1 ∨ k = 2 ∨ k = 3 ∨ k = 4 ∨ k = 5 ∨ k = 6) with e | e | e | e | e | e | e <;> subst e <;> rfl
def m14 (m : mB) (l k : Nat) : mB := (mx_up (mx_up (mx_up m.1 246 (4 * l) (i3 k)) 246 (4 * l + 2) 0) 246 (4 * l + 3) 0, m.2)
theorem RBm {m : mB} {k : Nat} (hk : k ≤ 6) (hw7 : FX12_readBookLine_L4 222 m mx_FU (-1) 0 = some (i3 k)) (hl : m.1 222 55 = i3 l) (hl40 : l < 40) : FX12_readBookLine 222 m = Option.bind (FX12_go 222 (m14 m l k)) (fun r16 => Option.bind (Gk l k r16) eE) := by
  unfold FX12_readBookLine
  rw [hw7, ob_some, if_neg (fun q => (i3_ne1 (a := k) (by omega)).mp q), hl, if_neg (by show ¬ i3 l = i3 40; rw [i3_eq (by omega) (by omega)]; omega), mx_letI, i3_Lmul, mx_inb_i3 (by omega) (by omega), mx_chkT, mx_letI, i3_addL, mx_inb_i3 (by omega) (by omega), mx_chkT, mx_letI, i3_addL, mx_inb_i3 (by omega) (by omega), mx_chkT, mx_letI, i3_succ, i3_toNat (by omega), i3_toNat (by omega), i3_toNat (by omega)]
  show Option.bind (FX12_go 222 (m14 m l k)) _ = _
  congr 1
  funext r16
  simp only [mx_letI]
  rcases (by omega : k = 0 ∨ k = 1 ∨ k = 2 ∨ k = 3 ∨ k = 4 ∨ k = 5 ∨ k = 6) with e | e | e | e | e | e | e <;> subst e
  · rw [if_neg (show ¬ i3 0 = 4 by decide), if_neg (show ¬ i3 0 = 5 by decide)]
    show _ = Option.bind (Option.bind (Option.bind (FX12_readPointName 222 r16) _) _) _
    cases FX12_readPointName 222 r16 with
    | none => rfl
    | some s =>
      rw [ob_some, ob_some]
      cases FX12_keep 222 (i3 (4 * l + 1)) s.1 s.2 with
      | none => rfl
      | some r =>
        rw [ob_some, ob_some]
        by_cases q : r.1 = 0
        · simp [q, eE]
        · rw [if_neg q, if_pos (show i3 0 = 0 from rfl), if_neg q]
          cases FX12_readOther 222 (i3 (4 * l + 1)) r.2 with
          | none => rfl
          | some r2 =>
            rw [ob_some, ob_some]
            by_cases q2 : r2.1 = 0
            · simp [q2, eE]
            · rw [if_neg q2, if_neg (show ¬ i3 0 = 2 by decide), if_neg q2, if_neg (show ¬ i3 0 = 3 by decide), if_neg (show ¬ i3 0 = 4 by decide)]
              rfl
  · rw [if_neg (show ¬ i3 1 = 4 by decide), if_neg (show ¬ i3 1 = 5 by decide)]
    show _ = Option.bind (Option.bind (FX12_readPointName 222 r16) _) _
    cases FX12_readPointName 222 r16 with
    | none => rfl
    | some s =>
      rw [ob_some, ob_some]
      cases FX12_keep 222 (i3 (4 * l + 1)) s.1 s.2 with
      | none => rfl
      | some r =>
        rw [ob_some, ob_some]
        by_cases q : r.1 = 0
        · simp [q, eE]
        · rw [if_neg q, if_neg (show ¬ i3 1 = 0 by decide), if_neg (show ¬ i3 1 = 2 by decide), if_neg q, if_neg (show ¬ i3 1 = 2 by decide), if_neg q, if_neg (show ¬ i3 1 = 3 by decide), if_neg (show ¬ i3 1 = 4 by decide)]
          rfl
  · rw [if_neg (show ¬ i3 2 = 4 by decide), if_neg (show ¬ i3 2 = 5 by decide)]
    show _ = Option.bind (Option.bind (Option.bind (Option.bind (FX12_readPointName 222 r16) _) _) _) _
    cases FX12_readPointName 222 r16 with
    | none => rfl
    | some s =>
      rw [ob_some, ob_some]
      cases FX12_keep 222 (i3 (4 * l + 1)) s.1 s.2 with
      | none => rfl
      | some r =>
        rw [ob_some, ob_some]
        by_cases q : r.1 = 0
        · simp [q, eE, gT]
        · rw [if_neg q, if_neg (show ¬ i3 2 = 0 by decide), if_pos (show i3 2 = 2 from rfl), if_neg q]
          cases FX12_readOther 222 (i3 (4 * l + 1)) r.2 with
          | none => rfl
          | some r2 =>
            rw [ob_some, ob_some]
            by_cases q2 : r2.1 = 0
            · simp [q2, eE, gT]
            · rw [if_neg q2, if_pos (show i3 2 = 2 from rfl)]
              show _ = Option.bind (gT l 1 99 r2) eE
              unfold gT
              rw [if_neg q2]
              cases FX12_readNumber 222 1 99 r2.2 with
              | none => rfl
              | some s2 =>
                rw [ob_some, ob_some]
                cases FX12_keep 222 (i3 (4 * l + 3)) s2.1 s2.2 with
                | none => rfl
                | some r3 =>
                  rw [ob_some, ob_some]
                  by_cases q3 : r3.1 = 0
                  · simp [q3, eE]
                  · rw [if_neg q3, if_neg (show ¬ i3 2 = 3 by decide), if_neg (show ¬ i3 2 = 4 by decide)]
                    rfl
  · rw [if_neg (show ¬ i3 3 = 4 by decide), if_neg (show ¬ i3 3 = 5 by decide)]
    show _ = Option.bind (Option.bind (Option.bind (FX12_readPointName 222 r16) _) _) _
    cases FX12_readPointName 222 r16 with
    | none => rfl
    | some s =>
      rw [ob_some, ob_some]
      cases FX12_keep 222 (i3 (4 * l + 1)) s.1 s.2 with
      | none => rfl
      | some r =>
        rw [ob_some, ob_some]
        by_cases q : r.1 = 0
        · simp [q, eE, gT]
        · rw [if_neg q, if_neg (show ¬ i3 3 = 0 by decide), if_neg (show ¬ i3 3 = 2 by decide), if_neg q, if_neg (show ¬ i3 3 = 2 by decide), if_neg q, if_pos (show i3 3 = 3 from rfl)]
          show _ = Option.bind (gT l 0 400 r) eE
          unfold gT
          rw [if_neg q]
          cases FX12_readNumber 222 0 400 r.2 with
          | none => rfl
          | some s2 =>
            rw [ob_some, ob_some]
            cases FX12_keep 222 (i3 (4 * l + 3)) s2.1 s2.2 with
            | none => rfl
            | some r3 => rfl
  · rw [if_pos (show i3 4 = 4 from rfl)]
    show _ = Option.bind (Option.bind (Option.bind (FX12_readNumber 222 0 5 r16) _) _) _
    cases FX12_readNumber 222 0 5 r16 with
    | none => rfl
    | some s =>
      rw [ob_some, ob_some]
      cases FX12_keep 222 (i3 (4 * l + 1)) s.1 s.2 with
      | none => rfl
      | some r =>
        rw [ob_some, ob_some]
        by_cases q : r.1 = 0
        · simp [q, eE, gT]
        · rw [if_neg q, if_neg (show ¬ i3 4 = 0 by decide), if_neg (show ¬ i3 4 = 2 by decide), if_neg q, if_neg (show ¬ i3 4 = 2 by decide), if_neg q, if_neg (show ¬ i3 4 = 3 by decide), if_pos (show i3 4 = 4 from rfl)]
          show _ = Option.bind (gT l 0 400 r) eE
          unfold gT
          rw [if_neg q]
          cases FX12_readNumber 222 0 400 r.2 with
          | none => rfl
          | some s2 =>
            rw [ob_some, ob_some]
            cases FX12_keep 222 (i3 (4 * l + 3)) s2.1 s2.2 with
            | none => rfl
            | some r3 => rfl
  · rw [if_neg (show ¬ i3 5 = 4 by decide), if_pos (show i3 5 = 5 from rfl)]
    show _ = Option.bind (Option.bind (FX12_readNumber 222 0 5 r16) _) _
    cases FX12_readNumber 222 0 5 r16 with
    | none => rfl
    | some s =>
      rw [ob_some, ob_some]
      cases FX12_keep 222 (i3 (4 * l + 1)) s.1 s.2 with
      | none => rfl
      | some r =>
        rw [ob_some, ob_some]
        by_cases q : r.1 = 0
        · simp [q, eE]
        · rw [if_neg q, if_neg (show ¬ i3 5 = 0 by decide), if_neg (show ¬ i3 5 = 2 by decide), if_neg q, if_neg (show ¬ i3 5 = 2 by decide), if_neg q, if_neg (show ¬ i3 5 = 3 by decide), if_neg (show ¬ i3 5 = 4 by decide)]
          rfl
  · rw [if_neg (show ¬ i3 6 = 4 by decide), if_neg (show ¬ i3 6 = 5 by decide)]
    show _ = Option.bind (Option.bind (FX12_readPointName 222 r16) _) _
    cases FX12_readPointName 222 r16 with
    | none => rfl
    | some s =>
      rw [ob_some, ob_some]
      cases FX12_keep 222 (i3 (4 * l + 1)) s.1 s.2 with
      | none => rfl
      | some r =>
        rw [ob_some, ob_some]
        by_cases q : r.1 = 0
        · simp [q, eE]
        · rw [if_neg q, if_neg (show ¬ i3 6 = 0 by decide), if_neg (show ¬ i3 6 = 2 by decide), if_neg q, if_neg (show ¬ i3 6 = 2 by decide), if_neg q, if_neg (show ¬ i3 6 = 3 by decide), if_neg (show ¬ i3 6 = 4 by decide)]
          rfl
end BOOKC
