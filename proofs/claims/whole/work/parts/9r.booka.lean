/-! ===== a book's lines are read ===== -/
theorem hb_bind2 {α β γ δ ε : Type} {x : Option α} {y : Option β} {f : β → Option γ} {F : α → Option δ} {g : γ → Option ε} {P : α → γ → Prop} {Q : δ → ε → Prop} (h : hb x (Option.bind y f) P) (hp : ∀ a b, P a b → hb (F a) (g b) Q) : hb (Option.bind x F) (Option.bind y (fun z => Option.bind (f z) g)) Q := by
  obtain ⟨a, b, e1, e2, p⟩ := h
  cases y with
  | none => cases e2
  | some v =>
    rw [e1, ob_some, ob_some]
    rw [ob_some] at e2
    rw [e2]
    exact hp a b p
section BOOKA
variable {c c' d d' : mB} {n lim p l P : Nat} {t : Nat → Nat}
def X1 (q l : Nat) : Nat → Nat → Prop := fun b j => U1 b j ∨ (b = q ∧ j = l)
def X2 (w : Nat) : Nat → Nat → Prop := fun b j => U2 b j ∨ (b = 246 ∧ j = w)
/-- an item of a line: row q of the class, place w of the reference -/
def IT (c d : mB) (n lim : Nat) (t : Nat → Nat) (p l q w : Nat) (A : Nat → Prop) (r s : Int32 × mB) : Prop :=
  (∃ x p', A x ∧ r.1 = 1 ∧ s.1 = 1 ∧ r.2.1 q l = i3 x ∧ s.2.1 246 w = i3 x ∧ PR r.2 s.2 n lim t p' ∧ p < p' ∧ mx_out (X1 q l) c r.2 ∧ mx_out (X2 w) d s.2) ∨
  (r.1 = 0 ∧ s.1 = 0 ∧ FL r.2 s.2 ∧ mx_out (X1 q l) c r.2 ∧ mx_out (X2 w) d s.2)
theorem B_store {T R : Option (Int32 × mB)} {A : Nat → Prop} {q w : Nat} (hq : 170 ≤ q) (hw160 : w < 160) (hl : c.1 169 4 = i3 l) (hl40 : l < 40)
    (h : hb T R (fun r s => (∃ v p', A v ∧ v < 1000 ∧ r.1 = i3 v ∧ s.1 = 1 ∧ s.2.1 222 13 = i3 v ∧ RS c d n lim t p r.2 s.2 p') ∨ (r.1 = -1 ∧ s.1 = 0 ∧ RF c d r.2 s.2))) :
    hb (Option.bind T (fun r1 => (if r1.1 = (-1) then (some ((0 : Int32), r1.2)) else (if (r1.2.1 169 4) < 0 then (some (0, r1.2)) else (if (r1.2.1 169 4) < 40 then mx_chk (mx_inb (r1.2.1 169 4) 40) (mx_let (mx_up r1.2.1 q (Int32.toNatClampNeg (r1.2.1 169 4)) r1.1, r1.2.2) (fun m5 => (some (1, m5)))) else (some (0, r1.2)))))))
      (Option.bind R (fun s => FX12_keep 222 (i3 w) s.1 s.2)) (IT c d n lim t p l q w A) := by
  refine hb_bind h (fun r s hrs => ?_)
  obtain ⟨r1, c1⟩ := r
  obtain ⟨s1, d1⟩ := s
  dsimp only at hrs ⊢
  unfold FX12_keep
  rcases hrs with ⟨v, p', hA, hv, q1, q2, q3, r1', r2, r3, r4⟩ | ⟨q1, q2, r1', r2, r3⟩
  · subst q1 q2
    have e4 : c1.1 169 4 = i3 l := by rw [r3.fld 169 4 (by unfold U1; omega)]; exact hl
    rw [if_neg (fun q => (i3_ne1 (a := v) (by omega)).mp q), e4, if_neg (i3_ge0 (by omega)), if_pos (by show i3 l < i3 40; rw [i3_lt (by omega) (by omega)]; exact hl40), mx_inb_i3 (by omega) (by omega), mx_chkT, i3_toNat (by omega), mx_letI, if_neg (show ¬ (1 : Int32) = 0 by decide), mx_inb_i3 (by omega) (by omega), mx_chkT, i3_toNat (by omega), mx_letI, q3]
    have zc : mx_out (fun b j => b = q ∧ j = l) c1 (mx_up c1.1 q l (i3 v), c1.2) := mx_out_up mx_out.rf rfl ⟨rfl, rfl⟩
    have zd : mx_out (fun b j => b = 246 ∧ j = w) d1 (mx_up d1.1 246 w (i3 v), d1.2) := mx_out_up mx_out.rf rfl ⟨rfl, rfl⟩
    refine hb_some (Or.inl ⟨v, p', hA, rfl, rfl, mx_up_self c1.1 q l _, mx_up_self d1.1 246 w _, PR_mv r1' zc zd (fun b j q => by omega) (fun b j q => by omega), r2, mx_out.tr (r3.sub (fun b j q => Or.inl q)) (zc.sub (fun b j q => Or.inr q)), mx_out.tr (r4.sub (fun b j q => Or.inl q)) (zd.sub (fun b j q => Or.inr q))⟩)
  · subst q1 q2
    rw [if_pos rfl, if_pos rfl]
    exact hb_some (Or.inr ⟨rfl, rfl, r1', r2.sub (fun b j q => Or.inl q), r3.sub (fun b j q => Or.inl q)⟩)
/-- names on both sides -/
def NmB (P : Nat) (c d : mB) : Prop := P ≤ 10 ∧ c.1 4 0 = i3 P ∧ d.1 224 0 = i3 P ∧ Nms c d 4 230 P
theorem NmB_mv {S T : Nat → Nat → Prop} (h : NmB P c d) (zc : mx_out S c c') (zd : mx_out T d d') (hS : ∀ b j, S b j → b ≠ 4 ∧ b ≠ 5) (hT : ∀ b j, T b j → b ≠ 224 ∧ b ≠ 230) : NmB P c' d' := by
  obtain ⟨h1, h2, h3, h4⟩ := h
  refine ⟨h1, by rw [zc.fld 4 0 (fun q => (hS 4 0 q).1 rfl)]; exact h2, by rw [zd.fld 224 0 (fun q => (hT 224 0 q).1 rfl)]; exact h3, fun i hi => ?_⟩
  rw [zc.cellL (4 + 1) (fun j q => (hS _ j q).2 rfl), zd.cellL 230 (fun j q => (hT _ j q).2 rfl)]
  exact h4 i hi
theorem B_first (h : PR c d n lim t p) (hN : NmB P c d) (hl : c.1 169 4 = i3 l) (hl40 : l < 40) : hb (FX0_readFirst 169 1 4 c) (Option.bind (FX12_readPointName 222 d) (fun s => FX12_keep 222 (i3 (4 * l + 1)) s.1 s.2)) (IT c d n lim t p l 171 (4 * l + 1) (fun x => x < P)) := by
  refine B_store (q := 171) (by omega) (by omega) hl hl40 (hb_mono (PR_point h hN.1 hN.2.1 hN.2.2.1 hN.2.2.2) (fun r s q => ?_))
  rcases q with ⟨i, p', h1, h2, h3, h4, h5⟩ | q
  · exact Or.inl ⟨i, p', h1, by have := hN.1; omega, h2, h3, h4, h5⟩
  · exact Or.inr q
theorem B_number (h : PR c d n lim t p) (hl : c.1 169 4 = i3 l) (hl40 : l < 40) : hb (FX0_readNumber 169 1 c) (Option.bind (FX12_readNumber 222 0 5 d) (fun s => FX12_keep 222 (i3 (4 * l + 1)) s.1 s.2)) (IT c d n lim t p l 171 (4 * l + 1) (fun x => x ≤ 5)) := by
  refine B_store (q := 171) (by omega) (by omega) hl hl40 (hb_mono (PR_num (a := 0) (b := 5) h (by omega) (by omega)) (fun r s q => ?_))
  rcases q with ⟨i, p', h0, h1, h2, h3, h4, h5⟩ | q
  · exact Or.inl ⟨i, p', h1, by omega, h2, h3, h4, h5⟩
  · exact Or.inr q
theorem B_third (h : PR c d n lim t p) (hl : c.1 169 4 = i3 l) (hl40 : l < 40) {lo hi : Nat} (h1 : lo < 1000) (h2 : hi < 1000) : hb (FX0_readThird 169 1 (i3 lo) (i3 hi) c) (Option.bind (FX12_readNumber 222 (i3 lo) (i3 hi) d) (fun s => FX12_keep 222 (i3 (4 * l + 3)) s.1 s.2)) (IT c d n lim t p l 173 (4 * l + 3) (fun x => lo ≤ x ∧ x ≤ hi)) := by
  refine B_store (q := 173) (by omega) (by omega) hl hl40 (hb_mono (PR_num (a := lo) (b := hi) h h1 h2) (fun r s q => ?_))
  rcases q with ⟨i, p', h0, h1, h2, h3, h4, h5⟩ | q
  · exact Or.inl ⟨i, p', ⟨h0, h1⟩, by omega, h2, h3, h4, h5⟩
  · exact Or.inr q
/-- another point than the one ahead -/
theorem B_other (h : PR c d n lim t p) (hN : NmB P c d) (hl : c.1 169 4 = i3 l) (hl40 : l < 40) {x : Nat} (hx : x < P) (h1 : c.1 171 l = i3 x) (g1 : d.1 246 (4 * l + 1) = i3 x) :
    hb (Option.bind (FX10_pointHere 1 4 c) (fun r3 => (if r3.1 = (-1) then (some ((0 : Int32), r3.2)) else (if (r3.2.1 169 4) < 0 then (some (0, r3.2)) else (if (r3.2.1 169 4) < 40 then mx_chk (mx_inb (r3.2.1 169 4) 40) ((if r3.1 = (r3.2.1 171 (Int32.toNatClampNeg (r3.2.1 169 4))) then Option.bind (FX10_fail 1 3 r3.2) (fun r11 => mx_chk (mx_b01 r11.1) ((some (r11.1, r11.2)))) else mx_let (mx_up r3.2.1 172 (Int32.toNatClampNeg (r3.2.1 169 4)) r3.1, r3.2.2) (fun m9 => Option.bind (FX10_advance 1 m9) (fun r10 => (some (1, r10)))))) else (some (0, r3.2)))))))
      (FX12_readOther 222 (i3 (4 * l + 1)) d) (IT c d n lim t p l 172 (4 * l + 2) (fun y => y < P)) := by
  obtain ⟨hk, h0, g0, hn⟩ := hN
  unfold FX10_pointHere FX12_readOther
  rw [i3_succ]
  rcases PR_isName h with ⟨w, ⟨w1, w2, w3, w4, w5, w6⟩, htk, e1⟩ | ⟨q1, e1⟩
  · have g0' : d.1 (222 + 2) 0 = i3 P := g0
    rw [if_pos w3, e1, ob_some, if_neg (show ¬ (1 : Int32) = 0 by decide), w4, C_named hk h0 hn w1, ob_some, g0', w6]
    show hb _ (Option.bind (FX12_findIn 230 10 0 (i3 P) (Int64.ofNat (p27 w)) d) _) _
    rw [M_nix hk, ob_some, mx_inb_i3 (by omega) (by omega), mx_chkT, mx_inb_i3 (by omega) (by omega), i3_toNat (by omega), i3_toNat (by omega), mx_letI]
    have hlt : ∀ i, nix d 230 P w = some i → i < P := fun i e => (ff_some.mp e).1
    have z : mx_out (fun b j => b = 246 ∧ j = 4 * l + 2) d (mx_up d.1 246 (4 * l + 2) (oi (nix d 230 P w)), d.2) := mx_out_up mx_out.rf rfl ⟨rfl, rfl⟩
    have e13 : (mx_up d.1 246 (4 * l + 2) (oi (nix d 230 P w)), d.2).1 246 (4 * l + 2) = oi (nix d 230 P w) := mx_up_self d.1 246 _ _
    have h' : PR c (mx_up d.1 246 (4 * l + 2) (oi (nix d 230 P w)), d.2) n lim t p := PR_mv h (S := fun _ _ => False) mx_out.rf z (fun b j q => q.elim) (fun b j q => by omega)
    have e1x : (mx_up d.1 246 (4 * l + 2) (oi (nix d 230 P w)), d.2).1 246 (4 * l + 1) = i3 x := by rw [z.fld 246 (4 * l + 1) (by omega)]; exact g1
    have h7 : (mx_up d.1 246 (4 * l + 2) (oi (nix d 230 P w)), d.2).1 222 7 = 1 → (3 : Int32) = 1 := fun q => by rw [z.fld 222 7 (by omega), w5] at q; exact absurd q (by decide)
    show hb _ (if (mx_up d.1 246 (4 * l + 2) (oi (nix d 230 P w)), d.2).1 246 (4 * l + 2) = -1 then (Option.bind (FX12_bad 222 3 (mx_up d.1 246 (4 * l + 2) (oi (nix d 230 P w)), d.2)) _) else mx_chk true (if (mx_up d.1 246 (4 * l + 2) (oi (nix d 230 P w)), d.2).1 246 (4 * l + 2) = (mx_up d.1 246 (4 * l + 2) (oi (nix d 230 P w)), d.2).1 246 (4 * l + 1) then (Option.bind (FX12_bad 222 3 (mx_up d.1 246 (4 * l + 2) (oi (nix d 230 P w)), d.2)) _) else (Option.bind (FX12_go 222 (mx_up d.1 246 (4 * l + 2) (oi (nix d 230 P w)), d.2)) _))) _
    rw [e13, e1x, mx_chkT]
    cases e : nix d 230 P w with
    | none =>
      rw [e] at h' z h7
      rw [if_pos (show oi none = -1 from rfl), if_pos (show oi none = -1 from rfl)]
      obtain ⟨c1, d1, f1, f2, r1, r2, r3⟩ := PR_no h' (x := 3) h7
      show hb (Option.bind (Option.bind (FX10_fail 1 3 c) _) _) (Option.bind (FX12_bad 222 3 (mx_up d.1 246 (4 * l + 2) (oi none), d.2)) _) _
      rw [f1, f2, ob_some, ob_some, ob_some]
      exact hb_some (Or.inr ⟨rfl, rfl, r1, r2.sub (fun b j q => Or.inl q), mx_out.tr (z.sub (fun b j q => Or.inr q)) (r3.sub (fun b j q => Or.inl q))⟩)
    | some i =>
      have hi := hlt i e
      rw [e] at z e13 h' h7
      have hni : ¬ oi (some i) = -1 := fun q => (i3_ne1 (a := i) (by omega)).mp q
      rw [if_neg hni, if_neg hni, ob_some]
      dsimp only
      rw [if_neg hni, hl, if_neg (i3_ge0 (by omega)), if_pos (by show i3 l < i3 40; rw [i3_lt (by omega) (by omega)]; exact hl40), mx_inb_i3 (by omega) (by omega), mx_chkT, i3_toNat (by omega), h1]
      have ei : (oi (some i) = i3 x) ↔ i = x := by show i3 i = i3 x ↔ _; exact i3_eq (by omega) (by omega)
      by_cases ex : i = x
      · rw [if_pos (ei.mpr ex), if_pos (ei.mpr ex)]
        obtain ⟨c1, d1, f1, f2, r1, r2, r3⟩ := PR_no h' (x := 3) h7
        show hb (Option.bind (FX10_fail 1 3 c) _) (Option.bind (FX12_bad 222 3 (mx_up d.1 246 (4 * l + 2) (oi (some i)), d.2)) _) _
        rw [f1, f2, ob_some, ob_some]
        exact hb_some (Or.inr ⟨rfl, rfl, r1, r2.sub (fun b j q => Or.inl q), mx_out.tr (z.sub (fun b j q => Or.inr q)) (r3.sub (fun b j q => Or.inl q))⟩)
      · rw [if_neg (fun q => ex (ei.mp q)), if_neg (fun q => ex (ei.mp q)), mx_letI]
        have zc : mx_out (fun b j => b = 172 ∧ j = l) c (mx_up c.1 172 l (oi (some i)), c.2) := mx_out_up mx_out.rf rfl ⟨rfl, rfl⟩
        have h2 : PR (mx_up c.1 172 l (oi (some i)), c.2) (mx_up d.1 246 (4 * l + 2) (oi (some i)), d.2) n lim t p := PR_mv h' zc (T := fun _ _ => False) mx_out.rf (fun b j q => by omega) (fun b j q => q.elim)
        obtain ⟨c1, d1, f1, f2, r1, r2, r3, r4⟩ := PR_go h2 htk
        show hb (Option.bind (FX10_advance 1 (mx_up c.1 172 l (oi (some i)), c.2)) _) (Option.bind (FX12_go 222 (mx_up d.1 246 (4 * l + 2) (oi (some i)), d.2)) _) _
        rw [f1, f2, ob_some, ob_some]
        refine hb_some (Or.inl ⟨i, tnx n lim t p, hi, rfl, rfl, ?_, ?_, r1, r2, mx_out.tr (zc.sub (fun b j q => Or.inr q)) (r3.sub (fun b j q => Or.inl q)), mx_out.tr (z.sub (fun b j q => Or.inr q)) (r4.sub (fun b j q => Or.inl q))⟩)
        · show c1.1 172 l = _
          rw [r3.fld 172 l (by unfold U1; omega)]; exact mx_up_self c.1 172 l _
        · show d1.1 246 (4 * l + 2) = _
          rw [r4.fld 246 _ (by unfold U2; omega)]; exact e13
  · rw [if_neg q1, e1, ob_some, if_pos rfl]
    obtain ⟨c1, d1, f1, f2, r1, r2, r3⟩ := PR_no h (x := 1) (fun _ => rfl)
    rw [f1, f2, ob_some, ob_some, ob_some]
    exact hb_some (Or.inr ⟨rfl, rfl, r1, r2.sub (fun b j q => Or.inl q), r3.sub (fun b j q => Or.inl q)⟩)
end BOOKA
