/-! ===== slots of the class ===== -/
def SE (slot : Nat) : Nat → Nat → Prop := fun b j => (b = 58 ∧ j = slot) ∨ (b = 59 ∧ j = slot) ∨ ((b = 60 ∨ b = 61) ∧ slot * 6 ≤ j ∧ j < slot * 6 + 6)
def WA (m : mB) (slot j : Nat) (L : List (Nat × Nat)) : Prop := m.1 60 (slot * 6 + j) = i3 (wy L j) ∧ ∃ h, m.1 61 (slot * 6 + j) = z3 h ∧ isHv L j h
/-- a slot sums up a list -/
def SLT (m : mB) (slot : Nat) (L : List (Nat × Nat)) : Prop := (∃ t s, m.1 58 slot = z3 t ∧ m.1 59 slot = z3 s ∧ isTS L t s) ∧ ∀ j, j < 6 → WA m slot j L
/-- a list that isn't too long nor its totals too great -/
def LB (L : List (Nat × Nat)) : Prop := L.length ≤ 1000000 ∧ ∀ x ∈ L, x.1 ≤ 1000 ∧ x.2 ≤ 5
theorem isHv_b {L : List (Nat × Nat)} {k : Nat} {t : Int} (h : isHv L k t) (hb : ∀ x ∈ L, x.1 ≤ 1000) : -1 ≤ t ∧ t ≤ 1000 := by
  rcases h with ⟨rfl, -⟩ | ⟨x, hx, -, h2, -⟩
  · omega
  · have := hb x hx; omega
theorem isTS_b {L : List (Nat × Nat)} {t s : Int} (h : isTS L t s) (hb : ∀ x ∈ L, x.1 ≤ 1000) : -1 ≤ t ∧ t ≤ 1000 ∧ -1 ≤ s ∧ s ≤ 1000 := by
  rcases h with ⟨rfl, rfl, -⟩ | ⟨⟨x, hx, h1⟩, -, h3⟩
  · omega
  · have := hb x hx
    rcases h3 with ⟨rfl, -⟩ | ⟨⟨y, hy, i1⟩, -, -⟩
    · omega
    · have := hb y hy; omega
theorem wy_le (L : List (Nat × Nat)) (k : Nat) : wy L k ≤ L.length := List.countP_le_length
theorem wy_pos {L : List (Nat × Nat)} {k : Nat} : 0 < wy L k ↔ ∃ x ∈ L, x.2 = k := by
  unfold wy
  rw [List.countP_pos_iff]
  constructor
  · rintro ⟨x, hx, h⟩; exact ⟨x, hx, of_decide_eq_true h⟩
  · rintro ⟨x, hx, h⟩; exact ⟨x, hx, decide_eq_true h⟩
section SLOT
variable {m m1 : mB} {slot other : Nat} {L L' : List (Nat × Nat)}
theorem SLT_mv (h : SLT m slot L) (h58 : m1.1 58 slot = m.1 58 slot) (h59 : m1.1 59 slot = m.1 59 slot) (h6 : ∀ j, j < 6 → m1.1 60 (slot * 6 + j) = m.1 60 (slot * 6 + j) ∧ m1.1 61 (slot * 6 + j) = m.1 61 (slot * 6 + j)) : SLT m1 slot L := by
  refine ⟨by rw [h58, h59]; exact h.1, fun j hj => ?_⟩
  unfold WA
  rw [(h6 j hj).1, (h6 j hj).2]
  exact h.2 j hj
theorem C_addTotal (hs : slot < 144) {t s v : Int} (ht : m.1 58 slot = z3 t) (hse : m.1 59 slot = z3 s) (b1 : -1 ≤ t ∧ t ≤ 2000) (b2 : -1 ≤ s ∧ s ≤ 2000) (b3 : -1 ≤ v ∧ v ≤ 2000) :
    ∃ m1, FX2_addTotal 45 (i3 slot) (z3 v) m = some m1 ∧ m1.1 58 slot = z3 (adT t s v).1 ∧ m1.1 59 slot = z3 (adT t s v).2 ∧ mx_out (fun b j => (b = 58 ∧ j = slot) ∨ (b = 59 ∧ j = slot)) m m1 := by
  unfold FX2_addTotal
  rw [mx_inb_i3 hs (by omega), mx_chkT, i3_toNat (by omega)]
  have e1 := z3_le (a := v) (b := t) (by omega) (by omega) (by omega) (by omega)
  have e2 := z3_le (a := t) (b := v) (by omega) (by omega) (by omega) (by omega)
  have e3 := z3_le (a := v) (b := s) (by omega) (by omega) (by omega) (by omega)
  unfold adT
  show ∃ m1, (if z3 v ≤ m.1 58 slot then (if m.1 58 slot ≤ z3 v then some m else (if z3 v ≤ m.1 59 slot then some m else mx_let (mx_up m.1 59 slot (z3 v), m.2) (fun m5 => some m5))) else mx_let (mx_up m.1 59 slot (m.1 58 slot), m.2) (fun m6 => mx_let (mx_up m6.1 58 slot (z3 v), m6.2) (fun m7 => some m7))) = some m1 ∧ _
  rw [ht, hse]
  by_cases c1 : v ≤ t
  · rw [if_pos (e1.mpr c1)]
    have n1 : ¬ v > t := by omega
    simp only [if_neg n1]
    by_cases c2 : t ≤ v
    · rw [if_pos (e2.mpr c2), if_neg (by omega)]
      exact ⟨m, rfl, ht, hse, mx_out.rf⟩
    · rw [if_neg (fun q => c2 (e2.mp q))]
      by_cases c3 : v ≤ s
      · rw [if_pos (e3.mpr c3), if_neg (by omega)]
        exact ⟨m, rfl, ht, hse, mx_out.rf⟩
      · rw [if_neg (fun q => c3 (e3.mp q)), if_pos ⟨by omega, by omega⟩]
        refine ⟨_, rfl, ?_, mx_up_self m.1 59 slot _, mx_out_up mx_out.rf rfl (Or.inr ⟨rfl, rfl⟩)⟩
        show mx_up m.1 59 slot (z3 v) 58 slot = _
        rw [up_off _ (by omega)]; exact ht
  · rw [if_neg (fun q => c1 (e1.mp q))]
    have n1 : v > t := by omega
    simp only [if_pos n1]
    refine ⟨_, rfl, mx_up_self (mx_up m.1 59 slot (z3 t)) 58 slot _, ?_, mx_out_up (mx_out_up mx_out.rf rfl (Or.inr ⟨rfl, rfl⟩)) rfl (Or.inl ⟨rfl, rfl⟩)⟩
    show mx_up (mx_up m.1 59 slot (z3 t)) 58 slot (z3 v) 59 slot = _
    rw [up_off _ (by omega), mx_up_self]
theorem C_addWays_L (hs : slot < 144) (ho : other < 144) (hne : slot ≠ other) {w more : Nat} (hw9 : w ≤ 99) (hmore : more ≤ 1) (hL : LB L) (hL' : LB L') (h : SLT m slot L) (h' : SLT m other L') :
    hw (FX2_addWays_L3 45 (i3 slot) (i3 other) (i3 w) (i3 more) mx_FU (i3 0) m) (fun m1 => mx_out (fun b j => (b = 60 ∨ b = 61) ∧ slot * 6 ≤ j ∧ j < slot * 6 + 6) m m1 ∧ ∀ j, j < 6 → (more ≤ j → WA m1 slot j (L ++ shl w more L')) ∧ (j < more → WA m1 slot j L)) := by
  refine lp_inv (L := fun fu y m => FX2_addWays_L3 45 (i3 slot) (i3 other) (i3 w) (i3 more) fu y m) (n := 6 - more)
    (fun k m1 => mx_out (fun b j => (b = 60 ∨ b = 61) ∧ slot * 6 ≤ j ∧ j < slot * 6 + 6) m m1 ∧ ∀ j, j < 6 → (more ≤ j → j < k + more → WA m1 slot j (L ++ shl w more L')) ∧ (¬ (more ≤ j ∧ j < k + more) → WA m1 slot j L)) ?_ ?_ 0 mx_FU m (by omega) (FU_lt (by omega)) ⟨mx_out.rf, fun j hj => ⟨fun h1 h2 => by omega, fun _ => h.2 j hj⟩⟩
  · intro fu m1 hm
    show hw (FX2_addWays_L3 45 (i3 slot) (i3 other) (i3 w) (i3 more) (fu + 1) (i3 (6 - more)) m1) _
    rw [FX2_addWays_L3, i3_add, if_pos ((i3_Lle (by omega) (by decide)).mpr (by show 6 ≤ 6 - more + more; omega))]
    exact hw_some ⟨hm.1, fun j hj => ⟨fun h1 => (hm.2 j hj).1 h1 (by omega), fun h1 => (hm.2 j hj).2 (by omega)⟩⟩
  · intro fu k m1 hk hm hs2
    show hw (FX2_addWays_L3 45 (i3 slot) (i3 other) (i3 w) (i3 more) (fu + 1) (i3 k) m1) _
    obtain ⟨z, hA⟩ := hm
    have cell : ∀ j, j < 6 → m1.1 60 (other * 6 + j) = m.1 60 (other * 6 + j) ∧ m1.1 61 (other * 6 + j) = m.1 61 (other * 6 + j) := fun j hj => ⟨z.fld 60 _ (by omega), z.fld 61 _ (by omega)⟩
    obtain ⟨w1, hh, w2, w3⟩ := h'.2 k (by omega)
    rw [← (cell k (by omega)).1] at w1
    rw [← (cell k (by omega)).2] at w2
    obtain ⟨v1, hv, v2, v3⟩ := (hA (k + more) (by omega)).2 (by omega)
    have hbh := isHv_b w3 (fun x hx => (hL'.2 x hx).1)
    have hbv := isHv_b v3 (fun x hx => (hL.2 x hx).1)
    have hw8 := wy_le L' k
    have hw7 := wy_le L (k + more)
    have hlb := hL.1
    have hlb' := hL'.1
    rw [FX2_addWays_L3]
    simp (disch := omega) only [i3_add, i3_mulL, mx_letI, i3_Lle, i3_succ]
    rw [if_neg (by omega), mx_inb_i3 (by omega) (by omega), mx_chkT, i3_toNat (by omega)]
    show hw (if m1.1 60 (other * 6 + k) ≤ 0 then _ else _) _
    rw [w1]
    by_cases c0 : wy L' k = 0
    · rw [c0, if_pos (by decide)]
      refine hs2 m1 ⟨z, fun j hj => ⟨fun h1 h2 => ?_, fun h1 => (hA j hj).2 (by omega)⟩⟩
      by_cases c1 : j < k + more
      · exact (hA j hj).1 h1 c1
      · have : j = k + more := by omega
        subst this
        have hno : ∀ x ∈ L', x.2 ≠ k := fun x hx e => by have := wy_pos.mpr ⟨x, hx, e⟩; omega
        refine ⟨by rw [v1, wy_app, wy_shl, c0, Nat.add_zero], hv, v2, ?_⟩
        have := isHv_app v3 (isHv_shln w more hno)
        rw [if_neg (by omega)] at this
        exact this
    · rw [if_neg (by show ¬ i3 (wy L' k) ≤ i3 0; rw [i3_le (by omega) (by omega)]; omega), mx_inb_i3 (by omega) (by omega), mx_chkT, i3_toNat (by omega)]
      have e60 : m1.1 60 (slot * 6 + k + more) = i3 (wy L (k + more)) := by rw [Nat.add_assoc]; exact v1
      have e61 : m1.1 61 (slot * 6 + k + more) = z3 hv := by rw [Nat.add_assoc]; exact v2
      show hw (Option.bind (FJ9_max_7cf53 (mx_up m1.1 60 (slot * 6 + k + more) (m1.1 60 (slot * 6 + k + more) + i3 (wy L' k)) 61 (slot * 6 + k + more)) (mx_up m1.1 60 (slot * 6 + k + more) (m1.1 60 (slot * 6 + k + more) + i3 (wy L' k)) 61 (other * 6 + k) + i3 w) (mx_up m1.1 60 (slot * 6 + k + more) (m1.1 60 (slot * 6 + k + more) + i3 (wy L' k)), m1.2)) _) _
      rw [up_off _ (by omega), e61, w2, z3_i3 w, z3_add, J_max (by omega) (by omega) (by omega) (by omega), ob_some, e60, i3_add]
      refine hs2 _ ⟨mx_out_up (mx_out_up z rfl ⟨Or.inl rfl, by omega, by omega⟩) rfl ⟨Or.inr rfl, by omega, by omega⟩, fun j hj => ?_⟩
      have r60 : ∀ j, (mx_up (mx_up m1.1 60 (slot * 6 + k + more) (i3 (wy L (k + more) + wy L' k))) 61 (slot * 6 + k + more) (z3 (if hv < hh + (w : Int) then hh + (w : Int) else hv))) 60 j = if j = slot * 6 + k + more then i3 (wy L (k + more) + wy L' k) else m1.1 60 j := fun j => by rw [up_off _ (by omega), up_at]
      have r61 : ∀ j, (mx_up (mx_up m1.1 60 (slot * 6 + k + more) (i3 (wy L (k + more) + wy L' k))) 61 (slot * 6 + k + more) (z3 (if hv < hh + (w : Int) then hh + (w : Int) else hv))) 61 j = if j = slot * 6 + k + more then z3 (if hv < hh + (w : Int) then hh + (w : Int) else hv) else m1.1 61 j := fun j => by rw [up_at, up_off _ (by omega)]
      have old : j ≠ k + more → ∀ LL, WA m1 slot j LL → WA (mx_up (mx_up m1.1 60 (slot * 6 + k + more) (i3 (wy L (k + more) + wy L' k))) 61 (slot * 6 + k + more) (z3 (if hv < hh + (w : Int) then hh + (w : Int) else hv)), m1.2) slot j LL := by
        intro hj2 LL hW
        unfold WA
        rw [show (mx_up (mx_up m1.1 60 (slot * 6 + k + more) (i3 (wy L (k + more) + wy L' k))) 61 (slot * 6 + k + more) (z3 (if hv < hh + (w : Int) then hh + (w : Int) else hv)), m1.2).1 60 (slot * 6 + j) = m1.1 60 (slot * 6 + j) from (r60 _).trans (if_neg (by omega))]
        rw [show (mx_up (mx_up m1.1 60 (slot * 6 + k + more) (i3 (wy L (k + more) + wy L' k))) 61 (slot * 6 + k + more) (z3 (if hv < hh + (w : Int) then hh + (w : Int) else hv)), m1.2).1 61 (slot * 6 + j) = m1.1 61 (slot * 6 + j) from (r61 _).trans (if_neg (by omega))]
        exact hW
      refine ⟨fun h1 h2 => ?_, fun h1 => old (by omega) L ((hA j hj).2 (by omega))⟩
      by_cases c1 : j < k + more
      · exact old (by omega) _ ((hA j hj).1 h1 c1)
      · have : j = k + more := by omega
        subst this
        refine ⟨?_, (if hv < hh + (w : Int) then hh + (w : Int) else hv), ?_, ?_⟩
        · rw [wy_app, wy_shl]
          refine (r60 _).trans ?_
          rw [if_pos (by omega)]
        · refine (r61 _).trans ?_
          rw [if_pos (by omega)]
        · exact isHv_app v3 (isHv_shl w more w3 (wy_pos.mp (by omega)))
theorem C_addWays (hs : slot < 144) (ho : other < 144) (hne : slot ≠ other) {w more : Nat} (hw9 : w ≤ 99) (hmore : more ≤ 1) (hL : LB L) (hL' : LB L') (hn' : L' ≠ []) (h : SLT m slot L) (h' : SLT m other L') :
    ∃ m1, FX2_addWays 45 (i3 slot) (i3 other) (i3 w) (i3 more) m = some m1 ∧ SLT m1 slot (L ++ shl w more L') ∧ mx_out (SE slot) m m1 := by
  obtain ⟨m1, e1, z1, A1⟩ := C_addWays_L hs ho hne hw9 hmore hL hL' h h'
  obtain ⟨t, s, t1, t2, t3⟩ := h.1
  obtain ⟨t', s', u1, u2, u3⟩ := h'.1
  have bt := isTS_b t3 (fun x hx => (hL.2 x hx).1)
  have bu := isTS_b u3 (fun x hx => (hL'.2 x hx).1)
  have c58 : m1.1 58 = m.1 58 := z1.cell 58 (fun j => by omega)
  have c59 : m1.1 59 = m.1 59 := z1.cell 59 (fun j => by omega)
  have ts := isTS_shl w more u3 hn'
  have hsn : shl w more L' ≠ [] := by
    unfold shl
    intro q
    rw [List.map_eq_nil_iff] at q
    exact hn' q
  have comp := isTS_comp t3 ts hsn
  obtain ⟨m2, e2, v1, v2, z2⟩ := C_addTotal (m := m1) hs (t := t) (s := s) (v := t' + w) (by rw [c58]; exact t1) (by rw [c59]; exact t2) (by omega) (by omega) (by omega)
  have d58 : m2.1 58 other = m.1 58 other := by rw [z2.fld 58 other (by omega), c58]
  have d59 : m2.1 59 other = m.1 59 other := by rw [z2.fld 59 other (by omega), c59]
  have c60 : m2.1 60 = m1.1 60 := z2.cell 60 (fun j => by omega)
  have c61 : m2.1 61 = m1.1 61 := z2.cell 61 (fun j => by omega)
  have zz : mx_out (SE slot) m m2 := mx_out.tr (z1.sub (fun b j q => Or.inr (Or.inr q))) (z2.sub (fun b j q => q.elim Or.inl (fun q => Or.inr (Or.inl q))))
  have fin : ∀ m3 : mB, m3.1 60 = m1.1 60 → m3.1 61 = m1.1 61 → ∀ j, j < 6 → WA m3 slot j (L ++ shl w more L') := by
    intro m3 r1 r2 j hj
    by_cases c : more ≤ j
    · have := (A1 j hj).1 c
      unfold WA at this ⊢
      rw [r1, r2]; exact this
    · have hj0 : j = 0 ∧ more = 1 := by omega
      have := (A1 j hj).2 (by omega)
      obtain ⟨x1, hh, x2, x3⟩ := this
      refine ⟨?_, hh, by rw [r2]; exact x2, ?_⟩
      · rw [r1, x1, wy_app, hj0.1, hj0.2, wy_shl0, Nat.add_zero]
      · have hb := isHv_b x3 (fun x hx => (hL.2 x hx).1)
        have hno : isHv (shl w more L') j (-1) := by
          left
          refine ⟨rfl, fun z hz => ?_⟩
          obtain ⟨y, hy, rfl⟩ := List.mem_map.mp hz
          simp
          omega
        have := isHv_app x3 hno
        rw [if_neg (by omega)] at this
        exact this
  unfold FX2_addWays
  show ∃ m1, Option.bind (FX2_addWays_L3 45 (i3 slot) (i3 other) (i3 w) (i3 more) mx_FU (i3 0) m) _ = some m1 ∧ _
  rw [e1, ob_some, mx_inb_i3 ho (by omega), mx_chkT, i3_toNat (by omega)]
  show ∃ m9, Option.bind (FX2_addTotal 45 (i3 slot) (m1.1 58 other + i3 w) m1) _ = some m9 ∧ _
  rw [c58, u1, z3_i3 w, z3_add, e2, ob_some]
  show ∃ m9, (if m2.1 59 other = -1 then some m2 else Option.bind (FX2_addTotal 45 (i3 slot) (m2.1 59 other + z3 (w : Int)) m2) (fun r16 => some r16)) = some m9 ∧ _
  rw [d59, u2]
  by_cases c1 : s' = -1
  · rw [if_pos (by rw [c1]; rfl)]
    rw [if_pos c1, if_pos rfl] at comp
    exact ⟨m2, rfl, ⟨⟨_, _, v1, v2, comp⟩, fin m2 c60 c61⟩, zz⟩
  · rw [if_neg (by
      intro q
      have := congrArg Int32.toInt q
      rw [z3_toInt (by omega) (by omega)] at this
      have e : (-1 : Int32).toInt = -1 := by decide
      omega)]
    have hb1 : (adT t s (t' + w)).1 ≤ 2000 ∧ -1 ≤ (adT t s (t' + w)).1 ∧ (adT t s (t' + w)).2 ≤ 2000 ∧ -1 ≤ (adT t s (t' + w)).2 := by
      unfold adT
      dsimp only
      split <;> (try split) <;> omega
    obtain ⟨m3, e3, y1, y2, z3'⟩ := C_addTotal (m := m2) hs (v := s' + w) v1 v2 (by omega) (by omega) (by omega)
    rw [if_neg c1, if_neg (by omega)] at comp
    rw [z3_add, e3]
    refine ⟨m3, rfl, ⟨⟨_, _, y1, y2, comp⟩, fin m3 ?_ ?_⟩, mx_out.tr zz (z3'.sub (fun b j q => q.elim Or.inl (fun q => Or.inr (Or.inl q))))⟩
    · rw [z3'.cell 60 (fun j => by omega)]; exact c60
    · rw [z3'.cell 61 (fun j => by omega)]; exact c61
end SLOT
