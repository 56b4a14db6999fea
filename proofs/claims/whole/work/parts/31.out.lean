/-! ===== what a method leaves alone ===== -/
def mx_out (S : Nat → Nat → Prop) (m m' : mB) : Prop := ∀ b j, ¬ S b j → m'.1 b j = m.1 b j ∧ m'.2 b j = m.2 b j
theorem mx_out.rf {S : Nat → Nat → Prop} {m : mB} : mx_out S m m := fun _ _ _ => ⟨rfl, rfl⟩
theorem mx_out.tr {S : Nat → Nat → Prop} {m m1 m2 : mB} (h : mx_out S m m1) (h' : mx_out S m1 m2) : mx_out S m m2 := fun b j hb => ⟨(h' b j hb).1.trans (h b j hb).1, (h' b j hb).2.trans (h b j hb).2⟩
theorem mx_out.sub {S S' : Nat → Nat → Prop} {m m1 : mB} (h : mx_out S' m m1) (hs : ∀ b j, S' b j → S b j) : mx_out S m m1 := fun b j hb => h b j (fun q => hb (hs b j q))
theorem mx_out.cell {S : Nat → Nat → Prop} {m m1 : mB} (h : mx_out S m m1) (b : Nat) (hb : ∀ j, ¬ S b j) : m1.1 b = m.1 b := funext fun j => (h b j (hb j)).1
theorem mx_out.cellL {S : Nat → Nat → Prop} {m m1 : mB} (h : mx_out S m m1) (b : Nat) (hb : ∀ j, ¬ S b j) : m1.2 b = m.2 b := funext fun j => (h b j (hb j)).2
theorem mx_out.fld {S : Nat → Nat → Prop} {m m1 : mB} (h : mx_out S m m1) (b j : Nat) (hb : ¬ S b j) : m1.1 b j = m.1 b j := (h b j hb).1
theorem mx_out_up {S : Nat → Nat → Prop} {m m1 m2 : mB} {a k : Nat} {x : Int32} (h : mx_out S m m1) (e : m2 = (mx_up m1.1 a k x, m1.2)) (ha : S a k) : mx_out S m m2 := by
  subst e
  intro b j hb
  refine ⟨?_, (h b j hb).2⟩
  show mx_up m1.1 a k x b j = _
  rw [mx_up_ne _ _ (fun q q2 => hb (by rw [q, q2]; exact ha))]
  exact (h b j hb).1
theorem mx_out_ul {S : Nat → Nat → Prop} {m m1 m2 : mB} {a k : Nat} {x : Int64} (h : mx_out S m m1) (e : m2 = (m1.1, mx_ul m1.2 a k x)) (ha : S a k) : mx_out S m m2 := by
  subst e
  intro b j hb
  refine ⟨(h b j hb).1, ?_⟩
  show mx_ul m1.2 a k x b j = _
  unfold mx_ul
  rw [if_neg (fun q => hb (by rw [q.1, q.2]; exact ha))]
  exact (h b j hb).2
theorem mx_out_cp {S : Nat → Nat → Prop} {m m1 m2 : mB} {a0 a n : Nat} (h : mx_out S m m1) (e : m2 = (mx_cp m1.1 a0 a n, m1.2)) (ha : ∀ k, S a k) : mx_out S m m2 := by
  subst e
  intro b j hb
  refine ⟨?_, (h b j hb).2⟩
  show mx_cp m1.1 a0 a n b j = _
  unfold mx_cp
  rw [if_neg (fun q => hb (by rw [q.1]; exact ha j))]
  exact (h b j hb).1
theorem mx_out_cl {S : Nat → Nat → Prop} {m m1 m2 : mB} {a0 a n : Nat} (h : mx_out S m m1) (e : m2 = (m1.1, mx_cl m1.2 a0 a n)) (ha : ∀ k, S a k) : mx_out S m m2 := by
  subst e
  intro b j hb
  refine ⟨(h b j hb).1, ?_⟩
  show mx_cl m1.2 a0 a n b j = _
  unfold mx_cl
  rw [if_neg (fun q => hb (by rw [q.1]; exact ha j))]
  exact (h b j hb).2
def WSX4_clear (a : Nat) : Nat → Nat → Prop := fun b j => (b = a ∧ j = 0) ∨ (b = a ∧ j = 1) ∨ (b = a ∧ j = 2) ∨ (b = a ∧ j = 3) ∨ (b = a ∧ j = 4) ∨ b = a + 8
def WSX4_clear_L27 (q0 : Nat) : Nat → Nat → Prop := fun b j => b = q0 + 8
def WSX4_copyLinksFrom (a p0 : Nat) : Nat → Nat → Prop := fun b j => (b = a ∧ j = 0) ∨ (b = a ∧ j = 1) ∨ b = a + 2 ∨ b = a + 5 ∨ b = a + 6 ∨ b = a + 7 ∨ b = a + 8
def WSX4_copyFrom (a p0 : Nat) : Nat → Nat → Prop := fun b j => (b = a ∧ j = 0) ∨ (b = a ∧ j = 1) ∨ (b = a ∧ j = 2) ∨ (b = a ∧ j = 3) ∨ (b = a ∧ j = 4) ∨ b = a + 1 ∨ b = a + 10 ∨ b = a + 2 ∨ b = a + 3 ∨ b = a + 4 ∨ b = a + 5 ∨ b = a + 6 ∨ b = a + 7 ∨ b = a + 8 ∨ b = a + 9
def WSX4_addPoint (a : Nat) : Nat → Nat → Prop := fun b j => (b = a ∧ j = 0) ∨ b = a + 1 ∨ b = a + 2 ∨ b = a + 3 ∨ b = a + 4
def WSX4_addLink (a : Nat) : Nat → Nat → Prop := fun b j => (b = a ∧ j = 1) ∨ b = a + 2 ∨ b = a + 5 ∨ b = a + 6 ∨ b = a + 7 ∨ b = a + 8
def WSX4_addSet (a : Nat) : Nat → Nat → Prop := fun b j => (b = a ∧ j = 2) ∨ b = a + 10 ∨ b = a + 9
def WSX4_pairUp (a : Nat) : Nat → Nat → Prop := fun b j => b = a + 3
def WSX4_partFrom (a : Nat) : Nat → Nat → Prop := fun b j => b = a + 3
def WSX4_weighAnew (a : Nat) : Nat → Nat → Prop := fun b j => b = a + 7
def WSX4_priceAt (a : Nat) : Nat → Nat → Prop := fun b j => b = a + 4
def WSX4_crownAt (a : Nat) : Nat → Nat → Prop := fun b j => b = a + 10
def WSX4_openSet (a : Nat) : Nat → Nat → Prop := fun b j => (b = a ∧ j = 2) ∨ b = a + 10 ∨ b = a + 9
def WSX4_openSet_L21 (q0 : Nat) : Nat → Nat → Prop := fun b j => b = q0 + 10 ∨ b = q0 + 9
def WSX4_turnAlong (a p0 : Nat) : Nat → Nat → Prop := fun b j => (b = a ∧ j = 3) ∨ b = a + 3
def WSX4_turnAlong_L48 (q0 q1 : Nat) : Nat → Nat → Prop := fun b j => b = q0 + 3
def WSX4_shrinkAlong (a p0 : Nat) : Nat → Nat → Prop := fun b j => (b = a ∧ j = 2) ∨ (b = a ∧ j = 4) ∨ b = a + 10 ∨ b = a + 9
def WSX7_clear (a : Nat) : Nat → Nat → Prop := fun b j => (b = a ∧ j = 1)
def WSX7_add (a : Nat) : Nat → Nat → Prop := fun b j => (b = a ∧ j = 1) ∨ b = a + 1
def WSX7_dropTwo (a : Nat) : Nat → Nat → Prop := fun b j => (b = a ∧ j = 1)
def WSX7_copyFrom (a p0 : Nat) : Nat → Nat → Prop := fun b j => (b = a ∧ j = 1) ∨ b = a + 1
def WSX7_copyFrom_L7 (q0 q1 : Nat) : Nat → Nat → Prop := fun b j => (b = q0 ∧ j = 1) ∨ b = q0 + 1
def WSX7_addName (a : Nat) : Nat → Nat → Prop := fun b j => (b = a ∧ j = 1) ∨ b = a + 1
def WSX7_addName_L3 (q0 : Nat) : Nat → Nat → Prop := fun b j => (b = q0 ∧ j = 1) ∨ b = q0 + 1
def WSX7_addDigits (a : Nat) : Nat → Nat → Prop := fun b j => (b = a ∧ j = 1) ∨ b = a + 1
def WSX10_readChunk (a : Nat) : Nat → Nat → Prop := fun b j => (b = a ∧ j = 4) ∨ (b = a ∧ j = 6) ∨ (b = a ∧ j = 8) ∨ (b = a ∧ j = 9)
def WSX10_readChunk_L9 (q0 : Nat) : Nat → Nat → Prop := fun b j => (b = q0 ∧ j = 4)
def WSX10_readChunk_L154 (q0 : Nat) : Nat → Nat → Prop := fun b j => (b = q0 ∧ j = 6)
def WSX10_advance (a : Nat) : Nat → Nat → Prop := fun b j => (b = a ∧ j = 4) ∨ (b = a ∧ j = 6) ∨ (b = a ∧ j = 7) ∨ (b = a ∧ j = 8) ∨ (b = a ∧ j = 9)
def WSX10_advance_L0 (q0 : Nat) : Nat → Nat → Prop := fun b j => (b = q0 ∧ j = 4)
def WSX10_begin (a : Nat) : Nat → Nat → Prop := fun b j => (b = a ∧ j = 10) ∨ (b = a ∧ j = 11) ∨ (b = a ∧ j = 3) ∨ (b = a ∧ j = 4) ∨ (b = a ∧ j = 5) ∨ (b = a ∧ j = 6) ∨ (b = a ∧ j = 7) ∨ (b = a ∧ j = 8) ∨ (b = a ∧ j = 9)
def WSX10_fail (a : Nat) : Nat → Nat → Prop := fun b j => (b = a ∧ j = 10) ∨ (b = a ∧ j = 11)
def WSX10_pointHere (a p0 : Nat) : Nat → Nat → Prop := fun b j => (b = a ∧ j = 10) ∨ (b = a ∧ j = 11)
def WSX10_takePoint (a p0 : Nat) : Nat → Nat → Prop := fun b j => (b = a ∧ j = 10) ∨ (b = a ∧ j = 11) ∨ (b = a ∧ j = 4) ∨ (b = a ∧ j = 6) ∨ (b = a ∧ j = 7) ∨ (b = a ∧ j = 8) ∨ (b = a ∧ j = 9)
def WSX0_readFirst (a p0 p1 : Nat) : Nat → Nat → Prop := fun b j => b = a + 2 ∨ (b = p0 ∧ j = 10) ∨ (b = p0 ∧ j = 11) ∨ (b = p0 ∧ j = 4) ∨ (b = p0 ∧ j = 6) ∨ (b = p0 ∧ j = 7) ∨ (b = p0 ∧ j = 8) ∨ (b = p0 ∧ j = 9)
def WSX0_readTwo (a p0 p1 : Nat) : Nat → Nat → Prop := fun b j => b = a + 2 ∨ b = a + 3 ∨ (b = p0 ∧ j = 10) ∨ (b = p0 ∧ j = 11) ∨ (b = p0 ∧ j = 4) ∨ (b = p0 ∧ j = 6) ∨ (b = p0 ∧ j = 7) ∨ (b = p0 ∧ j = 8) ∨ (b = p0 ∧ j = 9)
def WSX10_takeNumber (a : Nat) : Nat → Nat → Prop := fun b j => (b = a ∧ j = 10) ∨ (b = a ∧ j = 11) ∨ (b = a ∧ j = 4) ∨ (b = a ∧ j = 6) ∨ (b = a ∧ j = 7) ∨ (b = a ∧ j = 8) ∨ (b = a ∧ j = 9)
def WSX0_readThird (a p0 : Nat) : Nat → Nat → Prop := fun b j => b = a + 4 ∨ (b = p0 ∧ j = 10) ∨ (b = p0 ∧ j = 11) ∨ (b = p0 ∧ j = 4) ∨ (b = p0 ∧ j = 6) ∨ (b = p0 ∧ j = 7) ∨ (b = p0 ∧ j = 8) ∨ (b = p0 ∧ j = 9)
def WSX0_readNumber (a p0 : Nat) : Nat → Nat → Prop := fun b j => b = a + 2 ∨ (b = p0 ∧ j = 10) ∨ (b = p0 ∧ j = 11) ∨ (b = p0 ∧ j = 4) ∨ (b = p0 ∧ j = 6) ∨ (b = p0 ∧ j = 7) ∨ (b = p0 ∧ j = 8) ∨ (b = p0 ∧ j = 9)
def WSX0_readLine (a p0 p1 : Nat) : Nat → Nat → Prop := fun b j => b = a + 1 ∨ b = a + 2 ∨ b = a + 3 ∨ b = a + 4 ∨ (b = p0 ∧ j = 10) ∨ (b = p0 ∧ j = 11) ∨ (b = p0 ∧ j = 4) ∨ (b = p0 ∧ j = 6) ∨ (b = p0 ∧ j = 7) ∨ (b = p0 ∧ j = 8) ∨ (b = p0 ∧ j = 9)
def WSX10_take (a : Nat) : Nat → Nat → Prop := fun b j => (b = a ∧ j = 10) ∨ (b = a ∧ j = 11) ∨ (b = a ∧ j = 4) ∨ (b = a ∧ j = 6) ∨ (b = a ∧ j = 7) ∨ (b = a ∧ j = 8) ∨ (b = a ∧ j = 9)
def WSX10_endsHere (a : Nat) : Nat → Nat → Prop := fun b j => (b = a ∧ j = 10) ∨ (b = a ∧ j = 11)
def WSX0_read (a p0 p1 : Nat) : Nat → Nat → Prop := fun b j => (b = a ∧ j = 4) ∨ b = a + 1 ∨ b = a + 2 ∨ b = a + 3 ∨ b = a + 4 ∨ (b = p0 ∧ j = 10) ∨ (b = p0 ∧ j = 11) ∨ (b = p0 ∧ j = 3) ∨ (b = p0 ∧ j = 4) ∨ (b = p0 ∧ j = 5) ∨ (b = p0 ∧ j = 6) ∨ (b = p0 ∧ j = 7) ∨ (b = p0 ∧ j = 8) ∨ (b = p0 ∧ j = 9)
def WSX0_read_L14 (q0 q1 q2 : Nat) : Nat → Nat → Prop := fun b j => (b = q0 ∧ j = 4) ∨ b = q0 + 1 ∨ b = q0 + 2 ∨ b = q0 + 3 ∨ b = q0 + 4 ∨ (b = q1 ∧ j = 10) ∨ (b = q1 ∧ j = 11) ∨ (b = q1 ∧ j = 4) ∨ (b = q1 ∧ j = 6) ∨ (b = q1 ∧ j = 7) ∨ (b = q1 ∧ j = 8) ∨ (b = q1 ∧ j = 9)
def WSX9_goOn (a p0 : Nat) : Nat → Nat → Prop := fun b j => (b = a + 1 ∧ j = 1) ∨ b = a + 2
def WSX9_goOn_L57 (q0 q1 : Nat) : Nat → Nat → Prop := fun b j => (b = q0 + 1 ∧ j = 1) ∨ b = q0 + 2
def WSX9_findRow (a p0 : Nat) : Nat → Nat → Prop := fun b j => (b = a + 1 ∧ j = 1) ∨ b = a + 2
def WSX9_findRow_L3 (q0 q1 : Nat) : Nat → Nat → Prop := fun b j => (b = q0 + 1 ∧ j = 1) ∨ b = q0 + 2
def WSX9_growFrom (a p0 : Nat) : Nat → Nat → Prop := fun b j => (b = a + 1 ∧ j = 1) ∨ b = a + 2 ∨ (b = p0 ∧ j = 3) ∨ b = p0 + 3
def WSX0_live (a p1 p2 : Nat) : Nat → Nat → Prop := fun b j => (b = p1 ∧ j = 2) ∨ (b = p1 ∧ j = 3) ∨ b = p1 + 10 ∨ b = p1 + 3 ∨ b = p1 + 4 ∨ b = p1 + 7 ∨ b = p1 + 9 ∨ (b = p2 + 1 ∧ j = 1) ∨ b = p2 + 2
def WSX0_judge (a p0 p1 : Nat) : Nat → Nat → Prop := fun b j => (b = a ∧ j = 5) ∨ (b = a ∧ j = 6) ∨ (b = a ∧ j = 7) ∨ (b = a ∧ j = 8) ∨ (b = a ∧ j = 9) ∨ (b = p0 ∧ j = 2) ∨ (b = p0 ∧ j = 3) ∨ b = p0 + 10 ∨ b = p0 + 3 ∨ b = p0 + 4 ∨ b = p0 + 7 ∨ b = p0 + 9 ∨ (b = p1 + 1 ∧ j = 1) ∨ b = p1 + 2
def WSX0_judge_L17 (q0 q1 q2 : Nat) : Nat → Nat → Prop := fun b j => (b = q0 ∧ j = 6) ∨ (b = q0 ∧ j = 7) ∨ (b = q1 ∧ j = 2) ∨ (b = q1 ∧ j = 3) ∨ b = q1 + 10 ∨ b = q1 + 3 ∨ b = q1 + 4 ∨ b = q1 + 7 ∨ b = q1 + 9 ∨ (b = q2 + 1 ∧ j = 1) ∨ b = q2 + 2
def WSX1_draw (a : Nat) : Nat → Nat → Prop := fun b j => (b = a ∧ j = 0)
def WSX1_pairTwo (p0 : Nat) : Nat → Nat → Prop := fun b j => b = p0 + 3
def WSX1_weighOne (a p0 : Nat) : Nat → Nat → Prop := fun b j => (b = a ∧ j = 0) ∨ b = p0 + 7
def WSX1_crownOne (a p0 : Nat) : Nat → Nat → Prop := fun b j => (b = a ∧ j = 0) ∨ b = p0 + 10
def WSX1_isDone (a p0 p1 : Nat) : Nat → Nat → Prop := fun b j => (b = a ∧ j = 0) ∨ (b = p0 ∧ j = 3) ∨ b = p0 + 10 ∨ b = p0 + 3 ∨ b = p0 + 4 ∨ b = p0 + 7 ∨ (b = p1 + 1 ∧ j = 1) ∨ b = p1 + 2
def WSX1_run (a p0 p1 : Nat) : Nat → Nat → Prop := fun b j => (b = a ∧ j = 0) ∨ (b = p0 ∧ j = 3) ∨ b = p0 + 10 ∨ b = p0 + 3 ∨ b = p0 + 4 ∨ b = p0 + 7 ∨ (b = p1 + 1 ∧ j = 1) ∨ b = p1 + 2
def WSX1_run_L22 (q0 q1 q2 : Nat) : Nat → Nat → Prop := fun b j => (b = q0 ∧ j = 0) ∨ (b = q1 ∧ j = 3) ∨ b = q1 + 10 ∨ b = q1 + 3 ∨ b = q1 + 4 ∨ b = q1 + 7 ∨ (b = q2 + 1 ∧ j = 1) ∨ b = q2 + 2
def WSX3_forget (a : Nat) : Nat → Nat → Prop := fun b j => (b = a ∧ j = 2)
def WSX3_mark (a p0 : Nat) : Nat → Nat → Prop := fun b j => (a + 2 ≤ b ∧ b < a + 101)
def WSX3_keep (a : Nat) : Nat → Nat → Prop := fun b j => (b = a ∧ j = 1) ∨ (b = a ∧ j = 2)
def WSX3_takeBack (a p0 : Nat) : Nat → Nat → Prop := fun b j => (b = a ∧ j = 1) ∨ (b = a ∧ j = 2) ∨ (b = p0 ∧ j = 0) ∨ (b = p0 ∧ j = 1) ∨ (b = p0 ∧ j = 2) ∨ (b = p0 ∧ j = 3) ∨ (b = p0 ∧ j = 4) ∨ b = p0 + 1 ∨ b = p0 + 10 ∨ b = p0 + 2 ∨ b = p0 + 3 ∨ b = p0 + 4 ∨ b = p0 + 5 ∨ b = p0 + 6 ∨ b = p0 + 7 ∨ b = p0 + 8 ∨ b = p0 + 9
def WSX5_readPoint (a p0 : Nat) : Nat → Nat → Prop := fun b j => (b = a + 1 ∧ j = 0) ∨ b = a + 2 ∨ b = a + 3 ∨ b = a + 4 ∨ b = a + 5 ∨ (b = p0 ∧ j = 10) ∨ (b = p0 ∧ j = 11) ∨ (b = p0 ∧ j = 4) ∨ (b = p0 ∧ j = 6) ∨ (b = p0 ∧ j = 7) ∨ (b = p0 ∧ j = 8) ∨ (b = p0 ∧ j = 9)
def WSX5_readLink (a p0 : Nat) : Nat → Nat → Prop := fun b j => (b = a + 1 ∧ j = 1) ∨ b = a + 3 ∨ b = a + 6 ∨ b = a + 7 ∨ b = a + 8 ∨ b = a + 9 ∨ (b = p0 ∧ j = 10) ∨ (b = p0 ∧ j = 11) ∨ (b = p0 ∧ j = 4) ∨ (b = p0 ∧ j = 6) ∨ (b = p0 ∧ j = 7) ∨ (b = p0 ∧ j = 8) ∨ (b = p0 ∧ j = 9)
def WSX5_readPair (a p0 : Nat) : Nat → Nat → Prop := fun b j => b = a + 4 ∨ (b = p0 ∧ j = 10) ∨ (b = p0 ∧ j = 11) ∨ (b = p0 ∧ j = 4) ∨ (b = p0 ∧ j = 6) ∨ (b = p0 ∧ j = 7) ∨ (b = p0 ∧ j = 8) ∨ (b = p0 ∧ j = 9)
def WSX5_readPrice (a p0 : Nat) : Nat → Nat → Prop := fun b j => (b = a ∧ j = 2) ∨ b = a + 5 ∨ (b = p0 ∧ j = 10) ∨ (b = p0 ∧ j = 11) ∨ (b = p0 ∧ j = 4) ∨ (b = p0 ∧ j = 6) ∨ (b = p0 ∧ j = 7) ∨ (b = p0 ∧ j = 8) ∨ (b = p0 ∧ j = 9)
def WSX5_readSet (a p0 : Nat) : Nat → Nat → Prop := fun b j => (b = a + 1 ∧ j = 2) ∨ b = a + 10 ∨ b = a + 11 ∨ (b = p0 ∧ j = 10) ∨ (b = p0 ∧ j = 11) ∨ (b = p0 ∧ j = 4) ∨ (b = p0 ∧ j = 6) ∨ (b = p0 ∧ j = 7) ∨ (b = p0 ∧ j = 8) ∨ (b = p0 ∧ j = 9)
def WSX5_readSet_L25 (q0 q1 : Nat) : Nat → Nat → Prop := fun b j => (b = q1 ∧ j = 10) ∨ (b = q1 ∧ j = 11) ∨ (b = q1 ∧ j = 4) ∨ (b = q1 ∧ j = 6) ∨ (b = q1 ∧ j = 7) ∨ (b = q1 ∧ j = 8) ∨ (b = q1 ∧ j = 9)
def WSX5_readLine (a p0 : Nat) : Nat → Nat → Prop := fun b j => (b = a ∧ j = 2) ∨ (b = a + 1 ∧ j = 0) ∨ (b = a + 1 ∧ j = 1) ∨ (b = a + 1 ∧ j = 2) ∨ b = a + 10 ∨ b = a + 11 ∨ b = a + 2 ∨ b = a + 3 ∨ b = a + 4 ∨ b = a + 5 ∨ b = a + 6 ∨ b = a + 7 ∨ b = a + 8 ∨ b = a + 9 ∨ (b = p0 ∧ j = 10) ∨ (b = p0 ∧ j = 11) ∨ (b = p0 ∧ j = 4) ∨ (b = p0 ∧ j = 6) ∨ (b = p0 ∧ j = 7) ∨ (b = p0 ∧ j = 8) ∨ (b = p0 ∧ j = 9)
def WSX5_read (a p0 : Nat) : Nat → Nat → Prop := fun b j => (b = a ∧ j = 1) ∨ (b = a ∧ j = 2) ∨ (b = a + 1 ∧ j = 0) ∨ (b = a + 1 ∧ j = 1) ∨ (b = a + 1 ∧ j = 2) ∨ (b = a + 1 ∧ j = 3) ∨ (b = a + 1 ∧ j = 4) ∨ b = a + 10 ∨ b = a + 11 ∨ b = a + 2 ∨ b = a + 3 ∨ b = a + 4 ∨ b = a + 5 ∨ b = a + 6 ∨ b = a + 7 ∨ b = a + 8 ∨ b = a + 9 ∨ (b = p0 ∧ j = 10) ∨ (b = p0 ∧ j = 11) ∨ (b = p0 ∧ j = 3) ∨ (b = p0 ∧ j = 4) ∨ (b = p0 ∧ j = 5) ∨ (b = p0 ∧ j = 6) ∨ (b = p0 ∧ j = 7) ∨ (b = p0 ∧ j = 8) ∨ (b = p0 ∧ j = 9)
def WSX5_read_L24 (q0 q1 : Nat) : Nat → Nat → Prop := fun b j => (b = q0 ∧ j = 1) ∨ (b = q0 ∧ j = 2) ∨ (b = q0 + 1 ∧ j = 0) ∨ (b = q0 + 1 ∧ j = 1) ∨ (b = q0 + 1 ∧ j = 2) ∨ b = q0 + 10 ∨ b = q0 + 11 ∨ b = q0 + 2 ∨ b = q0 + 3 ∨ b = q0 + 4 ∨ b = q0 + 5 ∨ b = q0 + 6 ∨ b = q0 + 7 ∨ b = q0 + 8 ∨ b = q0 + 9 ∨ (b = q1 ∧ j = 10) ∨ (b = q1 ∧ j = 11) ∨ (b = q1 ∧ j = 4) ∨ (b = q1 ∧ j = 6) ∨ (b = q1 ∧ j = 7) ∨ (b = q1 ∧ j = 8) ∨ (b = q1 ∧ j = 9)
def WSX8_copyFrom (a p0 : Nat) : Nat → Nat → Prop := fun b j => (b = a ∧ j = 4) ∨ (b = a ∧ j = 5) ∨ (b = a ∧ j = 6) ∨ b = a + 1 ∨ b = a + 2 ∨ b = a + 3
def WSX6_take (a p0 p1 : Nat) : Nat → Nat → Prop := fun b j => (b = a ∧ j = 2) ∨ (b = a + 1 ∧ j = 0) ∨ (b = a + 1 ∧ j = 1) ∨ (b = a + 1 ∧ j = 2) ∨ (b = a + 1 ∧ j = 3) ∨ (b = a + 1 ∧ j = 4) ∨ b = a + 10 ∨ b = a + 11 ∨ (b = a + 12 ∧ j = 4) ∨ (b = a + 12 ∧ j = 5) ∨ (b = a + 12 ∧ j = 6) ∨ b = a + 13 ∨ b = a + 14 ∨ b = a + 15 ∨ b = a + 2 ∨ b = a + 3 ∨ b = a + 4 ∨ b = a + 5 ∨ b = a + 6 ∨ b = a + 7 ∨ b = a + 8 ∨ b = a + 9
def WSX6_giveBack (a p0 p1 : Nat) : Nat → Nat → Prop := fun b j => (b = p0 ∧ j = 0) ∨ (b = p0 ∧ j = 1) ∨ (b = p0 ∧ j = 2) ∨ (b = p0 ∧ j = 3) ∨ (b = p0 ∧ j = 4) ∨ b = p0 + 1 ∨ b = p0 + 10 ∨ b = p0 + 2 ∨ b = p0 + 3 ∨ b = p0 + 4 ∨ b = p0 + 5 ∨ b = p0 + 6 ∨ b = p0 + 7 ∨ b = p0 + 8 ∨ b = p0 + 9 ∨ (b = p1 ∧ j = 4) ∨ (b = p1 ∧ j = 5) ∨ (b = p1 ∧ j = 6) ∨ b = p1 + 1 ∨ b = p1 + 2 ∨ b = p1 + 3
def WSX8_clear (a : Nat) : Nat → Nat → Prop := fun b j => (b = a ∧ j = 4) ∨ (b = a ∧ j = 5) ∨ (b = a ∧ j = 6)
def WSX8_put (a : Nat) : Nat → Nat → Prop := fun b j => (b = a ∧ j = 4) ∨ b = a + 1 ∨ b = a + 2 ∨ b = a + 3
def WSX8_readAll (a p0 p1 : Nat) : Nat → Nat → Prop := fun b j => (b = a ∧ j = 4) ∨ (b = a ∧ j = 5) ∨ b = a + 1 ∨ b = a + 2 ∨ b = a + 3 ∨ (b = p0 ∧ j = 10) ∨ (b = p0 ∧ j = 11) ∨ (b = p0 ∧ j = 4) ∨ (b = p0 ∧ j = 6) ∨ (b = p0 ∧ j = 7) ∨ (b = p0 ∧ j = 8) ∨ (b = p0 ∧ j = 9)
def WSX8_readAll_L15 (q0 q1 q2 : Nat) : Nat → Nat → Prop := fun b j => (b = q0 ∧ j = 4) ∨ (b = q0 ∧ j = 5) ∨ b = q0 + 1 ∨ b = q0 + 2 ∨ b = q0 + 3 ∨ (b = q1 ∧ j = 10) ∨ (b = q1 ∧ j = 11) ∨ (b = q1 ∧ j = 4) ∨ (b = q1 ∧ j = 6) ∨ (b = q1 ∧ j = 7) ∨ (b = q1 ∧ j = 8) ∨ (b = q1 ∧ j = 9)
def WSX8_readCond (a p0 p1 : Nat) : Nat → Nat → Prop := fun b j => (b = a ∧ j = 4) ∨ (b = a ∧ j = 5) ∨ b = a + 1 ∨ b = a + 2 ∨ b = a + 3 ∨ (b = p0 ∧ j = 10) ∨ (b = p0 ∧ j = 11) ∨ (b = p0 ∧ j = 4) ∨ (b = p0 ∧ j = 6) ∨ (b = p0 ∧ j = 7) ∨ (b = p0 ∧ j = 8) ∨ (b = p0 ∧ j = 9)
def WSX8_readCond_L15 (q0 q1 q2 : Nat) : Nat → Nat → Prop := fun b j => (b = q0 ∧ j = 4) ∨ (b = q0 ∧ j = 5) ∨ b = q0 + 1 ∨ b = q0 + 2 ∨ b = q0 + 3 ∨ (b = q1 ∧ j = 10) ∨ (b = q1 ∧ j = 11) ∨ (b = q1 ∧ j = 4) ∨ (b = q1 ∧ j = 6) ∨ (b = q1 ∧ j = 7) ∨ (b = q1 ∧ j = 8) ∨ (b = q1 ∧ j = 9)
def WSX8_putIfRead (a : Nat) : Nat → Nat → Prop := fun b j => (b = a ∧ j = 4) ∨ b = a + 1 ∨ b = a + 2 ∨ b = a + 3
def WSX8_readOne (a p0 p1 : Nat) : Nat → Nat → Prop := fun b j => (b = a ∧ j = 4) ∨ (b = a ∧ j = 5) ∨ b = a + 1 ∨ b = a + 2 ∨ b = a + 3 ∨ (b = p0 ∧ j = 10) ∨ (b = p0 ∧ j = 11) ∨ (b = p0 ∧ j = 4) ∨ (b = p0 ∧ j = 6) ∨ (b = p0 ∧ j = 7) ∨ (b = p0 ∧ j = 8) ∨ (b = p0 ∧ j = 9)
def WSX8_read (a p0 p1 : Nat) : Nat → Nat → Prop := fun b j => (b = a ∧ j = 4) ∨ (b = a ∧ j = 5) ∨ (b = a ∧ j = 6) ∨ b = a + 1 ∨ b = a + 2 ∨ b = a + 3 ∨ (b = p0 ∧ j = 10) ∨ (b = p0 ∧ j = 11) ∨ (b = p0 ∧ j = 3) ∨ (b = p0 ∧ j = 4) ∨ (b = p0 ∧ j = 5) ∨ (b = p0 ∧ j = 6) ∨ (b = p0 ∧ j = 7) ∨ (b = p0 ∧ j = 8) ∨ (b = p0 ∧ j = 9)
def WSX8_pointsOf (a p0 : Nat) : Nat → Nat → Prop := fun b j => b = a + 4
def WSX8_pointsOf_L21 (q0 q1 : Nat) : Nat → Nat → Prop := fun b j => b = q0 + 4
def WSX9_findPath (a p0 : Nat) : Nat → Nat → Prop := fun b j => (b = a + 1 ∧ j = 1) ∨ b = a + 2
def WSX9_findFlower (a p0 : Nat) : Nat → Nat → Prop := fun b j => (b = a + 1 ∧ j = 1) ∨ b = a + 2
def WSX9_strokeOn (a p0 : Nat) : Nat → Nat → Prop := fun b j => (b = a ∧ j = 1)
def WSX9_strokeOn_L74 (q0 q1 : Nat) : Nat → Nat → Prop := fun b j => (b = q0 ∧ j = 1)
def WSX9_greatestGain (a p0 : Nat) : Nat → Nat → Prop := fun b j => (b = a ∧ j = 1)
def WSX9_greatestGain_L7 (q0 q1 : Nat) : Nat → Nat → Prop := fun b j => (b = q0 ∧ j = 1)
def WSX10_putFour (a : Nat) : Nat → Nat → Prop := fun b j => (b = a ∧ j = 2) ∨ b = a + 1
def WSX10_putFour_L3 (q0 : Nat) : Nat → Nat → Prop := fun b j => (b = q0 ∧ j = 2) ∨ b = q0 + 1
def WSX10_cut (a : Nat) : Nat → Nat → Prop := fun b j => (b = a ∧ j = 2)
def WSX2_startSlot (a : Nat) : Nat → Nat → Prop := fun b j => b = a + 13 ∨ b = a + 14 ∨ b = a + 15 ∨ b = a + 16
def WSX2_startSlot_L2 (q0 : Nat) : Nat → Nat → Prop := fun b j => b = q0 + 15 ∨ b = q0 + 16
def WSX2_addTotal (a : Nat) : Nat → Nat → Prop := fun b j => b = a + 13 ∨ b = a + 14
def WSX2_addWays (a : Nat) : Nat → Nat → Prop := fun b j => b = a + 13 ∨ b = a + 14 ∨ b = a + 15 ∨ b = a + 16
def WSX2_addWays_L3 (q0 : Nat) : Nat → Nat → Prop := fun b j => b = q0 + 15 ∨ b = q0 + 16
def WSX2_slotFor (a : Nat) : Nat → Nat → Prop := fun b j => (b = a ∧ j = 5) ∨ b = a + 12 ∨ b = a + 13 ∨ b = a + 14 ∨ b = a + 15 ∨ b = a + 16
def WSX2_slotFor_L142 (q0 : Nat) : Nat → Nat → Prop := fun b j => (b = q0 ∧ j = 5) ∨ b = q0 + 12 ∨ b = q0 + 13 ∨ b = q0 + 14 ∨ b = q0 + 15 ∨ b = q0 + 16
def WSX2_lookAt (a p0 : Nat) : Nat → Nat → Prop := fun b j => (b = a ∧ j = 1) ∨ (b = a ∧ j = 2) ∨ (b = a ∧ j = 3) ∨ (b = a ∧ j = 5) ∨ (b = a + 1 ∧ j = 0) ∨ (b = a + 1 ∧ j = 1) ∨ b = a + 12 ∨ b = a + 13 ∨ b = a + 14 ∨ b = a + 15 ∨ b = a + 16 ∨ b = a + 3 ∨ b = a + 6 ∨ b = a + 7 ∨ b = a + 8 ∨ b = a + 9
def WSX2_lookAt_L44 (q0 : Nat) : Nat → Nat → Prop := fun b j => b = q0 + 12
def WSX2_choose (a : Nat) : Nat → Nat → Prop := fun b j => b = a + 18
def WSX2_bestInto (a p0 : Nat) : Nat → Nat → Prop := fun b j => b = a + 18 ∨ (b = p0 ∧ j = 1) ∨ b = p0 + 1
def WSX2_bestInto_L7 (q0 q1 : Nat) : Nat → Nat → Prop := fun b j => b = q0 + 18
def WSX2_bestInto_L81 (q0 q1 : Nat) : Nat → Nat → Prop := fun b j => (b = q1 ∧ j = 1) ∨ b = q1 + 1
def WSX2_wantNothing (a : Nat) : Nat → Nat → Prop := fun b j => (b = a ∧ j = 11) ∨ b = a + 17
def WSX2_wantNothing_L7 (q0 : Nat) : Nat → Nat → Prop := fun b j => b = q0 + 17
def WSX2_tallyChosen (a : Nat) : Nat → Nat → Prop := fun b j => (b = a ∧ j = 15) ∨ b = a + 19
def WSX2_tallyChosen_L12 (q0 : Nat) : Nat → Nat → Prop := fun b j => b = q0 + 19
def WSX2_walkBest (a : Nat) : Nat → Nat → Prop := fun b j => (b = a ∧ j = 15) ∨ b = a + 18 ∨ b = a + 19
def WSX2_walkBest_L48 (q0 : Nat) : Nat → Nat → Prop := fun b j => (b = q0 ∧ j = 15) ∨ b = q0 + 18 ∨ b = q0 + 19
def WSX2_countWanted (a : Nat) : Nat → Nat → Prop := fun b j => (b = a ∧ j = 15) ∨ b = a + 18 ∨ b = a + 19
def WSX2_countWanted_L7 (q0 : Nat) : Nat → Nat → Prop := fun b j => b = q0 + 19
def WSX2_fateOf (a : Nat) : Nat → Nat → Prop := fun b j => (b = a ∧ j = 11) ∨ (b = a ∧ j = 15) ∨ (b = a ∧ j = 2) ∨ b = a + 17 ∨ b = a + 18 ∨ b = a + 19 ∨ b = a + 20
def WSX2_fateOf_L18 (q0 : Nat) : Nat → Nat → Prop := fun b j => b = q0 + 20
def WSX2_want (a : Nat) : Nat → Nat → Prop := fun b j => (b = a ∧ j = 11) ∨ b = a + 17
def WSX11_feed (a : Nat) : Nat → Nat → Prop := fun b j => (b = a + 1 ∧ j = 2) ∨ b = a + 2
def WSX11_end (a : Nat) : Nat → Nat → Prop := fun b j => (b = a + 1 ∧ j = 2)
def WSX11_network (a : Nat) : Nat → Nat → Prop := fun b j => (b = a + 1 ∧ j = 10) ∨ (b = a + 1 ∧ j = 11) ∨ (b = a + 1 ∧ j = 2) ∨ (b = a + 1 ∧ j = 3) ∨ (b = a + 1 ∧ j = 4) ∨ (b = a + 1 ∧ j = 5) ∨ (b = a + 1 ∧ j = 6) ∨ (b = a + 1 ∧ j = 7) ∨ (b = a + 1 ∧ j = 8) ∨ (b = a + 1 ∧ j = 9) ∨ b = a + 10 ∨ b = a + 11 ∨ b = a + 12 ∨ b = a + 13 ∨ b = a + 14 ∨ (b = a + 174 ∧ j = 4) ∨ (b = a + 174 ∧ j = 5) ∨ (b = a + 174 ∧ j = 6) ∨ (b = a + 26 ∧ j = 1) ∨ (b = a + 26 ∧ j = 2) ∨ (b = a + 27 ∧ j = 0) ∨ (b = a + 27 ∧ j = 1) ∨ (b = a + 27 ∧ j = 2) ∨ (b = a + 27 ∧ j = 3) ∨ (b = a + 27 ∧ j = 4) ∨ b = a + 28 ∨ b = a + 29 ∨ b = a + 30 ∨ b = a + 31 ∨ b = a + 32 ∨ b = a + 33 ∨ b = a + 34 ∨ b = a + 35 ∨ b = a + 36 ∨ b = a + 37 ∨ (b = a + 4 ∧ j = 0) ∨ (b = a + 4 ∧ j = 1) ∨ (b = a + 4 ∧ j = 2) ∨ (b = a + 4 ∧ j = 3) ∨ (b = a + 4 ∧ j = 4) ∨ b = a + 5 ∨ b = a + 6 ∨ (b = a + 68 ∧ j = 2) ∨ b = a + 7 ∨ b = a + 8 ∨ b = a + 9
def WSX11_link (a : Nat) : Nat → Nat → Prop := fun b j => (b = a + 45 ∧ j = 1) ∨ (b = a + 45 ∧ j = 11) ∨ (b = a + 45 ∧ j = 15) ∨ (b = a + 45 ∧ j = 2) ∨ (b = a + 45 ∧ j = 3) ∨ (b = a + 45 ∧ j = 5) ∨ (b = a + 46 ∧ j = 0) ∨ (b = a + 46 ∧ j = 1) ∨ b = a + 48 ∨ b = a + 51 ∨ b = a + 52 ∨ b = a + 53 ∨ b = a + 54 ∨ b = a + 57 ∨ b = a + 58 ∨ b = a + 59 ∨ b = a + 60 ∨ b = a + 61 ∨ b = a + 62 ∨ b = a + 63 ∨ b = a + 64 ∨ b = a + 65
def WSX11_keepIfDone (a : Nat) : Nat → Nat → Prop := fun b j => (b = a + 68 ∧ j = 1) ∨ (b = a + 68 ∧ j = 2)
def WSX11_pair (a : Nat) : Nat → Nat → Prop := fun b j => (a + 70 ≤ b ∧ b < a + 169) ∨ (b = a + 68 ∧ j = 1) ∨ (b = a + 68 ∧ j = 2) ∨ b = a + 7
def WSX11_part (a : Nat) : Nat → Nat → Prop := fun b j => (a + 70 ≤ b ∧ b < a + 169) ∨ (b = a + 68 ∧ j = 1) ∨ (b = a + 68 ∧ j = 2) ∨ b = a + 7
def WSX11_weigh (a : Nat) : Nat → Nat → Prop := fun b j => (a + 70 ≤ b ∧ b < a + 169) ∨ b = a + 11 ∨ (b = a + 68 ∧ j = 1) ∨ (b = a + 68 ∧ j = 2)
def WSX11_price (a : Nat) : Nat → Nat → Prop := fun b j => (a + 70 ≤ b ∧ b < a + 169) ∨ (b = a + 68 ∧ j = 1) ∨ (b = a + 68 ∧ j = 2) ∨ b = a + 8
def WSX11_crown (a : Nat) : Nat → Nat → Prop := fun b j => (a + 70 ≤ b ∧ b < a + 169) ∨ b = a + 14 ∨ (b = a + 68 ∧ j = 1) ∨ (b = a + 68 ∧ j = 2)
def WSX11_open (a : Nat) : Nat → Nat → Prop := fun b j => (a + 70 ≤ b ∧ b < a + 169) ∨ b = a + 13 ∨ b = a + 14 ∨ (b = a + 4 ∧ j = 2) ∨ (b = a + 68 ∧ j = 1) ∨ (b = a + 68 ∧ j = 2)
def WSX11_grow (a : Nat) : Nat → Nat → Prop := fun b j => (b = a + 39 ∧ j = 1) ∨ b = a + 40 ∨ (b = a + 41 ∧ j = 1) ∨ b = a + 42
def WSX11_turn (a : Nat) : Nat → Nat → Prop := fun b j => (a + 70 ≤ b ∧ b < a + 169) ∨ (b = a + 4 ∧ j = 3) ∨ (b = a + 68 ∧ j = 1) ∨ (b = a + 68 ∧ j = 2) ∨ b = a + 7
def WSX11_flower (a : Nat) : Nat → Nat → Prop := fun b j => (b = a + 39 ∧ j = 1) ∨ b = a + 40 ∨ (b = a + 43 ∧ j = 1) ∨ b = a + 44
def WSX11_shrink (a : Nat) : Nat → Nat → Prop := fun b j => (a + 70 ≤ b ∧ b < a + 169) ∨ b = a + 13 ∨ b = a + 14 ∨ (b = a + 4 ∧ j = 2) ∨ (b = a + 4 ∧ j = 4) ∨ (b = a + 68 ∧ j = 1) ∨ (b = a + 68 ∧ j = 2)
def WSX11_undo (a : Nat) : Nat → Nat → Prop := fun b j => b = a + 10 ∨ b = a + 11 ∨ b = a + 12 ∨ b = a + 13 ∨ b = a + 14 ∨ (b = a + 4 ∧ j = 0) ∨ (b = a + 4 ∧ j = 1) ∨ (b = a + 4 ∧ j = 2) ∨ (b = a + 4 ∧ j = 3) ∨ (b = a + 4 ∧ j = 4) ∨ b = a + 5 ∨ b = a + 6 ∨ (b = a + 68 ∧ j = 1) ∨ (b = a + 68 ∧ j = 2) ∨ b = a + 7 ∨ b = a + 8 ∨ b = a + 9
def WSX11_noteFlaw (a : Nat) : Nat → Nat → Prop := fun b j => (b = a ∧ j = 16) ∨ (b = a ∧ j = 17)
def WSX11_proof (a : Nat) : Nat → Nat → Prop := fun b j => (b = a ∧ j = 16) ∨ (b = a ∧ j = 17)
def WSX11_best (a : Nat) : Nat → Nat → Prop := fun b j => (b = a + 45 ∧ j = 1) ∨ (b = a + 45 ∧ j = 2) ∨ (b = a + 45 ∧ j = 3) ∨ (b = a + 45 ∧ j = 5) ∨ (b = a + 46 ∧ j = 0) ∨ (b = a + 46 ∧ j = 1) ∨ b = a + 48 ∨ b = a + 51 ∨ b = a + 52 ∨ b = a + 53 ∨ b = a + 54 ∨ b = a + 57 ∨ b = a + 58 ∨ b = a + 59 ∨ b = a + 60 ∨ b = a + 61 ∨ b = a + 63 ∨ (b = a + 66 ∧ j = 1) ∨ b = a + 67
def WSX11_next (a : Nat) : Nat → Nat → Prop := fun b j => (b = a + 45 ∧ j = 1) ∨ (b = a + 45 ∧ j = 2) ∨ (b = a + 45 ∧ j = 3) ∨ (b = a + 45 ∧ j = 5) ∨ (b = a + 46 ∧ j = 0) ∨ (b = a + 46 ∧ j = 1) ∨ b = a + 48 ∨ b = a + 51 ∨ b = a + 52 ∨ b = a + 53 ∨ b = a + 54 ∨ b = a + 57 ∨ b = a + 58 ∨ b = a + 59 ∨ b = a + 60 ∨ b = a + 61
def WSX11_heavy (a : Nat) : Nat → Nat → Prop := fun b j => (b = a + 45 ∧ j = 1) ∨ (b = a + 45 ∧ j = 2) ∨ (b = a + 45 ∧ j = 3) ∨ (b = a + 45 ∧ j = 5) ∨ (b = a + 46 ∧ j = 0) ∨ (b = a + 46 ∧ j = 1) ∨ b = a + 48 ∨ b = a + 51 ∨ b = a + 52 ∨ b = a + 53 ∨ b = a + 54 ∨ b = a + 57 ∨ b = a + 58 ∨ b = a + 59 ∨ b = a + 60 ∨ b = a + 61
def WSX11_ways (a : Nat) : Nat → Nat → Prop := fun b j => (b = a + 45 ∧ j = 1) ∨ (b = a + 45 ∧ j = 2) ∨ (b = a + 45 ∧ j = 3) ∨ (b = a + 45 ∧ j = 5) ∨ (b = a + 46 ∧ j = 0) ∨ (b = a + 46 ∧ j = 1) ∨ b = a + 48 ∨ b = a + 51 ∨ b = a + 52 ∨ b = a + 53 ∨ b = a + 54 ∨ b = a + 57 ∨ b = a + 58 ∨ b = a + 59 ∨ b = a + 60 ∨ b = a + 61
def WSX11_gain (a : Nat) : Nat → Nat → Prop := fun b j => (b = a + 38 ∧ j = 1)
def WSX11_who (a : Nat) : Nat → Nat → Prop := fun b j => (b = a ∧ j = 18) ∨ (b = a + 1 ∧ j = 2) ∨ (b = a + 45 ∧ j = 1) ∨ (b = a + 45 ∧ j = 11) ∨ (b = a + 45 ∧ j = 15) ∨ (b = a + 45 ∧ j = 2) ∨ (b = a + 45 ∧ j = 3) ∨ (b = a + 45 ∧ j = 5) ∨ (b = a + 46 ∧ j = 0) ∨ (b = a + 46 ∧ j = 1) ∨ b = a + 48 ∨ b = a + 51 ∨ b = a + 52 ∨ b = a + 53 ∨ b = a + 54 ∨ b = a + 57 ∨ b = a + 58 ∨ b = a + 59 ∨ b = a + 60 ∨ b = a + 61 ∨ b = a + 62 ∨ b = a + 63 ∨ b = a + 64
def WSX11_who_L29 (q0 : Nat) : Nat → Nat → Prop := fun b j => (b = q0 + 45 ∧ j = 11) ∨ b = q0 + 62
def WSX11_drawn (a : Nat) : Nat → Nat → Prop := fun b j => (a + 70 ≤ b ∧ b < a + 169) ∨ b = a + 11 ∨ b = a + 14 ∨ (b = a + 185 ∧ j = 0) ∨ (b = a + 39 ∧ j = 1) ∨ (b = a + 4 ∧ j = 3) ∨ b = a + 40 ∨ (b = a + 68 ∧ j = 1) ∨ (b = a + 68 ∧ j = 2) ∨ b = a + 7 ∨ b = a + 8
def WSX11_odds (a : Nat) : Nat → Nat → Prop := fun b j => (b = a + 15 ∧ j = 0) ∨ (b = a + 15 ∧ j = 1) ∨ (b = a + 15 ∧ j = 2) ∨ (b = a + 15 ∧ j = 3) ∨ (b = a + 15 ∧ j = 4) ∨ b = a + 16 ∨ b = a + 17 ∨ b = a + 18 ∨ (b = a + 185 ∧ j = 0) ∨ b = a + 19 ∨ b = a + 20 ∨ b = a + 21 ∨ b = a + 22 ∨ b = a + 23 ∨ b = a + 24 ∨ b = a + 25 ∨ (b = a + 39 ∧ j = 1) ∨ b = a + 40
def WSX11_odds_L30 (q0 : Nat) : Nat → Nat → Prop := fun b j => (b = q0 + 15 ∧ j = 0) ∨ (b = q0 + 15 ∧ j = 1) ∨ (b = q0 + 15 ∧ j = 2) ∨ (b = q0 + 15 ∧ j = 3) ∨ (b = q0 + 15 ∧ j = 4) ∨ b = q0 + 16 ∨ b = q0 + 17 ∨ b = q0 + 18 ∨ (b = q0 + 185 ∧ j = 0) ∨ b = q0 + 19 ∨ b = q0 + 20 ∨ b = q0 + 21 ∨ b = q0 + 22 ∨ b = q0 + 23 ∨ b = q0 + 24 ∨ b = q0 + 25 ∨ (b = q0 + 39 ∧ j = 1) ∨ b = q0 + 40
def WSX11_book (a : Nat) : Nat → Nat → Prop := fun b j => (a + 70 ≤ b ∧ b < a + 169) ∨ (b = a + 1 ∧ j = 10) ∨ (b = a + 1 ∧ j = 11) ∨ (b = a + 1 ∧ j = 2) ∨ (b = a + 1 ∧ j = 3) ∨ (b = a + 1 ∧ j = 4) ∨ (b = a + 1 ∧ j = 5) ∨ (b = a + 1 ∧ j = 6) ∨ (b = a + 1 ∧ j = 7) ∨ (b = a + 1 ∧ j = 8) ∨ (b = a + 1 ∧ j = 9) ∨ b = a + 11 ∨ b = a + 13 ∨ b = a + 14 ∨ (b = a + 15 ∧ j = 0) ∨ (b = a + 15 ∧ j = 1) ∨ (b = a + 15 ∧ j = 2) ∨ (b = a + 15 ∧ j = 3) ∨ (b = a + 15 ∧ j = 4) ∨ b = a + 16 ∨ (b = a + 169 ∧ j = 4) ∨ (b = a + 169 ∧ j = 5) ∨ (b = a + 169 ∧ j = 6) ∨ (b = a + 169 ∧ j = 7) ∨ (b = a + 169 ∧ j = 8) ∨ (b = a + 169 ∧ j = 9) ∨ b = a + 17 ∨ b = a + 170 ∨ b = a + 171 ∨ b = a + 172 ∨ b = a + 173 ∨ b = a + 18 ∨ b = a + 19 ∨ b = a + 20 ∨ b = a + 21 ∨ b = a + 22 ∨ b = a + 23 ∨ b = a + 24 ∨ b = a + 25 ∨ (b = a + 39 ∧ j = 1) ∨ (b = a + 4 ∧ j = 2) ∨ (b = a + 4 ∧ j = 3) ∨ b = a + 40 ∨ (b = a + 68 ∧ j = 1) ∨ (b = a + 68 ∧ j = 2) ∨ b = a + 7 ∨ b = a + 8
def WSX11_sentence (a : Nat) : Nat → Nat → Prop := fun b j => (b = a + 1 ∧ j = 10) ∨ (b = a + 1 ∧ j = 11) ∨ (b = a + 1 ∧ j = 2) ∨ (b = a + 1 ∧ j = 3) ∨ (b = a + 1 ∧ j = 4) ∨ (b = a + 1 ∧ j = 5) ∨ (b = a + 1 ∧ j = 6) ∨ (b = a + 1 ∧ j = 7) ∨ (b = a + 1 ∧ j = 8) ∨ (b = a + 1 ∧ j = 9) ∨ (b = a + 174 ∧ j = 4) ∨ (b = a + 174 ∧ j = 5) ∨ (b = a + 174 ∧ j = 6) ∨ b = a + 175 ∨ b = a + 176 ∨ b = a + 177 ∨ (b = a + 179 ∧ j = 4) ∨ (b = a + 179 ∧ j = 5) ∨ (b = a + 179 ∧ j = 6) ∨ b = a + 180 ∨ b = a + 181 ∨ b = a + 182
def WSX11_said (a : Nat) : Nat → Nat → Prop := fun b j => b = a + 178
def WSX12_refuse (a : Nat) : Nat → Nat → Prop := fun b j => (b = a ∧ j = 0)
def WSX12_come (a : Nat) : Nat → Nat → Prop := fun b j => (b = a ∧ j = 2) ∨ b = a + 1
def WSX12_come_L3 (q0 : Nat) : Nat → Nat → Prop := fun b j => (b = q0 ∧ j = 2) ∨ b = q0 + 1
def WSX12_feed (a : Nat) : Nat → Nat → Prop := fun b j => (b = a ∧ j = 0) ∨ (b = a ∧ j = 2) ∨ b = a + 1
def WSX12_end (a : Nat) : Nat → Nat → Prop := fun b j => (b = a ∧ j = 0) ∨ (b = a ∧ j = 2)
def WSX12_take (a : Nat) : Nat → Nat → Prop := fun b j => (b = a ∧ j = 2)
def WSX12_go (a : Nat) : Nat → Nat → Prop := fun b j => (b = a ∧ j = 12) ∨ (b = a ∧ j = 5) ∨ (b = a ∧ j = 6) ∨ (b = a ∧ j = 7) ∨ (b = a ∧ j = 8) ∨ (b = a ∧ j = 9)
def WSX12_go_L0 (q0 : Nat) : Nat → Nat → Prop := fun b j => (b = q0 ∧ j = 5)
def WSX12_go_L215 (q0 : Nat) : Nat → Nat → Prop := fun b j => (b = q0 ∧ j = 12) ∨ (b = q0 ∧ j = 5) ∨ (b = q0 ∧ j = 8)
def WSX12_bad (a : Nat) : Nat → Nat → Prop := fun b j => (b = a ∧ j = 10) ∨ (b = a ∧ j = 11)
def WSX12_readNumber (a : Nat) : Nat → Nat → Prop := fun b j => (b = a ∧ j = 10) ∨ (b = a ∧ j = 11) ∨ (b = a ∧ j = 12) ∨ (b = a ∧ j = 13) ∨ (b = a ∧ j = 5) ∨ (b = a ∧ j = 6) ∨ (b = a ∧ j = 7) ∨ (b = a ∧ j = 8) ∨ (b = a ∧ j = 9)
def WSX12_readEnd (a : Nat) : Nat → Nat → Prop := fun b j => (b = a ∧ j = 10) ∨ (b = a ∧ j = 11) ∨ (b = a ∧ j = 12) ∨ (b = a ∧ j = 5) ∨ (b = a ∧ j = 6) ∨ (b = a ∧ j = 7) ∨ (b = a ∧ j = 8) ∨ (b = a ∧ j = 9)
def WSX12_begin (a : Nat) : Nat → Nat → Prop := fun b j => (b = a ∧ j = 0) ∨ (b = a ∧ j = 10) ∨ (b = a ∧ j = 12) ∨ (b = a ∧ j = 2) ∨ (b = a ∧ j = 3) ∨ (b = a ∧ j = 4) ∨ (b = a ∧ j = 5) ∨ (b = a ∧ j = 6) ∨ (b = a ∧ j = 7) ∨ (b = a ∧ j = 8) ∨ (b = a ∧ j = 9)
def WSX12_startSo (a : Nat) : Nat → Nat → Prop := fun b j => b = a + 2
def WSX12_startSo_L3 (q0 : Nat) : Nat → Nat → Prop := fun b j => b = q0 + 2
def WSX12_startSo_L38 (q0 : Nat) : Nat → Nat → Prop := fun b j => b = q0 + 2
def WSX12_startSo_L71 (q0 : Nat) : Nat → Nat → Prop := fun b j => b = q0 + 2
def WSX12_startSo_L123 (q0 : Nat) : Nat → Nat → Prop := fun b j => b = q0 + 2
def WSX12_readFirst (a : Nat) : Nat → Nat → Prop := fun b j => (b = a ∧ j = 10) ∨ (b = a ∧ j = 11) ∨ (b = a ∧ j = 12) ∨ (b = a ∧ j = 5) ∨ (b = a ∧ j = 6) ∨ (b = a ∧ j = 7) ∨ (b = a ∧ j = 8) ∨ (b = a ∧ j = 9)
def WSX12_noted (a : Nat) : Nat → Nat → Prop := fun b j => b = a + 3
def WSX12_readPoint (a : Nat) : Nat → Nat → Prop := fun b j => (b = a ∧ j = 10) ∨ (b = a ∧ j = 11) ∨ (b = a ∧ j = 12) ∨ (b = a ∧ j = 5) ∨ (b = a ∧ j = 6) ∨ (b = a ∧ j = 7) ∨ (b = a ∧ j = 8) ∨ (b = a ∧ j = 9) ∨ b = a + 3 ∨ b = a + 9
def WSX12_isHere (a : Nat) : Nat → Nat → Prop := fun b j => (b = a ∧ j = 10) ∨ (b = a ∧ j = 11) ∨ (b = a ∧ j = 13)
def WSX12_readLink (a : Nat) : Nat → Nat → Prop := fun b j => (b = a ∧ j = 10) ∨ (b = a ∧ j = 11) ∨ (b = a ∧ j = 12) ∨ (b = a ∧ j = 13) ∨ (b = a ∧ j = 5) ∨ (b = a ∧ j = 6) ∨ (b = a ∧ j = 7) ∨ (b = a ∧ j = 8) ∨ (b = a ∧ j = 9) ∨ b = a + 3
def WSX12_readPair (a : Nat) : Nat → Nat → Prop := fun b j => (b = a ∧ j = 10) ∨ (b = a ∧ j = 11) ∨ (b = a ∧ j = 12) ∨ (b = a ∧ j = 13) ∨ (b = a ∧ j = 5) ∨ (b = a ∧ j = 6) ∨ (b = a ∧ j = 7) ∨ (b = a ∧ j = 8) ∨ (b = a ∧ j = 9) ∨ b = a + 3
def WSX12_readPrice (a : Nat) : Nat → Nat → Prop := fun b j => (b = a ∧ j = 10) ∨ (b = a ∧ j = 11) ∨ (b = a ∧ j = 12) ∨ (b = a ∧ j = 13) ∨ (b = a ∧ j = 5) ∨ (b = a ∧ j = 6) ∨ (b = a ∧ j = 7) ∨ (b = a ∧ j = 8) ∨ (b = a ∧ j = 9) ∨ b = a + 12 ∨ b = a + 3
def WSX12_readOdd (a : Nat) : Nat → Nat → Prop := fun b j => (b = a ∧ j = 10) ∨ (b = a ∧ j = 11) ∨ (b = a ∧ j = 12) ∨ (b = a ∧ j = 13) ∨ (b = a ∧ j = 5) ∨ (b = a ∧ j = 6) ∨ (b = a ∧ j = 7) ∨ (b = a ∧ j = 8) ∨ (b = a ∧ j = 9) ∨ b = a + 3
def WSX12_readOdd_L44 (q0 : Nat) : Nat → Nat → Prop := fun b j => (b = q0 ∧ j = 10) ∨ (b = q0 ∧ j = 11) ∨ (b = q0 ∧ j = 12) ∨ (b = q0 ∧ j = 13) ∨ (b = q0 ∧ j = 5) ∨ (b = q0 ∧ j = 6) ∨ (b = q0 ∧ j = 7) ∨ (b = q0 ∧ j = 8) ∨ (b = q0 ∧ j = 9)
def WSX12_readLine (a : Nat) : Nat → Nat → Prop := fun b j => (b = a ∧ j = 10) ∨ (b = a ∧ j = 11) ∨ (b = a ∧ j = 12) ∨ (b = a ∧ j = 13) ∨ (b = a ∧ j = 5) ∨ (b = a ∧ j = 6) ∨ (b = a ∧ j = 7) ∨ (b = a ∧ j = 8) ∨ (b = a ∧ j = 9) ∨ b = a + 12 ∨ b = a + 3 ∨ b = a + 9
def WSX12_network (a : Nat) : Nat → Nat → Prop := fun b j => (b = a ∧ j = 0) ∨ (b = a ∧ j = 10) ∨ (b = a ∧ j = 11) ∨ (b = a ∧ j = 12) ∨ (b = a ∧ j = 13) ∨ (b = a ∧ j = 2) ∨ (b = a ∧ j = 25) ∨ (b = a ∧ j = 3) ∨ (b = a ∧ j = 4) ∨ (b = a ∧ j = 5) ∨ (b = a ∧ j = 6) ∨ (b = a ∧ j = 7) ∨ (b = a ∧ j = 8) ∨ (b = a ∧ j = 9) ∨ b = a + 12 ∨ b = a + 2 ∨ b = a + 3 ∨ b = a + 8 ∨ b = a + 9
def WSX12_network_L9 (q0 : Nat) : Nat → Nat → Prop := fun b j => b = q0 + 3
def WSX12_network_L30 (q0 : Nat) : Nat → Nat → Prop := fun b j => b = q0 + 12 ∨ b = q0 + 3
def WSX12_network_L61 (q0 : Nat) : Nat → Nat → Prop := fun b j => (b = q0 ∧ j = 10) ∨ (b = q0 ∧ j = 11) ∨ (b = q0 ∧ j = 12) ∨ (b = q0 ∧ j = 13) ∨ (b = q0 ∧ j = 5) ∨ (b = q0 ∧ j = 6) ∨ (b = q0 ∧ j = 7) ∨ (b = q0 ∧ j = 8) ∨ (b = q0 ∧ j = 9) ∨ b = q0 + 12 ∨ b = q0 + 3 ∨ b = q0 + 9
def WSX12_network_L97 (q0 : Nat) : Nat → Nat → Prop := fun b j => b = q0 + 2
def WSX12_network_L123 (q0 : Nat) : Nat → Nat → Prop := fun b j => b = q0 + 8
def WSX12_fault (a : Nat) : Nat → Nat → Prop := fun b j => (b = a ∧ j = 0)
def WSX12_point (a : Nat) : Nat → Nat → Prop := fun b j => (b = a ∧ j = 0)
def WSX12_leaf (a : Nat) : Nat → Nat → Prop := fun b j => (b = a ∧ j = 41) ∨ (b = a ∧ j = 42) ∨ (b = a ∧ j = 43) ∨ (b = a ∧ j = 44) ∨ b = a + 17 ∨ b = a + 19 ∨ b = a + 20 ∨ b = a + 21 ∨ b = a + 22
def WSX12_leaf_L121 (q0 : Nat) : Nat → Nat → Prop := fun b j => b = q0 + 21
def WSX12_leaf_L192 (q0 : Nat) : Nat → Nat → Prop := fun b j => b = q0 + 22
def WSX12_leaf_L50 (q0 : Nat) : Nat → Nat → Prop := fun b j => b = q0 + 17
def WSX12_walk (a : Nat) : Nat → Nat → Prop := fun b j => (b = a ∧ j = 41) ∨ (b = a ∧ j = 42) ∨ (b = a ∧ j = 43) ∨ (b = a ∧ j = 44) ∨ b = a + 16 ∨ b = a + 17 ∨ b = a + 19 ∨ b = a + 20 ∨ b = a + 21 ∨ b = a + 22
def WSX12_walk_L55 (q0 : Nat) : Nat → Nat → Prop := fun b j => (b = q0 ∧ j = 41) ∨ (b = q0 ∧ j = 42) ∨ (b = q0 ∧ j = 43) ∨ (b = q0 ∧ j = 44) ∨ b = q0 + 16 ∨ b = q0 + 17 ∨ b = q0 + 19 ∨ b = q0 + 20 ∨ b = q0 + 21 ∨ b = q0 + 22
def WSX12_survey (a : Nat) : Nat → Nat → Prop := fun b j => (b = a ∧ j = 41) ∨ (b = a ∧ j = 42) ∨ (b = a ∧ j = 43) ∨ (b = a ∧ j = 44) ∨ (b = a ∧ j = 46) ∨ b = a + 16 ∨ b = a + 17 ∨ b = a + 19 ∨ b = a + 20 ∨ b = a + 21 ∨ b = a + 22
def WSX12_survey_L7 (q0 : Nat) : Nat → Nat → Prop := fun b j => b = q0 + 19 ∨ b = q0 + 20
def WSX12_survey_L34 (q0 : Nat) : Nat → Nat → Prop := fun b j => b = q0 + 16
def WSX12_surveyMost (a : Nat) : Nat → Nat → Prop := fun b j => (b = a ∧ j = 41) ∨ (b = a ∧ j = 42) ∨ (b = a ∧ j = 43) ∨ (b = a ∧ j = 44) ∨ (b = a ∧ j = 46) ∨ b = a + 16 ∨ b = a + 17 ∨ b = a + 19 ∨ b = a + 20 ∨ b = a + 21 ∨ b = a + 22
def WSX12_surveyMost_L21 (q0 : Nat) : Nat → Nat → Prop := fun b j => b = q0 + 21
def WSX12_surveyMost_L42 (q0 : Nat) : Nat → Nat → Prop := fun b j => b = q0 + 22
def WSX12_fateOf (a : Nat) : Nat → Nat → Prop := fun b j => (b = a ∧ j = 41) ∨ (b = a ∧ j = 42) ∨ (b = a ∧ j = 43) ∨ (b = a ∧ j = 44) ∨ (b = a ∧ j = 46) ∨ (b = a ∧ j = 47) ∨ b = a + 16 ∨ b = a + 17 ∨ b = a + 19 ∨ b = a + 20 ∨ b = a + 21 ∨ b = a + 22
def WSX12_link (a : Nat) : Nat → Nat → Prop := fun b j => (b = a ∧ j = 0) ∨ (b = a ∧ j = 41) ∨ (b = a ∧ j = 42) ∨ (b = a ∧ j = 43) ∨ (b = a ∧ j = 44) ∨ (b = a ∧ j = 46) ∨ (b = a ∧ j = 47) ∨ b = a + 16 ∨ b = a + 17 ∨ b = a + 19 ∨ b = a + 20 ∨ b = a + 21 ∨ b = a + 22
def WSX12_slack (a : Nat) : Nat → Nat → Prop := fun b j => (b = a ∧ j = 0)
def WSX12_odd (a : Nat) : Nat → Nat → Prop := fun b j => (b = a ∧ j = 0)
def WSX12_now (a : Nat) : Nat → Nat → Prop := fun b j => (b = a ∧ j = 0)
def WSX12_goesOn (a : Nat) : Nat → Nat → Prop := fun b j => b = a + 13
def WSX12_goesOn_L25 (q0 : Nat) : Nat → Nat → Prop := fun b j => b = q0 + 13
def WSX12_layPath (a : Nat) : Nat → Nat → Prop := fun b j => b = a + 13
def WSX12_layPath_L9 (q0 : Nat) : Nat → Nat → Prop := fun b j => b = q0 + 13
def WSX12_turnPath (a p0 : Nat) : Nat → Nat → Prop := fun b j => b = a + 2
def WSX12_turnPath_L2 (q0 q1 : Nat) : Nat → Nat → Prop := fun b j => b = q0 + 2
def WSX12_flowers (a : Nat) : Nat → Nat → Prop := fun b j => b = a + 13
def WSX12_flowers_L31 (q0 : Nat) : Nat → Nat → Prop := fun b j => b = q0 + 13
def WSX12_grow (a : Nat) : Nat → Nat → Prop := fun b j => (b = a ∧ j = 0) ∨ (b = a ∧ j = 29) ∨ b = a + 13 ∨ b = a + 14
def WSX12_grow_L42 (q0 : Nat) : Nat → Nat → Prop := fun b j => b = q0 + 14
def WSX12_growAt (a : Nat) : Nat → Nat → Prop := fun b j => (b = a ∧ j = 0)
def WSX12_flower (a : Nat) : Nat → Nat → Prop := fun b j => (b = a ∧ j = 0) ∨ (b = a ∧ j = 30) ∨ b = a + 13 ∨ b = a + 15
def WSX12_flower_L24 (q0 : Nat) : Nat → Nat → Prop := fun b j => (b = q0 ∧ j = 30) ∨ b = q0 + 13 ∨ b = q0 + 15
def WSX12_flower_L56 (q0 : Nat) : Nat → Nat → Prop := fun b j => b = q0 + 15
def WSX12_flowerAt (a : Nat) : Nat → Nat → Prop := fun b j => (b = a ∧ j = 0)
def WSX12_save (a p0 : Nat) : Nat → Nat → Prop := fun b j => b = p0
def WSX12_save_L2 (q0 q1 : Nat) : Nat → Nat → Prop := fun b j => b = q1
def WSX12_comeBack (a p0 : Nat) : Nat → Nat → Prop := fun b j => b = a + 2
def WSX12_comeBack_L2 (q0 q1 : Nat) : Nat → Nat → Prop := fun b j => b = q0 + 2
def WSX12_snap (a : Nat) : Nat → Nat → Prop := fun b j => (b = a ∧ j = 25) ∨ b = a + 5
def WSX12_snap_L11 (q0 : Nat) : Nat → Nat → Prop := fun b j => b = q0 + 5
def WSX12_refusal (a : Nat) : Nat → Nat → Prop := fun b j => b = a + 13
def WSX12_openOdd (a : Nat) : Nat → Nat → Prop := fun b j => b = a + 2
def WSX12_openOdd_L13 (q0 : Nat) : Nat → Nat → Prop := fun b j => b = q0 + 2
def WSX12_live (a : Nat) : Nat → Nat → Prop := fun b j => b = a + 13 ∨ b = a + 2
def WSX12_act (a : Nat) : Nat → Nat → Prop := fun b j => (b = a ∧ j = 25) ∨ b = a + 13 ∨ b = a + 2 ∨ b = a + 5
def WSX12_pair (a : Nat) : Nat → Nat → Prop := fun b j => (b = a ∧ j = 0) ∨ (b = a ∧ j = 25) ∨ b = a + 13 ∨ b = a + 2 ∨ b = a + 5
def WSX12_part (a : Nat) : Nat → Nat → Prop := fun b j => (b = a ∧ j = 0) ∨ (b = a ∧ j = 25) ∨ b = a + 13 ∨ b = a + 2 ∨ b = a + 5
def WSX12_weigh (a : Nat) : Nat → Nat → Prop := fun b j => (b = a ∧ j = 0) ∨ (b = a ∧ j = 25) ∨ b = a + 13 ∨ b = a + 2 ∨ b = a + 5
def WSX12_price (a : Nat) : Nat → Nat → Prop := fun b j => (b = a ∧ j = 0) ∨ (b = a ∧ j = 25) ∨ b = a + 13 ∨ b = a + 2 ∨ b = a + 5
def WSX12_crown (a : Nat) : Nat → Nat → Prop := fun b j => (b = a ∧ j = 0) ∨ (b = a ∧ j = 25) ∨ b = a + 13 ∨ b = a + 2 ∨ b = a + 5
def WSX12_open (a : Nat) : Nat → Nat → Prop := fun b j => (b = a ∧ j = 0) ∨ (b = a ∧ j = 25) ∨ b = a + 13 ∨ b = a + 2 ∨ b = a + 5
def WSX12_turn (a : Nat) : Nat → Nat → Prop := fun b j => (b = a ∧ j = 0) ∨ (b = a ∧ j = 25) ∨ b = a + 2 ∨ b = a + 5
def WSX12_shrink (a : Nat) : Nat → Nat → Prop := fun b j => (b = a ∧ j = 0) ∨ (b = a ∧ j = 25) ∨ b = a + 2 ∨ b = a + 5
def WSX12_undo (a : Nat) : Nat → Nat → Prop := fun b j => (b = a ∧ j = 0) ∨ (b = a ∧ j = 25) ∨ b = a + 2
def WSX12_proof (a : Nat) : Nat → Nat → Prop := fun b j => (b = a ∧ j = 0) ∨ (b = a ∧ j = 31) ∨ (b = a ∧ j = 32) ∨ (b = a ∧ j = 33)
def WSX12_proof_L17 (q0 : Nat) : Nat → Nat → Prop := fun b j => (b = q0 ∧ j = 31) ∨ (b = q0 ∧ j = 32)
def WSX12_proofAt (a : Nat) : Nat → Nat → Prop := fun b j => (b = a ∧ j = 0)
def WSX12_proofBy (a : Nat) : Nat → Nat → Prop := fun b j => (b = a ∧ j = 0)
def WSX12_room (a : Nat) : Nat → Nat → Prop := fun b j => (b = a ∧ j = 0)
def WSX12_best (a : Nat) : Nat → Nat → Prop := fun b j => (b = a ∧ j = 0) ∨ (b = a ∧ j = 41) ∨ (b = a ∧ j = 42) ∨ (b = a ∧ j = 43) ∨ (b = a ∧ j = 44) ∨ (b = a ∧ j = 45) ∨ (b = a ∧ j = 46) ∨ b = a + 16 ∨ b = a + 17 ∨ b = a + 18 ∨ b = a + 19 ∨ b = a + 20 ∨ b = a + 21 ∨ b = a + 22
def WSX12_best_L21 (q0 : Nat) : Nat → Nat → Prop := fun b j => b = q0 + 18
def WSX12_bestOf (a : Nat) : Nat → Nat → Prop := fun b j => (b = a ∧ j = 0)
def WSX12_next (a : Nat) : Nat → Nat → Prop := fun b j => (b = a ∧ j = 0) ∨ (b = a ∧ j = 41) ∨ (b = a ∧ j = 42) ∨ (b = a ∧ j = 43) ∨ (b = a ∧ j = 44) ∨ (b = a ∧ j = 46) ∨ (b = a ∧ j = 47) ∨ b = a + 16 ∨ b = a + 17 ∨ b = a + 19 ∨ b = a + 20 ∨ b = a + 21 ∨ b = a + 22
def WSX12_heavy (a : Nat) : Nat → Nat → Prop := fun b j => (b = a ∧ j = 0) ∨ (b = a ∧ j = 41) ∨ (b = a ∧ j = 42) ∨ (b = a ∧ j = 43) ∨ (b = a ∧ j = 44) ∨ (b = a ∧ j = 46) ∨ b = a + 16 ∨ b = a + 17 ∨ b = a + 19 ∨ b = a + 20 ∨ b = a + 21 ∨ b = a + 22
def WSX12_ways (a : Nat) : Nat → Nat → Prop := fun b j => (b = a ∧ j = 0) ∨ (b = a ∧ j = 41) ∨ (b = a ∧ j = 42) ∨ (b = a ∧ j = 43) ∨ (b = a ∧ j = 44) ∨ (b = a ∧ j = 46) ∨ b = a + 16 ∨ b = a + 17 ∨ b = a + 19 ∨ b = a + 20 ∨ b = a + 21 ∨ b = a + 22
def WSX12_who (a : Nat) : Nat → Nat → Prop := fun b j => (b = a ∧ j = 0) ∨ (b = a ∧ j = 2) ∨ (b = a ∧ j = 41) ∨ (b = a ∧ j = 42) ∨ (b = a ∧ j = 43) ∨ (b = a ∧ j = 44) ∨ (b = a ∧ j = 46) ∨ (b = a ∧ j = 47) ∨ (b = a ∧ j = 48) ∨ b = a + 16 ∨ b = a + 17 ∨ b = a + 19 ∨ b = a + 20 ∨ b = a + 21 ∨ b = a + 22
def WSX12_who_L109 (q0 : Nat) : Nat → Nat → Prop := fun b j => (b = q0 ∧ j = 48)
def WSX12_ask (a : Nat) : Nat → Nat → Prop := fun b j => (b = a ∧ j = 0)
def WSX12_stroke (a : Nat) : Nat → Nat → Prop := fun b j => (b = a ∧ j = 49)
def WSX12_stroke_L44 (q0 : Nat) : Nat → Nat → Prop := fun b j => (b = q0 ∧ j = 49)
def WSX12_gain (a : Nat) : Nat → Nat → Prop := fun b j => (b = a ∧ j = 0) ∨ (b = a ∧ j = 49)
def WSX12_gain_L12 (q0 : Nat) : Nat → Nat → Prop := fun b j => (b = q0 ∧ j = 49)
def WSX12_gain_L24 (q0 : Nat) : Nat → Nat → Prop := fun b j => (b = q0 ∧ j = 49)
def WSX12_mean (a : Nat) : Nat → Nat → Prop := fun b j => (b = a ∧ j = 0)
def WSX12_write (a : Nat) : Nat → Nat → Prop := fun b j => (b = a ∧ j = 51) ∨ b = a + 23
def WSX12_writeWord (a : Nat) : Nat → Nat → Prop := fun b j => (b = a ∧ j = 51) ∨ b = a + 23
def WSX12_writeNext (a : Nat) : Nat → Nat → Prop := fun b j => (b = a ∧ j = 51) ∨ b = a + 23
def WSX12_writeNumber (a : Nat) : Nat → Nat → Prop := fun b j => (b = a ∧ j = 51) ∨ b = a + 23
def WSX12_tag (a : Nat) : Nat → Nat → Prop := fun b j => (b = a ∧ j = 0) ∨ (b = a ∧ j = 51) ∨ b = a + 23
def WSX12_byteAt (a : Nat) : Nat → Nat → Prop := fun b j => (b = a ∧ j = 0)
def WSX12_draw (a : Nat) : Nat → Nat → Prop := fun b j => (b = a ∧ j = 52)
def WSX12_drawPoint (a : Nat) : Nat → Nat → Prop := fun b j => (b = a ∧ j = 52)
def WSX12_doIf (a : Nat) : Nat → Nat → Prop := fun b j => b = a + 13 ∨ b = a + 2
def WSX12_drawsDeed (a : Nat) : Nat → Nat → Prop := fun b j => (b = a ∧ j = 52) ∨ b = a + 13 ∨ b = a + 2
def WSX12_drawDeeds (a : Nat) : Nat → Nat → Prop := fun b j => (b = a ∧ j = 52) ∨ b = a + 13 ∨ b = a + 2
def WSX12_drawDeeds_L10 (q0 : Nat) : Nat → Nat → Prop := fun b j => (b = q0 ∧ j = 52) ∨ b = q0 + 13 ∨ b = q0 + 2
def WSX12_stay (a : Nat) : Nat → Nat → Prop := fun b j => (b = a ∧ j = 25) ∨ b = a + 2 ∨ b = a + 5 ∨ b = a + 6
def WSX12_drawn (a : Nat) : Nat → Nat → Prop := fun b j => (b = a ∧ j = 0) ∨ (b = a ∧ j = 25) ∨ (b = a ∧ j = 52) ∨ b = a + 13 ∨ b = a + 2 ∨ b = a + 5 ∨ b = a + 6 ∨ b = a + 7
def WSX12_odds (a : Nat) : Nat → Nat → Prop := fun b j => (b = a ∧ j = 0) ∨ (b = a ∧ j = 52) ∨ b = a + 13 ∨ b = a + 2 ∨ b = a + 7
def WSX12_odds_L40 (q0 : Nat) : Nat → Nat → Prop := fun b j => (b = q0 ∧ j = 52) ∨ b = q0 + 13 ∨ b = q0 + 2
def WSX12_keep (a : Nat) : Nat → Nat → Prop := fun b j => b = a + 24
def WSX12_readPointName (a : Nat) : Nat → Nat → Prop := fun b j => (b = a ∧ j = 10) ∨ (b = a ∧ j = 11) ∨ (b = a ∧ j = 12) ∨ (b = a ∧ j = 13) ∨ (b = a ∧ j = 5) ∨ (b = a ∧ j = 6) ∨ (b = a ∧ j = 7) ∨ (b = a ∧ j = 8) ∨ (b = a ∧ j = 9)
def WSX12_readOther (a : Nat) : Nat → Nat → Prop := fun b j => (b = a ∧ j = 10) ∨ (b = a ∧ j = 11) ∨ (b = a ∧ j = 12) ∨ (b = a ∧ j = 5) ∨ (b = a ∧ j = 6) ∨ (b = a ∧ j = 7) ∨ (b = a ∧ j = 8) ∨ (b = a ∧ j = 9) ∨ b = a + 24
def WSX12_readBookLine (a : Nat) : Nat → Nat → Prop := fun b j => (b = a ∧ j = 10) ∨ (b = a ∧ j = 11) ∨ (b = a ∧ j = 12) ∨ (b = a ∧ j = 13) ∨ (b = a ∧ j = 5) ∨ (b = a ∧ j = 6) ∨ (b = a ∧ j = 7) ∨ (b = a ∧ j = 8) ∨ (b = a ∧ j = 9) ∨ b = a + 24
def WSX12_goBy (a : Nat) : Nat → Nat → Prop := fun b j => b = a + 13 ∨ b = a + 2
def WSX12_book (a : Nat) : Nat → Nat → Prop := fun b j => (b = a ∧ j = 0) ∨ (b = a ∧ j = 10) ∨ (b = a ∧ j = 11) ∨ (b = a ∧ j = 12) ∨ (b = a ∧ j = 13) ∨ (b = a ∧ j = 2) ∨ (b = a ∧ j = 25) ∨ (b = a ∧ j = 3) ∨ (b = a ∧ j = 4) ∨ (b = a ∧ j = 5) ∨ (b = a ∧ j = 55) ∨ (b = a ∧ j = 56) ∨ (b = a ∧ j = 6) ∨ (b = a ∧ j = 7) ∨ (b = a ∧ j = 8) ∨ (b = a ∧ j = 9) ∨ b = a + 13 ∨ b = a + 2 ∨ b = a + 24 ∨ b = a + 25 ∨ b = a + 5 ∨ b = a + 6 ∨ b = a + 7
def WSX12_book_L30 (q0 : Nat) : Nat → Nat → Prop := fun b j => (b = q0 ∧ j = 10) ∨ (b = q0 ∧ j = 11) ∨ (b = q0 ∧ j = 12) ∨ (b = q0 ∧ j = 13) ∨ (b = q0 ∧ j = 5) ∨ (b = q0 ∧ j = 55) ∨ (b = q0 ∧ j = 6) ∨ (b = q0 ∧ j = 7) ∨ (b = q0 ∧ j = 8) ∨ (b = q0 ∧ j = 9) ∨ b = q0 + 24
def WSX12_book_L78 (q0 : Nat) : Nat → Nat → Prop := fun b j => b = q0 + 13 ∨ b = q0 + 2
def WSX12_told (a : Nat) : Nat → Nat → Prop := fun b j => (b = a ∧ j = 0)
def WSX12_readThat (a : Nat) : Nat → Nat → Prop := fun b j => (b = a ∧ j = 10) ∨ (b = a ∧ j = 11) ∨ (b = a ∧ j = 12) ∨ (b = a ∧ j = 13) ∨ (b = a ∧ j = 5) ∨ (b = a ∧ j = 6) ∨ (b = a ∧ j = 7) ∨ (b = a ∧ j = 8) ∨ (b = a ∧ j = 9)
def WSX12_saysOne (a : Nat) : Nat → Nat → Prop := fun b j => (b = a ∧ j = 58) ∨ b = a + 26
def WSX12_readAnd (a : Nat) : Nat → Nat → Prop := fun b j => (b = a ∧ j = 10) ∨ (b = a ∧ j = 11) ∨ (b = a ∧ j = 12) ∨ (b = a ∧ j = 13) ∨ (b = a ∧ j = 5) ∨ (b = a ∧ j = 58) ∨ (b = a ∧ j = 59) ∨ (b = a ∧ j = 6) ∨ (b = a ∧ j = 60) ∨ (b = a ∧ j = 61) ∨ (b = a ∧ j = 7) ∨ (b = a ∧ j = 8) ∨ (b = a ∧ j = 9) ∨ b = a + 26
def WSX12_readAnd_L14 (q0 : Nat) : Nat → Nat → Prop := fun b j => (b = q0 ∧ j = 10) ∨ (b = q0 ∧ j = 11) ∨ (b = q0 ∧ j = 12) ∨ (b = q0 ∧ j = 13) ∨ (b = q0 ∧ j = 5) ∨ (b = q0 ∧ j = 58) ∨ (b = q0 ∧ j = 59) ∨ (b = q0 ∧ j = 6) ∨ (b = q0 ∧ j = 60) ∨ (b = q0 ∧ j = 61) ∨ (b = q0 ∧ j = 7) ∨ (b = q0 ∧ j = 8) ∨ (b = q0 ∧ j = 9) ∨ b = q0 + 26
def WSX12_readOr (a : Nat) : Nat → Nat → Prop := fun b j => (b = a ∧ j = 10) ∨ (b = a ∧ j = 11) ∨ (b = a ∧ j = 12) ∨ (b = a ∧ j = 13) ∨ (b = a ∧ j = 5) ∨ (b = a ∧ j = 58) ∨ (b = a ∧ j = 59) ∨ (b = a ∧ j = 6) ∨ (b = a ∧ j = 60) ∨ (b = a ∧ j = 61) ∨ (b = a ∧ j = 7) ∨ (b = a ∧ j = 8) ∨ (b = a ∧ j = 9) ∨ b = a + 26
def WSX12_readOr_L14 (q0 : Nat) : Nat → Nat → Prop := fun b j => (b = q0 ∧ j = 10) ∨ (b = q0 ∧ j = 11) ∨ (b = q0 ∧ j = 12) ∨ (b = q0 ∧ j = 13) ∨ (b = q0 ∧ j = 5) ∨ (b = q0 ∧ j = 58) ∨ (b = q0 ∧ j = 59) ∨ (b = q0 ∧ j = 6) ∨ (b = q0 ∧ j = 60) ∨ (b = q0 ∧ j = 61) ∨ (b = q0 ∧ j = 7) ∨ (b = q0 ∧ j = 8) ∨ (b = q0 ∧ j = 9) ∨ b = q0 + 26
def WSX12_readBracket (a : Nat) : Nat → Nat → Prop := fun b j => (b = a ∧ j = 10) ∨ (b = a ∧ j = 11) ∨ (b = a ∧ j = 12) ∨ (b = a ∧ j = 13) ∨ (b = a ∧ j = 5) ∨ (b = a ∧ j = 58) ∨ (b = a ∧ j = 59) ∨ (b = a ∧ j = 6) ∨ (b = a ∧ j = 60) ∨ (b = a ∧ j = 61) ∨ (b = a ∧ j = 7) ∨ (b = a ∧ j = 8) ∨ (b = a ∧ j = 9) ∨ b = a + 26
def WSX12_readNot (a : Nat) : Nat → Nat → Prop := fun b j => (b = a ∧ j = 10) ∨ (b = a ∧ j = 11) ∨ (b = a ∧ j = 12) ∨ (b = a ∧ j = 13) ∨ (b = a ∧ j = 5) ∨ (b = a ∧ j = 58) ∨ (b = a ∧ j = 59) ∨ (b = a ∧ j = 6) ∨ (b = a ∧ j = 60) ∨ (b = a ∧ j = 61) ∨ (b = a ∧ j = 7) ∨ (b = a ∧ j = 8) ∨ (b = a ∧ j = 9) ∨ b = a + 26
def WSX12_readOf (a : Nat) : Nat → Nat → Prop := fun b j => (b = a ∧ j = 10) ∨ (b = a ∧ j = 11) ∨ (b = a ∧ j = 12) ∨ (b = a ∧ j = 13) ∨ (b = a ∧ j = 5) ∨ (b = a ∧ j = 58) ∨ (b = a ∧ j = 6) ∨ (b = a ∧ j = 61) ∨ (b = a ∧ j = 7) ∨ (b = a ∧ j = 8) ∨ (b = a ∧ j = 9) ∨ b = a + 26
def WSX12_readCompare (a : Nat) : Nat → Nat → Prop := fun b j => (b = a ∧ j = 10) ∨ (b = a ∧ j = 11) ∨ (b = a ∧ j = 12) ∨ (b = a ∧ j = 13) ∨ (b = a ∧ j = 5) ∨ (b = a ∧ j = 58) ∨ (b = a ∧ j = 6) ∨ (b = a ∧ j = 61) ∨ (b = a ∧ j = 7) ∨ (b = a ∧ j = 8) ∨ (b = a ∧ j = 9) ∨ b = a + 26
def WSX12_readSaid (a : Nat) : Nat → Nat → Prop := fun b j => (b = a ∧ j = 10) ∨ (b = a ∧ j = 11) ∨ (b = a ∧ j = 12) ∨ (b = a ∧ j = 13) ∨ (b = a ∧ j = 5) ∨ (b = a ∧ j = 58) ∨ (b = a ∧ j = 59) ∨ (b = a ∧ j = 6) ∨ (b = a ∧ j = 60) ∨ (b = a ∧ j = 61) ∨ (b = a ∧ j = 7) ∨ (b = a ∧ j = 8) ∨ (b = a ∧ j = 9) ∨ b = a + 26
def WSX12_sentence (a : Nat) : Nat → Nat → Prop := fun b j => (b = a ∧ j = 0) ∨ (b = a ∧ j = 10) ∨ (b = a ∧ j = 11) ∨ (b = a ∧ j = 12) ∨ (b = a ∧ j = 13) ∨ (b = a ∧ j = 2) ∨ (b = a ∧ j = 3) ∨ (b = a ∧ j = 4) ∨ (b = a ∧ j = 5) ∨ (b = a ∧ j = 58) ∨ (b = a ∧ j = 59) ∨ (b = a ∧ j = 6) ∨ (b = a ∧ j = 60) ∨ (b = a ∧ j = 61) ∨ (b = a ∧ j = 7) ∨ (b = a ∧ j = 8) ∨ (b = a ∧ j = 9) ∨ b = a + 2 ∨ b = a + 26
def WSX12_sentence_L79 (q0 : Nat) : Nat → Nat → Prop := fun b j => b = q0 + 2
def WSX12_said (a : Nat) : Nat → Nat → Prop := fun b j => (b = a ∧ j = 0)
def WSX12_image (a : Nat) : Nat → Nat → Prop := fun b j => (b = a ∧ j = 0) ∨ b = a + 10 ∨ b = a + 11 ∨ b = a + 4
def WSX12_image_L18 (q0 : Nat) : Nat → Nat → Prop := fun b j => b = q0 + 4
def WSX12_image_L51 (q0 : Nat) : Nat → Nat → Prop := fun b j => b = q0 + 10
def WSX12_restore (a : Nat) : Nat → Nat → Prop := fun b j => (b = a ∧ j = 0) ∨ (b = a ∧ j = 25) ∨ b = a + 2 ∨ b = a + 8
def WSX12_restore_L27 (q0 : Nat) : Nat → Nat → Prop := fun b j => b = q0 + 2
def WSX12_restore_L60 (q0 : Nat) : Nat → Nat → Prop := fun b j => b = q0 + 8
def WSX12_count (a : Nat) : Nat → Nat → Prop := fun b j => (b = a ∧ j = 0)
set_option maxRecDepth 20000 in
theorem ZX4_clear_L27 {q0 : Nat} : ∀ (f : Nat) {y1 : Int32} {m : mB} {q : (mB)}, FX4_clear_L27 q0 f y1 m = some q → mx_out (WSX4_clear_L27 q0) m q := by
  intro f
  induction f with
  | zero => intro _ _ _ h; cases h
  | succ f ih =>
    intro y1 m q h
    rw [FX4_clear_L27] at h
    have z0 : mx_out (WSX4_clear_L27 q0) m m := mx_out.rf
    by_cases hc6z : 100 ≤ y1
    · rw [if_pos hc6z] at h
      obtain rfl := Option.some.inj h
      exact z0
    · rw [if_neg hc6z] at h
      obtain ⟨-, h⟩ := mx_chkE h
      obtain ⟨m7, e_m7, h⟩ := mx_letE h
      have z1 : mx_out (WSX4_clear_L27 q0) m m7 := by first | exact mx_out_up z0 e_m7 rfl | exact mx_out_ul z0 e_m7 rfl | exact mx_out_cp z0 e_m7 (fun j => rfl) | exact mx_out_cl z0 e_m7 (fun j => rfl)
      obtain ⟨v9, -, h⟩ := mx_letE h
      exact mx_out.tr z1 (ih h)
set_option maxRecDepth 20000 in
theorem ZX4_clear {a : Nat} {m : mB} {r : mB} (h : FX4_clear a m = some r) : mx_out (WSX4_clear a) m r := by
  unfold FX4_clear at h
  have z0 : mx_out (WSX4_clear a) m m := mx_out.rf
  obtain ⟨m1, e_m1, h⟩ := mx_letE h
  have z2 : mx_out (WSX4_clear a) m m1 := by first | exact mx_out_up z0 e_m1 (Or.inl ⟨rfl, rfl⟩) | exact mx_out_ul z0 e_m1 (Or.inl ⟨rfl, rfl⟩) | exact mx_out_cp z0 e_m1 (fun j => (Or.inl ⟨rfl, rfl⟩)) | exact mx_out_cl z0 e_m1 (fun j => (Or.inl ⟨rfl, rfl⟩))
  obtain ⟨m2, e_m2, h⟩ := mx_letE h
  have z3 : mx_out (WSX4_clear a) m m2 := by first | exact mx_out_up z2 e_m2 (Or.inr (Or.inl ⟨rfl, rfl⟩)) | exact mx_out_ul z2 e_m2 (Or.inr (Or.inl ⟨rfl, rfl⟩)) | exact mx_out_cp z2 e_m2 (fun j => (Or.inr (Or.inl ⟨rfl, rfl⟩))) | exact mx_out_cl z2 e_m2 (fun j => (Or.inr (Or.inl ⟨rfl, rfl⟩)))
  obtain ⟨m3, e_m3, h⟩ := mx_letE h
  have z4 : mx_out (WSX4_clear a) m m3 := by first | exact mx_out_up z3 e_m3 (Or.inr (Or.inr (Or.inl ⟨rfl, rfl⟩))) | exact mx_out_ul z3 e_m3 (Or.inr (Or.inr (Or.inl ⟨rfl, rfl⟩))) | exact mx_out_cp z3 e_m3 (fun j => (Or.inr (Or.inr (Or.inl ⟨rfl, rfl⟩)))) | exact mx_out_cl z3 e_m3 (fun j => (Or.inr (Or.inr (Or.inl ⟨rfl, rfl⟩))))
  obtain ⟨m4, e_m4, h⟩ := mx_letE h
  have z5 : mx_out (WSX4_clear a) m m4 := by first | exact mx_out_up z4 e_m4 (Or.inr (Or.inr (Or.inr (Or.inl ⟨rfl, rfl⟩)))) | exact mx_out_ul z4 e_m4 (Or.inr (Or.inr (Or.inr (Or.inl ⟨rfl, rfl⟩)))) | exact mx_out_cp z4 e_m4 (fun j => (Or.inr (Or.inr (Or.inr (Or.inl ⟨rfl, rfl⟩))))) | exact mx_out_cl z4 e_m4 (fun j => (Or.inr (Or.inr (Or.inr (Or.inl ⟨rfl, rfl⟩)))))
  obtain ⟨m5, e_m5, h⟩ := mx_letE h
  have z6 : mx_out (WSX4_clear a) m m5 := by first | exact mx_out_up z5 e_m5 (Or.inr (Or.inr (Or.inr (Or.inr (Or.inl ⟨rfl, rfl⟩))))) | exact mx_out_ul z5 e_m5 (Or.inr (Or.inr (Or.inr (Or.inr (Or.inl ⟨rfl, rfl⟩))))) | exact mx_out_cp z5 e_m5 (fun j => (Or.inr (Or.inr (Or.inr (Or.inr (Or.inl ⟨rfl, rfl⟩)))))) | exact mx_out_cl z5 e_m5 (fun j => (Or.inr (Or.inr (Or.inr (Or.inr (Or.inl ⟨rfl, rfl⟩))))))
  obtain ⟨q10, h_q10, h⟩ := Option.bind_eq_some_iff.mp h
  have z7 := mx_out.tr z6 (mx_out.sub (S := (WSX4_clear a)) (ZX4_clear_L27 mx_FU h_q10) (fun b j hb => (Or.inr (Or.inr (Or.inr (Or.inr (Or.inr hb)))))))
  obtain rfl := Option.some.inj h
  exact z7
set_option maxRecDepth 20000 in
theorem ZX4_copyLinksFrom {a : Nat} {p0 : Nat} {m : mB} {r : mB} (h : FX4_copyLinksFrom a p0 m = some r) : mx_out (WSX4_copyLinksFrom a p0) m r := by
  unfold FX4_copyLinksFrom at h
  have z0 : mx_out (WSX4_copyLinksFrom a p0) m m := mx_out.rf
  obtain ⟨m1, e_m1, h⟩ := mx_letE h
  have z1 : mx_out (WSX4_copyLinksFrom a p0) m m1 := by first | exact mx_out_up z0 e_m1 (Or.inl ⟨rfl, rfl⟩) | exact mx_out_ul z0 e_m1 (Or.inl ⟨rfl, rfl⟩) | exact mx_out_cp z0 e_m1 (fun j => (Or.inl ⟨rfl, rfl⟩)) | exact mx_out_cl z0 e_m1 (fun j => (Or.inl ⟨rfl, rfl⟩))
  obtain ⟨m2, e_m2, h⟩ := mx_letE h
  have z2 : mx_out (WSX4_copyLinksFrom a p0) m m2 := by first | exact mx_out_up z1 e_m2 (Or.inr (Or.inl ⟨rfl, rfl⟩)) | exact mx_out_ul z1 e_m2 (Or.inr (Or.inl ⟨rfl, rfl⟩)) | exact mx_out_cp z1 e_m2 (fun j => (Or.inr (Or.inl ⟨rfl, rfl⟩))) | exact mx_out_cl z1 e_m2 (fun j => (Or.inr (Or.inl ⟨rfl, rfl⟩)))
  obtain ⟨m3, e_m3, h⟩ := mx_letE h
  have z3 : mx_out (WSX4_copyLinksFrom a p0) m m3 := by first | exact mx_out_up z2 e_m3 (Or.inr (Or.inr (Or.inl rfl))) | exact mx_out_ul z2 e_m3 (Or.inr (Or.inr (Or.inl rfl))) | exact mx_out_cp z2 e_m3 (fun j => (Or.inr (Or.inr (Or.inl rfl)))) | exact mx_out_cl z2 e_m3 (fun j => (Or.inr (Or.inr (Or.inl rfl))))
  obtain ⟨m4, e_m4, h⟩ := mx_letE h
  have z4 : mx_out (WSX4_copyLinksFrom a p0) m m4 := by first | exact mx_out_up z3 e_m4 (Or.inr (Or.inr (Or.inr (Or.inl rfl)))) | exact mx_out_ul z3 e_m4 (Or.inr (Or.inr (Or.inr (Or.inl rfl)))) | exact mx_out_cp z3 e_m4 (fun j => (Or.inr (Or.inr (Or.inr (Or.inl rfl))))) | exact mx_out_cl z3 e_m4 (fun j => (Or.inr (Or.inr (Or.inr (Or.inl rfl)))))
  obtain ⟨m5, e_m5, h⟩ := mx_letE h
  have z5 : mx_out (WSX4_copyLinksFrom a p0) m m5 := by first | exact mx_out_up z4 e_m5 (Or.inr (Or.inr (Or.inr (Or.inr (Or.inl rfl))))) | exact mx_out_ul z4 e_m5 (Or.inr (Or.inr (Or.inr (Or.inr (Or.inl rfl))))) | exact mx_out_cp z4 e_m5 (fun j => (Or.inr (Or.inr (Or.inr (Or.inr (Or.inl rfl)))))) | exact mx_out_cl z4 e_m5 (fun j => (Or.inr (Or.inr (Or.inr (Or.inr (Or.inl rfl))))))
  obtain ⟨m6, e_m6, h⟩ := mx_letE h
  have z6 : mx_out (WSX4_copyLinksFrom a p0) m m6 := by first | exact mx_out_up z5 e_m6 (Or.inr (Or.inr (Or.inr (Or.inr (Or.inr (Or.inl rfl)))))) | exact mx_out_ul z5 e_m6 (Or.inr (Or.inr (Or.inr (Or.inr (Or.inr (Or.inl rfl)))))) | exact mx_out_cp z5 e_m6 (fun j => (Or.inr (Or.inr (Or.inr (Or.inr (Or.inr (Or.inl rfl))))))) | exact mx_out_cl z5 e_m6 (fun j => (Or.inr (Or.inr (Or.inr (Or.inr (Or.inr (Or.inl rfl)))))))
  obtain ⟨m7, e_m7, h⟩ := mx_letE h
  have z7 : mx_out (WSX4_copyLinksFrom a p0) m m7 := by first | exact mx_out_up z6 e_m7 (Or.inr (Or.inr (Or.inr (Or.inr (Or.inr (Or.inr rfl)))))) | exact mx_out_ul z6 e_m7 (Or.inr (Or.inr (Or.inr (Or.inr (Or.inr (Or.inr rfl)))))) | exact mx_out_cp z6 e_m7 (fun j => (Or.inr (Or.inr (Or.inr (Or.inr (Or.inr (Or.inr rfl))))))) | exact mx_out_cl z6 e_m7 (fun j => (Or.inr (Or.inr (Or.inr (Or.inr (Or.inr (Or.inr rfl)))))))
  obtain rfl := Option.some.inj h
  exact z7
set_option maxRecDepth 20000 in
theorem ZX4_copyFrom {a : Nat} {p0 : Nat} {m : mB} {r : mB} (h : FX4_copyFrom a p0 m = some r) : mx_out (WSX4_copyFrom a p0) m r := by
  unfold FX4_copyFrom at h
  have z0 : mx_out (WSX4_copyFrom a p0) m m := mx_out.rf
  obtain ⟨r1, h_r1, h⟩ := Option.bind_eq_some_iff.mp h
  have z1 : mx_out (WSX4_copyFrom a p0) m r1 := mx_out.tr z0 (mx_out.sub (ZX4_copyLinksFrom h_r1) (fun b j hb => (Or.elim hb (fun h0 => (Or.inl h0)) (fun g0 => (Or.elim g0 (fun h1 => (Or.inr (Or.inl h1))) (fun g1 => (Or.elim g1 (fun h2 => (Or.inr (Or.inr (Or.inr (Or.inr (Or.inr (Or.inr (Or.inr (Or.inl h2))))))))) (fun g2 => (Or.elim g2 (fun h3 => (Or.inr (Or.inr (Or.inr (Or.inr (Or.inr (Or.inr (Or.inr (Or.inr (Or.inr (Or.inr (Or.inl h3)))))))))))) (fun g3 => (Or.elim g3 (fun h4 => (Or.inr (Or.inr (Or.inr (Or.inr (Or.inr (Or.inr (Or.inr (Or.inr (Or.inr (Or.inr (Or.inr (Or.inl h4))))))))))))) (fun g4 => (Or.elim g4 (fun h5 => (Or.inr (Or.inr (Or.inr (Or.inr (Or.inr (Or.inr (Or.inr (Or.inr (Or.inr (Or.inr (Or.inr (Or.inr (Or.inl h5)))))))))))))) (fun g5 => (Or.inr (Or.inr (Or.inr (Or.inr (Or.inr (Or.inr (Or.inr (Or.inr (Or.inr (Or.inr (Or.inr (Or.inr (Or.inr (Or.inl g5))))))))))))))))))))))))))))
  obtain ⟨m2, e_m2, h⟩ := mx_letE h
  have z2 : mx_out (WSX4_copyFrom a p0) m m2 := by first | exact mx_out_up z1 e_m2 (Or.inr (Or.inr (Or.inl ⟨rfl, rfl⟩))) | exact mx_out_ul z1 e_m2 (Or.inr (Or.inr (Or.inl ⟨rfl, rfl⟩))) | exact mx_out_cp z1 e_m2 (fun j => (Or.inr (Or.inr (Or.inl ⟨rfl, rfl⟩)))) | exact mx_out_cl z1 e_m2 (fun j => (Or.inr (Or.inr (Or.inl ⟨rfl, rfl⟩))))
  obtain ⟨m3, e_m3, h⟩ := mx_letE h
  have z3 : mx_out (WSX4_copyFrom a p0) m m3 := by first | exact mx_out_up z2 e_m3 (Or.inr (Or.inr (Or.inr (Or.inl ⟨rfl, rfl⟩)))) | exact mx_out_ul z2 e_m3 (Or.inr (Or.inr (Or.inr (Or.inl ⟨rfl, rfl⟩)))) | exact mx_out_cp z2 e_m3 (fun j => (Or.inr (Or.inr (Or.inr (Or.inl ⟨rfl, rfl⟩))))) | exact mx_out_cl z2 e_m3 (fun j => (Or.inr (Or.inr (Or.inr (Or.inl ⟨rfl, rfl⟩)))))
  obtain ⟨m4, e_m4, h⟩ := mx_letE h
  have z4 : mx_out (WSX4_copyFrom a p0) m m4 := by first | exact mx_out_up z3 e_m4 (Or.inr (Or.inr (Or.inr (Or.inr (Or.inl ⟨rfl, rfl⟩))))) | exact mx_out_ul z3 e_m4 (Or.inr (Or.inr (Or.inr (Or.inr (Or.inl ⟨rfl, rfl⟩))))) | exact mx_out_cp z3 e_m4 (fun j => (Or.inr (Or.inr (Or.inr (Or.inr (Or.inl ⟨rfl, rfl⟩)))))) | exact mx_out_cl z3 e_m4 (fun j => (Or.inr (Or.inr (Or.inr (Or.inr (Or.inl ⟨rfl, rfl⟩))))))
  obtain ⟨m5, e_m5, h⟩ := mx_letE h
  have z5 : mx_out (WSX4_copyFrom a p0) m m5 := by first | exact mx_out_up z4 e_m5 (Or.inr (Or.inr (Or.inr (Or.inr (Or.inr (Or.inl rfl)))))) | exact mx_out_ul z4 e_m5 (Or.inr (Or.inr (Or.inr (Or.inr (Or.inr (Or.inl rfl)))))) | exact mx_out_cp z4 e_m5 (fun j => (Or.inr (Or.inr (Or.inr (Or.inr (Or.inr (Or.inl rfl))))))) | exact mx_out_cl z4 e_m5 (fun j => (Or.inr (Or.inr (Or.inr (Or.inr (Or.inr (Or.inl rfl)))))))
  obtain ⟨m6, e_m6, h⟩ := mx_letE h
  have z6 : mx_out (WSX4_copyFrom a p0) m m6 := by first | exact mx_out_up z5 e_m6 (Or.inr (Or.inr (Or.inr (Or.inr (Or.inr (Or.inr (Or.inr (Or.inr (Or.inl rfl))))))))) | exact mx_out_ul z5 e_m6 (Or.inr (Or.inr (Or.inr (Or.inr (Or.inr (Or.inr (Or.inr (Or.inr (Or.inl rfl))))))))) | exact mx_out_cp z5 e_m6 (fun j => (Or.inr (Or.inr (Or.inr (Or.inr (Or.inr (Or.inr (Or.inr (Or.inr (Or.inl rfl)))))))))) | exact mx_out_cl z5 e_m6 (fun j => (Or.inr (Or.inr (Or.inr (Or.inr (Or.inr (Or.inr (Or.inr (Or.inr (Or.inl rfl))))))))))
  obtain ⟨m7, e_m7, h⟩ := mx_letE h
  have z7 : mx_out (WSX4_copyFrom a p0) m m7 := by first | exact mx_out_up z6 e_m7 (Or.inr (Or.inr (Or.inr (Or.inr (Or.inr (Or.inr (Or.inr (Or.inr (Or.inr (Or.inl rfl)))))))))) | exact mx_out_ul z6 e_m7 (Or.inr (Or.inr (Or.inr (Or.inr (Or.inr (Or.inr (Or.inr (Or.inr (Or.inr (Or.inl rfl)))))))))) | exact mx_out_cp z6 e_m7 (fun j => (Or.inr (Or.inr (Or.inr (Or.inr (Or.inr (Or.inr (Or.inr (Or.inr (Or.inr (Or.inl rfl))))))))))) | exact mx_out_cl z6 e_m7 (fun j => (Or.inr (Or.inr (Or.inr (Or.inr (Or.inr (Or.inr (Or.inr (Or.inr (Or.inr (Or.inl rfl)))))))))))
  obtain ⟨m8, e_m8, h⟩ := mx_letE h
  have z8 : mx_out (WSX4_copyFrom a p0) m m8 := by first | exact mx_out_up z7 e_m8 (Or.inr (Or.inr (Or.inr (Or.inr (Or.inr (Or.inr (Or.inr (Or.inr (Or.inr (Or.inr (Or.inr (Or.inr (Or.inr (Or.inr rfl)))))))))))))) | exact mx_out_ul z7 e_m8 (Or.inr (Or.inr (Or.inr (Or.inr (Or.inr (Or.inr (Or.inr (Or.inr (Or.inr (Or.inr (Or.inr (Or.inr (Or.inr (Or.inr rfl)))))))))))))) | exact mx_out_cp z7 e_m8 (fun j => (Or.inr (Or.inr (Or.inr (Or.inr (Or.inr (Or.inr (Or.inr (Or.inr (Or.inr (Or.inr (Or.inr (Or.inr (Or.inr (Or.inr rfl))))))))))))))) | exact mx_out_cl z7 e_m8 (fun j => (Or.inr (Or.inr (Or.inr (Or.inr (Or.inr (Or.inr (Or.inr (Or.inr (Or.inr (Or.inr (Or.inr (Or.inr (Or.inr (Or.inr rfl)))))))))))))))
  obtain ⟨m9, e_m9, h⟩ := mx_letE h
  have z9 : mx_out (WSX4_copyFrom a p0) m m9 := by first | exact mx_out_up z8 e_m9 (Or.inr (Or.inr (Or.inr (Or.inr (Or.inr (Or.inr (Or.inl rfl))))))) | exact mx_out_ul z8 e_m9 (Or.inr (Or.inr (Or.inr (Or.inr (Or.inr (Or.inr (Or.inl rfl))))))) | exact mx_out_cp z8 e_m9 (fun j => (Or.inr (Or.inr (Or.inr (Or.inr (Or.inr (Or.inr (Or.inl rfl)))))))) | exact mx_out_cl z8 e_m9 (fun j => (Or.inr (Or.inr (Or.inr (Or.inr (Or.inr (Or.inr (Or.inl rfl))))))))
  obtain rfl := Option.some.inj h
  exact z9
set_option maxRecDepth 20000 in
theorem ZX4_addPoint {a : Nat} {x0 : Int64} {m : mB} {r : mB} (h : FX4_addPoint a x0 m = some r) : mx_out (WSX4_addPoint a) m r := by
  unfold FX4_addPoint at h
  have z0 : mx_out (WSX4_addPoint a) m m := mx_out.rf
  by_cases hc1z : (m.1 a 0) < 0
  · rw [if_pos hc1z] at h
    obtain rfl := Option.some.inj h
    exact z0
  · rw [if_neg hc1z] at h
    by_cases hc2z : 10 ≤ (m.1 a 0)
    · rw [if_pos hc2z] at h
      obtain rfl := Option.some.inj h
      exact z0
    · rw [if_neg hc2z] at h
      obtain ⟨-, h⟩ := mx_chkE h
      obtain ⟨m3, e_m3, h⟩ := mx_letE h
      have z1 : mx_out (WSX4_addPoint a) m m3 := by first | exact mx_out_up z0 e_m3 (Or.inr (Or.inl rfl)) | exact mx_out_ul z0 e_m3 (Or.inr (Or.inl rfl)) | exact mx_out_cp z0 e_m3 (fun j => (Or.inr (Or.inl rfl))) | exact mx_out_cl z0 e_m3 (fun j => (Or.inr (Or.inl rfl)))
      obtain ⟨-, h⟩ := mx_chkE h
      obtain ⟨m5, e_m5, h⟩ := mx_letE h
      have z2 : mx_out (WSX4_addPoint a) m m5 := by first | exact mx_out_up z1 e_m5 (Or.inr (Or.inr (Or.inl rfl))) | exact mx_out_ul z1 e_m5 (Or.inr (Or.inr (Or.inl rfl))) | exact mx_out_cp z1 e_m5 (fun j => (Or.inr (Or.inr (Or.inl rfl)))) | exact mx_out_cl z1 e_m5 (fun j => (Or.inr (Or.inr (Or.inl rfl))))
      obtain ⟨-, h⟩ := mx_chkE h
      obtain ⟨m7, e_m7, h⟩ := mx_letE h
      have z3 : mx_out (WSX4_addPoint a) m m7 := by first | exact mx_out_up z2 e_m7 (Or.inr (Or.inr (Or.inr (Or.inl rfl)))) | exact mx_out_ul z2 e_m7 (Or.inr (Or.inr (Or.inr (Or.inl rfl)))) | exact mx_out_cp z2 e_m7 (fun j => (Or.inr (Or.inr (Or.inr (Or.inl rfl))))) | exact mx_out_cl z2 e_m7 (fun j => (Or.inr (Or.inr (Or.inr (Or.inl rfl)))))
      obtain ⟨-, h⟩ := mx_chkE h
      obtain ⟨m9, e_m9, h⟩ := mx_letE h
      have z4 : mx_out (WSX4_addPoint a) m m9 := by first | exact mx_out_up z3 e_m9 (Or.inr (Or.inr (Or.inr (Or.inr rfl)))) | exact mx_out_ul z3 e_m9 (Or.inr (Or.inr (Or.inr (Or.inr rfl)))) | exact mx_out_cp z3 e_m9 (fun j => (Or.inr (Or.inr (Or.inr (Or.inr rfl))))) | exact mx_out_cl z3 e_m9 (fun j => (Or.inr (Or.inr (Or.inr (Or.inr rfl)))))
      obtain ⟨m11, e_m11, h⟩ := mx_letE h
      have z5 : mx_out (WSX4_addPoint a) m m11 := by first | exact mx_out_up z4 e_m11 (Or.inl ⟨rfl, rfl⟩) | exact mx_out_ul z4 e_m11 (Or.inl ⟨rfl, rfl⟩) | exact mx_out_cp z4 e_m11 (fun j => (Or.inl ⟨rfl, rfl⟩)) | exact mx_out_cl z4 e_m11 (fun j => (Or.inl ⟨rfl, rfl⟩))
      obtain rfl := Option.some.inj h
      exact z5
set_option maxRecDepth 20000 in
theorem ZX4_addLink {a : Nat} {x0 : Int32} {x1 : Int32} {x2 : Int32} {m : mB} {r : mB} (h : FX4_addLink a x0 x1 x2 m = some r) : mx_out (WSX4_addLink a) m r := by
  unfold FX4_addLink at h
  have z0 : mx_out (WSX4_addLink a) m m := mx_out.rf
  by_cases hc1z : (m.1 a 1) < 0
  · rw [if_pos hc1z] at h
    obtain rfl := Option.some.inj h
    exact z0
  · rw [if_neg hc1z] at h
    by_cases hc2z : 30 ≤ (m.1 a 1)
    · rw [if_pos hc2z] at h
      obtain rfl := Option.some.inj h
      exact z0
    · rw [if_neg hc2z] at h
      obtain ⟨r3, h_r3, h⟩ := Option.bind_eq_some_iff.mp h
      by_cases hc4z : r3 = 0
      · rw [if_pos hc4z] at h
        obtain rfl := Option.some.inj h
        exact z0
      · rw [if_neg hc4z] at h
        obtain ⟨r5, h_r5, h⟩ := Option.bind_eq_some_iff.mp h
        by_cases hc6z : r5 = 0
        · rw [if_pos hc6z] at h
          obtain rfl := Option.some.inj h
          exact z0
        · rw [if_neg hc6z] at h
          obtain ⟨-, h⟩ := mx_chkE h
          obtain ⟨m7, e_m7, h⟩ := mx_letE h
          have z1 : mx_out (WSX4_addLink a) m m7 := by first | exact mx_out_up z0 e_m7 (Or.inr (Or.inr (Or.inl rfl))) | exact mx_out_ul z0 e_m7 (Or.inr (Or.inr (Or.inl rfl))) | exact mx_out_cp z0 e_m7 (fun j => (Or.inr (Or.inr (Or.inl rfl)))) | exact mx_out_cl z0 e_m7 (fun j => (Or.inr (Or.inr (Or.inl rfl))))
          obtain ⟨-, h⟩ := mx_chkE h
          obtain ⟨m9, e_m9, h⟩ := mx_letE h
          have z2 : mx_out (WSX4_addLink a) m m9 := by first | exact mx_out_up z1 e_m9 (Or.inr (Or.inr (Or.inr (Or.inl rfl)))) | exact mx_out_ul z1 e_m9 (Or.inr (Or.inr (Or.inr (Or.inl rfl)))) | exact mx_out_cp z1 e_m9 (fun j => (Or.inr (Or.inr (Or.inr (Or.inl rfl))))) | exact mx_out_cl z1 e_m9 (fun j => (Or.inr (Or.inr (Or.inr (Or.inl rfl)))))
          obtain ⟨-, h⟩ := mx_chkE h
          obtain ⟨m11, e_m11, h⟩ := mx_letE h
          have z3 : mx_out (WSX4_addLink a) m m11 := by first | exact mx_out_up z2 e_m11 (Or.inr (Or.inr (Or.inr (Or.inr (Or.inl rfl))))) | exact mx_out_ul z2 e_m11 (Or.inr (Or.inr (Or.inr (Or.inr (Or.inl rfl))))) | exact mx_out_cp z2 e_m11 (fun j => (Or.inr (Or.inr (Or.inr (Or.inr (Or.inl rfl)))))) | exact mx_out_cl z2 e_m11 (fun j => (Or.inr (Or.inr (Or.inr (Or.inr (Or.inl rfl))))))
          obtain ⟨-, h⟩ := mx_chkE h
          obtain ⟨m14, e_m14, h⟩ := mx_letE h
          have z4 : mx_out (WSX4_addLink a) m m14 := by first | exact mx_out_up z3 e_m14 (Or.inr (Or.inl rfl)) | exact mx_out_ul z3 e_m14 (Or.inr (Or.inl rfl)) | exact mx_out_cp z3 e_m14 (fun j => (Or.inr (Or.inl rfl))) | exact mx_out_cl z3 e_m14 (fun j => (Or.inr (Or.inl rfl)))
          obtain ⟨-, h⟩ := mx_chkE h
          obtain ⟨m16, e_m16, h⟩ := mx_letE h
          have z5 : mx_out (WSX4_addLink a) m m16 := by first | exact mx_out_up z4 e_m16 (Or.inr (Or.inl rfl)) | exact mx_out_ul z4 e_m16 (Or.inr (Or.inl rfl)) | exact mx_out_cp z4 e_m16 (fun j => (Or.inr (Or.inl rfl))) | exact mx_out_cl z4 e_m16 (fun j => (Or.inr (Or.inl rfl)))
          obtain ⟨m17, e_m17, h⟩ := mx_letE h
          have z6 : mx_out (WSX4_addLink a) m m17 := by first | exact mx_out_up z5 e_m17 (Or.inl ⟨rfl, rfl⟩) | exact mx_out_ul z5 e_m17 (Or.inl ⟨rfl, rfl⟩) | exact mx_out_cp z5 e_m17 (fun j => (Or.inl ⟨rfl, rfl⟩)) | exact mx_out_cl z5 e_m17 (fun j => (Or.inl ⟨rfl, rfl⟩))
          obtain ⟨-, h⟩ := mx_chkE h
          obtain ⟨m18, e_m18, h⟩ := mx_letE h
          have z7 : mx_out (WSX4_addLink a) m m18 := by first | exact mx_out_up z6 e_m18 (Or.inr (Or.inr (Or.inr (Or.inr (Or.inr rfl))))) | exact mx_out_ul z6 e_m18 (Or.inr (Or.inr (Or.inr (Or.inr (Or.inr rfl))))) | exact mx_out_cp z6 e_m18 (fun j => (Or.inr (Or.inr (Or.inr (Or.inr (Or.inr rfl)))))) | exact mx_out_cl z6 e_m18 (fun j => (Or.inr (Or.inr (Or.inr (Or.inr (Or.inr rfl))))))
          obtain ⟨-, h⟩ := mx_chkE h
          obtain ⟨m20, e_m20, h⟩ := mx_letE h
          have z8 : mx_out (WSX4_addLink a) m m20 := by first | exact mx_out_up z7 e_m20 (Or.inr (Or.inr (Or.inr (Or.inr (Or.inr rfl))))) | exact mx_out_ul z7 e_m20 (Or.inr (Or.inr (Or.inr (Or.inr (Or.inr rfl))))) | exact mx_out_cp z7 e_m20 (fun j => (Or.inr (Or.inr (Or.inr (Or.inr (Or.inr rfl)))))) | exact mx_out_cl z7 e_m20 (fun j => (Or.inr (Or.inr (Or.inr (Or.inr (Or.inr rfl))))))
          obtain rfl := Option.some.inj h
          exact z8
set_option maxRecDepth 20000 in
theorem ZX4_addSet {a : Nat} {x0 : Int32} {x1 : Int32} {m : mB} {r : mB} (h : FX4_addSet a x0 x1 m = some r) : mx_out (WSX4_addSet a) m r := by
  unfold FX4_addSet at h
  have z0 : mx_out (WSX4_addSet a) m m := mx_out.rf
  by_cases hc1z : (m.1 a 2) < 0
  · rw [if_pos hc1z] at h
    obtain rfl := Option.some.inj h
    exact z0
  · rw [if_neg hc1z] at h
    by_cases hc2z : 6 ≤ (m.1 a 2)
    · rw [if_pos hc2z] at h
      obtain rfl := Option.some.inj h
      exact z0
    · rw [if_neg hc2z] at h
      obtain ⟨-, h⟩ := mx_chkE h
      obtain ⟨m3, e_m3, h⟩ := mx_letE h
      have z1 : mx_out (WSX4_addSet a) m m3 := by first | exact mx_out_up z0 e_m3 (Or.inr (Or.inr rfl)) | exact mx_out_ul z0 e_m3 (Or.inr (Or.inr rfl)) | exact mx_out_cp z0 e_m3 (fun j => (Or.inr (Or.inr rfl))) | exact mx_out_cl z0 e_m3 (fun j => (Or.inr (Or.inr rfl)))
      obtain ⟨-, h⟩ := mx_chkE h
      obtain ⟨m5, e_m5, h⟩ := mx_letE h
      have z2 : mx_out (WSX4_addSet a) m m5 := by first | exact mx_out_up z1 e_m5 (Or.inr (Or.inl rfl)) | exact mx_out_ul z1 e_m5 (Or.inr (Or.inl rfl)) | exact mx_out_cp z1 e_m5 (fun j => (Or.inr (Or.inl rfl))) | exact mx_out_cl z1 e_m5 (fun j => (Or.inr (Or.inl rfl)))
      obtain ⟨m7, e_m7, h⟩ := mx_letE h
      have z3 : mx_out (WSX4_addSet a) m m7 := by first | exact mx_out_up z2 e_m7 (Or.inl ⟨rfl, rfl⟩) | exact mx_out_ul z2 e_m7 (Or.inl ⟨rfl, rfl⟩) | exact mx_out_cp z2 e_m7 (fun j => (Or.inl ⟨rfl, rfl⟩)) | exact mx_out_cl z2 e_m7 (fun j => (Or.inl ⟨rfl, rfl⟩))
      obtain rfl := Option.some.inj h
      exact z3
set_option maxRecDepth 20000 in
theorem ZX4_pairUp {a : Nat} {x0 : Int32} {x1 : Int32} {m : mB} {r : (Int32 × mB)} (h : FX4_pairUp a x0 x1 m = some r) : mx_out (WSX4_pairUp a) m r.2 := by
  unfold FX4_pairUp at h
  have z0 : mx_out (WSX4_pairUp a) m m := mx_out.rf
  obtain ⟨r1, h_r1, h⟩ := Option.bind_eq_some_iff.mp h
  by_cases hc2z : r1 = 0
  · rw [if_pos hc2z] at h
    obtain rfl := Option.some.inj h
    exact z0
  · rw [if_neg hc2z] at h
    obtain ⟨-, h⟩ := mx_chkE h
    by_cases hc4z : (m.1 (a + 3) (Int32.toNatClampNeg x0)) = (-1)
    · rw [if_pos hc4z] at h
      obtain ⟨-, h⟩ := mx_chkE h
      by_cases hc6z : (m.1 (a + 3) (Int32.toNatClampNeg x1)) = (-1)
      · rw [if_pos hc6z] at h
        obtain ⟨m7, e_m7, h⟩ := mx_letE h
        have z1 : mx_out (WSX4_pairUp a) m m7 := by first | exact mx_out_up z0 e_m7 rfl | exact mx_out_ul z0 e_m7 rfl | exact mx_out_cp z0 e_m7 (fun j => rfl) | exact mx_out_cl z0 e_m7 (fun j => rfl)
        obtain ⟨m8, e_m8, h⟩ := mx_letE h
        have z2 : mx_out (WSX4_pairUp a) m m8 := by first | exact mx_out_up z1 e_m8 rfl | exact mx_out_ul z1 e_m8 rfl | exact mx_out_cp z1 e_m8 (fun j => rfl) | exact mx_out_cl z1 e_m8 (fun j => rfl)
        obtain rfl := Option.some.inj h
        exact z2
      · rw [if_neg hc6z] at h
        obtain rfl := Option.some.inj h
        exact z0
    · rw [if_neg hc4z] at h
      obtain rfl := Option.some.inj h
      exact z0
set_option maxRecDepth 20000 in
theorem ZX4_partFrom {a : Nat} {x0 : Int32} {m : mB} {r : (Int32 × mB)} (h : FX4_partFrom a x0 m = some r) : mx_out (WSX4_partFrom a) m r.2 := by
  unfold FX4_partFrom at h
  have z0 : mx_out (WSX4_partFrom a) m m := mx_out.rf
  obtain ⟨r1, h_r1, h⟩ := Option.bind_eq_some_iff.mp h
  obtain ⟨r2, h_r2, h⟩ := Option.bind_eq_some_iff.mp h
  by_cases hc3z : r2 = 0
  · rw [if_pos hc3z] at h
    obtain rfl := Option.some.inj h
    exact z0
  · rw [if_neg hc3z] at h
    obtain ⟨r4, h_r4, h⟩ := Option.bind_eq_some_iff.mp h
    by_cases hc5z : r4 = 0
    · rw [if_pos hc5z] at h
      obtain rfl := Option.some.inj h
      exact z0
    · rw [if_neg hc5z] at h
      obtain ⟨-, h⟩ := mx_chkE h
      obtain ⟨m6, e_m6, h⟩ := mx_letE h
      have z1 : mx_out (WSX4_partFrom a) m m6 := by first | exact mx_out_up z0 e_m6 rfl | exact mx_out_ul z0 e_m6 rfl | exact mx_out_cp z0 e_m6 (fun j => rfl) | exact mx_out_cl z0 e_m6 (fun j => rfl)
      obtain ⟨-, h⟩ := mx_chkE h
      obtain ⟨m8, e_m8, h⟩ := mx_letE h
      have z2 : mx_out (WSX4_partFrom a) m m8 := by first | exact mx_out_up z1 e_m8 rfl | exact mx_out_ul z1 e_m8 rfl | exact mx_out_cp z1 e_m8 (fun j => rfl) | exact mx_out_cl z1 e_m8 (fun j => rfl)
      obtain rfl := Option.some.inj h
      exact z2
set_option maxRecDepth 20000 in
theorem ZX4_weighAnew {a : Nat} {x0 : Int32} {x1 : Int32} {x2 : Int32} {m : mB} {r : (Int32 × mB)} (h : FX4_weighAnew a x0 x1 x2 m = some r) : mx_out (WSX4_weighAnew a) m r.2 := by
  unfold FX4_weighAnew at h
  have z0 : mx_out (WSX4_weighAnew a) m m := mx_out.rf
  obtain ⟨r1, h_r1, h⟩ := Option.bind_eq_some_iff.mp h
  obtain ⟨r2, h_r2, h⟩ := Option.bind_eq_some_iff.mp h
  by_cases hc3z : r2 = 0
  · rw [if_pos hc3z] at h
    obtain rfl := Option.some.inj h
    exact z0
  · rw [if_neg hc3z] at h
    obtain ⟨-, h⟩ := mx_chkE h
    by_cases hc5z : (m.1 (a + 7) (Int32.toNatClampNeg r1)) = x2
    · rw [if_pos hc5z] at h
      obtain rfl := Option.some.inj h
      exact z0
    · rw [if_neg hc5z] at h
      obtain ⟨m6, e_m6, h⟩ := mx_letE h
      have z1 : mx_out (WSX4_weighAnew a) m m6 := by first | exact mx_out_up z0 e_m6 rfl | exact mx_out_ul z0 e_m6 rfl | exact mx_out_cp z0 e_m6 (fun j => rfl) | exact mx_out_cl z0 e_m6 (fun j => rfl)
      obtain rfl := Option.some.inj h
      exact z1
set_option maxRecDepth 20000 in
theorem ZX4_priceAt {a : Nat} {x0 : Int32} {x1 : Int32} {m : mB} {r : (Int32 × mB)} (h : FX4_priceAt a x0 x1 m = some r) : mx_out (WSX4_priceAt a) m r.2 := by
  unfold FX4_priceAt at h
  have z0 : mx_out (WSX4_priceAt a) m m := mx_out.rf
  obtain ⟨r1, h_r1, h⟩ := Option.bind_eq_some_iff.mp h
  by_cases hc2z : r1 = 0
  · rw [if_pos hc2z] at h
    obtain rfl := Option.some.inj h
    exact z0
  · rw [if_neg hc2z] at h
    obtain ⟨-, h⟩ := mx_chkE h
    by_cases hc4z : (m.1 (a + 4) (Int32.toNatClampNeg x0)) = x1
    · rw [if_pos hc4z] at h
      obtain rfl := Option.some.inj h
      exact z0
    · rw [if_neg hc4z] at h
      obtain ⟨m5, e_m5, h⟩ := mx_letE h
      have z1 : mx_out (WSX4_priceAt a) m m5 := by first | exact mx_out_up z0 e_m5 rfl | exact mx_out_ul z0 e_m5 rfl | exact mx_out_cp z0 e_m5 (fun j => rfl) | exact mx_out_cl z0 e_m5 (fun j => rfl)
      obtain rfl := Option.some.inj h
      exact z1
set_option maxRecDepth 20000 in
theorem ZX4_crownAt {a : Nat} {x0 : Int32} {x1 : Int32} {m : mB} {r : (Int32 × mB)} (h : FX4_crownAt a x0 x1 m = some r) : mx_out (WSX4_crownAt a) m r.2 := by
  unfold FX4_crownAt at h
  have z0 : mx_out (WSX4_crownAt a) m m := mx_out.rf
  obtain ⟨r1, h_r1, h⟩ := Option.bind_eq_some_iff.mp h
  by_cases hc2z : r1 = 0
  · rw [if_pos hc2z] at h
    obtain rfl := Option.some.inj h
    exact z0
  · rw [if_neg hc2z] at h
    obtain ⟨-, h⟩ := mx_chkE h
    by_cases hc4z : (m.1 (a + 10) (Int32.toNatClampNeg x0)) = x1
    · rw [if_pos hc4z] at h
      obtain rfl := Option.some.inj h
      exact z0
    · rw [if_neg hc4z] at h
      obtain ⟨m5, e_m5, h⟩ := mx_letE h
      have z1 : mx_out (WSX4_crownAt a) m m5 := by first | exact mx_out_up z0 e_m5 rfl | exact mx_out_ul z0 e_m5 rfl | exact mx_out_cp z0 e_m5 (fun j => rfl) | exact mx_out_cl z0 e_m5 (fun j => rfl)
      obtain rfl := Option.some.inj h
      exact z1
set_option maxRecDepth 20000 in
theorem ZX4_openSet_L21 {q0 : Nat} : ∀ (f : Nat) {y2 : Int32} {m : mB} {q : (mB)}, FX4_openSet_L21 q0 f y2 m = some q → mx_out (WSX4_openSet_L21 q0) m q := by
  intro f
  induction f with
  | zero => intro _ _ _ h; cases h
  | succ f ih =>
    intro y2 m q h
    rw [FX4_openSet_L21] at h
    have z0 : mx_out (WSX4_openSet_L21 q0) m m := mx_out.rf
    by_cases hc5z : (m.1 q0 2) ≤ (y2 + 1)
    · rw [if_pos hc5z] at h
      obtain rfl := Option.some.inj h
      exact z0
    · rw [if_neg hc5z] at h
      by_cases hc6z : 6 ≤ (y2 + 1)
      · rw [if_pos hc6z] at h
        obtain rfl := Option.some.inj h
        exact z0
      · rw [if_neg hc6z] at h
        obtain ⟨-, h⟩ := mx_chkE h
        obtain ⟨-, h⟩ := mx_chkE h
        obtain ⟨m8, e_m8, h⟩ := mx_letE h
        have z1 : mx_out (WSX4_openSet_L21 q0) m m8 := by first | exact mx_out_up z0 e_m8 (Or.inr rfl) | exact mx_out_ul z0 e_m8 (Or.inr rfl) | exact mx_out_cp z0 e_m8 (fun j => (Or.inr rfl)) | exact mx_out_cl z0 e_m8 (fun j => (Or.inr rfl))
        obtain ⟨m10, e_m10, h⟩ := mx_letE h
        have z2 : mx_out (WSX4_openSet_L21 q0) m m10 := by first | exact mx_out_up z1 e_m10 (Or.inl rfl) | exact mx_out_ul z1 e_m10 (Or.inl rfl) | exact mx_out_cp z1 e_m10 (fun j => (Or.inl rfl)) | exact mx_out_cl z1 e_m10 (fun j => (Or.inl rfl))
        obtain ⟨v11, -, h⟩ := mx_letE h
        exact mx_out.tr z2 (ih h)
set_option maxRecDepth 20000 in
theorem ZX4_openSet {a : Nat} {x0 : Int32} {m : mB} {r : (Int32 × mB)} (h : FX4_openSet a x0 m = some r) : mx_out (WSX4_openSet a) m r.2 := by
  unfold FX4_openSet at h
  have z0 : mx_out (WSX4_openSet a) m m := mx_out.rf
  obtain ⟨r1, h_r1, h⟩ := Option.bind_eq_some_iff.mp h
  by_cases hc2z : r1 = 0
  · rw [if_pos hc2z] at h
    obtain rfl := Option.some.inj h
    exact z0
  · rw [if_neg hc2z] at h
    obtain ⟨-, h⟩ := mx_chkE h
    by_cases hc4z : (m.1 (a + 10) (Int32.toNatClampNeg x0)) ≤ 0
    · rw [if_pos hc4z] at h
      obtain ⟨q12, h_q12, h⟩ := Option.bind_eq_some_iff.mp h
      have z3 := mx_out.tr z0 (mx_out.sub (S := (WSX4_openSet a)) (ZX4_openSet_L21 mx_FU h_q12) (fun b j hb => (Or.elim hb (fun h0 => (Or.inr (Or.inl h0))) (fun g0 => (Or.inr (Or.inr g0))))))
      obtain ⟨m13, e_m13, h⟩ := mx_letE h
      have z4 : mx_out (WSX4_openSet a) m m13 := by first | exact mx_out_up z3 e_m13 (Or.inl ⟨rfl, rfl⟩) | exact mx_out_ul z3 e_m13 (Or.inl ⟨rfl, rfl⟩) | exact mx_out_cp z3 e_m13 (fun j => (Or.inl ⟨rfl, rfl⟩)) | exact mx_out_cl z3 e_m13 (fun j => (Or.inl ⟨rfl, rfl⟩))
      obtain rfl := Option.some.inj h
      exact z4
    · rw [if_neg hc4z] at h
      obtain rfl := Option.some.inj h
      exact z0
set_option maxRecDepth 20000 in
theorem ZX4_turnAlong_L48 {q0 : Nat} {q1 : Nat} {y2 : Int32} : ∀ (f : Nat) {y3 : Int32} {m : mB} {q : (mB)}, FX4_turnAlong_L48 q0 q1 y2 f y3 m = some q → mx_out (WSX4_turnAlong_L48 q0 q1) m q := by
  intro f
  induction f with
  | zero => intro _ _ _ h; cases h
  | succ f ih =>
    intro y3 m q h
    rw [FX4_turnAlong_L48] at h
    have z0 : mx_out (WSX4_turnAlong_L48 q0 q1) m m := mx_out.rf
    by_cases hc12z : y2 < (y3 + 1)
    · rw [if_pos hc12z] at h
      obtain rfl := Option.some.inj h
      exact z0
    · rw [if_neg hc12z] at h
      obtain ⟨r13, h_r13, h⟩ := Option.bind_eq_some_iff.mp h
      obtain ⟨r14, h_r14, h⟩ := Option.bind_eq_some_iff.mp h
      obtain ⟨r15, h_r15, h⟩ := Option.bind_eq_some_iff.mp h
      by_cases hc16z : r15 = 0
      · rw [if_pos hc16z] at h
        obtain ⟨v17, -, h⟩ := mx_letE h
        exact mx_out.tr z0 (ih h)
      · rw [if_neg hc16z] at h
        obtain ⟨r18, h_r18, h⟩ := Option.bind_eq_some_iff.mp h
        by_cases hc19z : r18 = 0
        · rw [if_pos hc19z] at h
          obtain ⟨v20, -, h⟩ := mx_letE h
          exact mx_out.tr z0 (ih h)
        · rw [if_neg hc19z] at h
          obtain ⟨-, h⟩ := mx_chkE h
          obtain ⟨m21, e_m21, h⟩ := mx_letE h
          have z1 : mx_out (WSX4_turnAlong_L48 q0 q1) m m21 := by first | exact mx_out_up z0 e_m21 rfl | exact mx_out_ul z0 e_m21 rfl | exact mx_out_cp z0 e_m21 (fun j => rfl) | exact mx_out_cl z0 e_m21 (fun j => rfl)
          obtain ⟨-, h⟩ := mx_chkE h
          obtain ⟨m23, e_m23, h⟩ := mx_letE h
          have z2 : mx_out (WSX4_turnAlong_L48 q0 q1) m m23 := by first | exact mx_out_up z1 e_m23 rfl | exact mx_out_ul z1 e_m23 rfl | exact mx_out_cp z1 e_m23 (fun j => rfl) | exact mx_out_cl z1 e_m23 (fun j => rfl)
          obtain ⟨v25, -, h⟩ := mx_letE h
          exact mx_out.tr z2 (ih h)
set_option maxRecDepth 20000 in
theorem ZX4_turnAlong {a : Nat} {p0 : Nat} {m : mB} {r : (Int32 × mB)} (h : FX4_turnAlong a p0 m = some r) : mx_out (WSX4_turnAlong a p0) m r.2 := by
  unfold FX4_turnAlong at h
  have z0 : mx_out (WSX4_turnAlong a p0) m m := mx_out.rf
  obtain ⟨r1, h_r1, h⟩ := Option.bind_eq_some_iff.mp h
  obtain ⟨v2, -, h⟩ := mx_letE h
  by_cases hc3z : v2 < 1
  · rw [if_pos hc3z] at h
    obtain rfl := Option.some.inj h
    exact z0
  · rw [if_neg hc3z] at h
    obtain ⟨r4, h_r4, h⟩ := Option.bind_eq_some_iff.mp h
    obtain ⟨r5, h_r5, h⟩ := Option.bind_eq_some_iff.mp h
    by_cases hc6z : r5 = 0
    · rw [if_pos hc6z] at h
      obtain rfl := Option.some.inj h
      exact z0
    · rw [if_neg hc6z] at h
      obtain ⟨r7, h_r7, h⟩ := Option.bind_eq_some_iff.mp h
      obtain ⟨r8, h_r8, h⟩ := Option.bind_eq_some_iff.mp h
      by_cases hc9z : r8 = 0
      · rw [if_pos hc9z] at h
        obtain rfl := Option.some.inj h
        exact z0
      · rw [if_neg hc9z] at h
        obtain ⟨r10, h_r10, h⟩ := Option.bind_eq_some_iff.mp h
        by_cases hc11z : r10 = 0
        · rw [if_pos hc11z] at h
          obtain rfl := Option.some.inj h
          exact z0
        · rw [if_neg hc11z] at h
          obtain ⟨q26, h_q26, h⟩ := Option.bind_eq_some_iff.mp h
          have z3 := mx_out.tr z0 (mx_out.sub (S := (WSX4_turnAlong a p0)) (ZX4_turnAlong_L48 mx_FU h_q26) (fun b j hb => (Or.inr hb)))
          obtain ⟨m27, e_m27, h⟩ := mx_letE h
          have z4 : mx_out (WSX4_turnAlong a p0) m m27 := by first | exact mx_out_up z3 e_m27 (Or.inl ⟨rfl, rfl⟩) | exact mx_out_ul z3 e_m27 (Or.inl ⟨rfl, rfl⟩) | exact mx_out_cp z3 e_m27 (fun j => (Or.inl ⟨rfl, rfl⟩)) | exact mx_out_cl z3 e_m27 (fun j => (Or.inl ⟨rfl, rfl⟩))
          obtain rfl := Option.some.inj h
          exact z4
set_option maxRecDepth 20000 in
theorem ZX4_shrinkAlong {a : Nat} {p0 : Nat} {m : mB} {r : (Int32 × mB)} (h : FX4_shrinkAlong a p0 m = some r) : mx_out (WSX4_shrinkAlong a p0) m r.2 := by
  unfold FX4_shrinkAlong at h
  have z0 : mx_out (WSX4_shrinkAlong a p0) m m := mx_out.rf
  obtain ⟨r1, h_r1, h⟩ := Option.bind_eq_some_iff.mp h
  obtain ⟨v2, -, h⟩ := mx_letE h
  by_cases hc3z : v2 < 2
  · rw [if_pos hc3z] at h
    obtain rfl := Option.some.inj h
    exact z0
  · rw [if_neg hc3z] at h
    obtain ⟨r4, h_r4, h⟩ := Option.bind_eq_some_iff.mp h
    by_cases hc5z : r4 = 0
    · rw [if_pos hc5z] at h
      obtain rfl := Option.some.inj h
      exact z0
    · rw [if_neg hc5z] at h
      obtain ⟨r6, h_r6, h⟩ := Option.bind_eq_some_iff.mp h
      obtain ⟨r7, h_r7, h⟩ := Option.bind_eq_some_iff.mp h
      obtain ⟨r8, h_r8, h⟩ := Option.bind_eq_some_iff.mp h
      by_cases hc9z : r8 = 0
      · rw [if_pos hc9z] at h
        obtain rfl := Option.some.inj h
        exact z0
      · rw [if_neg hc9z] at h
        obtain ⟨q14, h_q14, h⟩ := Option.bind_eq_some_iff.mp h
        obtain ⟨r15, h_r15, h⟩ := Option.bind_eq_some_iff.mp h
        by_cases hc16z : r15 = (-1)
        · rw [if_pos hc16z] at h
          by_cases hc17z : (m.1 a 2) < 6
          · rw [if_pos hc17z] at h
            obtain ⟨r18, h_r18, h⟩ := Option.bind_eq_some_iff.mp h
            have z1 : mx_out (WSX4_shrinkAlong a p0) m r18 := mx_out.tr z0 (mx_out.sub (ZX4_addSet h_r18) (fun b j hb => (Or.elim hb (fun h0 => (Or.inl h0)) (fun g0 => (Or.elim g0 (fun h1 => (Or.inr (Or.inr (Or.inl h1)))) (fun g1 => (Or.inr (Or.inr (Or.inr g1)))))))))
            obtain ⟨m19, e_m19, h⟩ := mx_letE h
            have z2 : mx_out (WSX4_shrinkAlong a p0) m m19 := by first | exact mx_out_up z1 e_m19 (Or.inr (Or.inl ⟨rfl, rfl⟩)) | exact mx_out_ul z1 e_m19 (Or.inr (Or.inl ⟨rfl, rfl⟩)) | exact mx_out_cp z1 e_m19 (fun j => (Or.inr (Or.inl ⟨rfl, rfl⟩))) | exact mx_out_cl z1 e_m19 (fun j => (Or.inr (Or.inl ⟨rfl, rfl⟩)))
            obtain rfl := Option.some.inj h
            exact z2
          · rw [if_neg hc17z] at h
            obtain rfl := Option.some.inj h
            exact z0
        · rw [if_neg hc16z] at h
          obtain rfl := Option.some.inj h
          exact z0
set_option maxRecDepth 20000 in
theorem ZX7_clear {a : Nat} {m : mB} {r : mB} (h : FX7_clear a m = some r) : mx_out (WSX7_clear a) m r := by
  unfold FX7_clear at h
  have z0 : mx_out (WSX7_clear a) m m := mx_out.rf
  obtain ⟨m1, e_m1, h⟩ := mx_letE h
  have z1 : mx_out (WSX7_clear a) m m1 := by first | exact mx_out_up z0 e_m1 ⟨rfl, rfl⟩ | exact mx_out_ul z0 e_m1 ⟨rfl, rfl⟩ | exact mx_out_cp z0 e_m1 (fun j => ⟨rfl, rfl⟩) | exact mx_out_cl z0 e_m1 (fun j => ⟨rfl, rfl⟩)
  obtain rfl := Option.some.inj h
  exact z1
set_option maxRecDepth 20000 in
theorem ZX7_add {a : Nat} {x0 : Int32} {m : mB} {r : mB} (h : FX7_add a x0 m = some r) : mx_out (WSX7_add a) m r := by
  unfold FX7_add at h
  have z0 : mx_out (WSX7_add a) m m := mx_out.rf
  by_cases hc1z : (m.1 a 1) < 0
  · rw [if_pos hc1z] at h
    obtain rfl := Option.some.inj h
    exact z0
  · rw [if_neg hc1z] at h
    by_cases hc2z : (nI (mx_rl (a + 1))) ≤ (m.1 a 1)
    · rw [if_pos hc2z] at h
      obtain rfl := Option.some.inj h
      exact z0
    · rw [if_neg hc2z] at h
      obtain ⟨-, h⟩ := mx_chkE h
      obtain ⟨m3, e_m3, h⟩ := mx_letE h
      have z1 : mx_out (WSX7_add a) m m3 := by first | exact mx_out_up z0 e_m3 (Or.inr rfl) | exact mx_out_ul z0 e_m3 (Or.inr rfl) | exact mx_out_cp z0 e_m3 (fun j => (Or.inr rfl)) | exact mx_out_cl z0 e_m3 (fun j => (Or.inr rfl))
      obtain ⟨m5, e_m5, h⟩ := mx_letE h
      have z2 : mx_out (WSX7_add a) m m5 := by first | exact mx_out_up z1 e_m5 (Or.inl ⟨rfl, rfl⟩) | exact mx_out_ul z1 e_m5 (Or.inl ⟨rfl, rfl⟩) | exact mx_out_cp z1 e_m5 (fun j => (Or.inl ⟨rfl, rfl⟩)) | exact mx_out_cl z1 e_m5 (fun j => (Or.inl ⟨rfl, rfl⟩))
      obtain rfl := Option.some.inj h
      exact z2
set_option maxRecDepth 20000 in
theorem ZX7_dropTwo {a : Nat} {m : mB} {r : mB} (h : FX7_dropTwo a m = some r) : mx_out (WSX7_dropTwo a) m r := by
  unfold FX7_dropTwo at h
  have z0 : mx_out (WSX7_dropTwo a) m m := mx_out.rf
  obtain ⟨r1, h_r1, h⟩ := Option.bind_eq_some_iff.mp h
  obtain ⟨m2, e_m2, h⟩ := mx_letE h
  have z1 : mx_out (WSX7_dropTwo a) m m2 := by first | exact mx_out_up z0 e_m2 ⟨rfl, rfl⟩ | exact mx_out_ul z0 e_m2 ⟨rfl, rfl⟩ | exact mx_out_cp z0 e_m2 (fun j => ⟨rfl, rfl⟩) | exact mx_out_cl z0 e_m2 (fun j => ⟨rfl, rfl⟩)
  obtain rfl := Option.some.inj h
  exact z1
set_option maxRecDepth 20000 in
theorem ZX7_copyFrom_L7 {q0 : Nat} {q1 : Nat} : ∀ (f : Nat) {y2 : Int32} {m : mB} {q : (mB)}, FX7_copyFrom_L7 q0 q1 f y2 m = some q → mx_out (WSX7_copyFrom_L7 q0 q1) m q := by
  intro f
  induction f with
  | zero => intro _ _ _ h; cases h
  | succ f ih =>
    intro y2 m q h
    rw [FX7_copyFrom_L7] at h
    have z0 : mx_out (WSX7_copyFrom_L7 q0 q1) m m := mx_out.rf
    by_cases hc2z : (m.1 q1 1) ≤ y2
    · rw [if_pos hc2z] at h
      obtain rfl := Option.some.inj h
      exact z0
    · rw [if_neg hc2z] at h
      obtain ⟨r3, h_r3, h⟩ := Option.bind_eq_some_iff.mp h
      obtain ⟨r4, h_r4, h⟩ := Option.bind_eq_some_iff.mp h
      have z1 : mx_out (WSX7_copyFrom_L7 q0 q1) m r4 := mx_out.tr z0 (mx_out.sub (ZX7_add h_r4) (fun b j hb => (Or.elim hb (fun h0 => (Or.inl h0)) (fun g0 => (Or.inr g0)))))
      obtain ⟨v5, -, h⟩ := mx_letE h
      exact mx_out.tr z1 (ih h)
set_option maxRecDepth 20000 in
theorem ZX7_copyFrom {a : Nat} {p0 : Nat} {m : mB} {r : mB} (h : FX7_copyFrom a p0 m = some r) : mx_out (WSX7_copyFrom a p0) m r := by
  unfold FX7_copyFrom at h
  have z0 : mx_out (WSX7_copyFrom a p0) m m := mx_out.rf
  obtain ⟨m1, e_m1, h⟩ := mx_letE h
  have z2 : mx_out (WSX7_copyFrom a p0) m m1 := by first | exact mx_out_up z0 e_m1 (Or.inl ⟨rfl, rfl⟩) | exact mx_out_ul z0 e_m1 (Or.inl ⟨rfl, rfl⟩) | exact mx_out_cp z0 e_m1 (fun j => (Or.inl ⟨rfl, rfl⟩)) | exact mx_out_cl z0 e_m1 (fun j => (Or.inl ⟨rfl, rfl⟩))
  obtain ⟨q6, h_q6, h⟩ := Option.bind_eq_some_iff.mp h
  have z3 := mx_out.tr z2 (mx_out.sub (S := (WSX7_copyFrom a p0)) (ZX7_copyFrom_L7 mx_FU h_q6) (fun b j hb => (Or.elim hb (fun h0 => (Or.inl h0)) (fun g0 => (Or.inr g0)))))
  obtain rfl := Option.some.inj h
  exact z3
set_option maxRecDepth 20000 in
theorem ZX7_addName_L3 {q0 : Nat} {y1 : Int64} : ∀ (f : Nat) {y3 : Int32} {m : mB} {q : (mB)}, FX7_addName_L3 q0 y1 f y3 m = some q → mx_out (WSX7_addName_L3 q0) m q := by
  intro f
  induction f with
  | zero => intro _ _ _ h; cases h
  | succ f ih =>
    intro y3 m q h
    rw [FX7_addName_L3] at h
    have z0 : mx_out (WSX7_addName_L3 q0) m m := mx_out.rf
    by_cases hc1z : y3 < 0
    · rw [if_pos hc1z] at h
      obtain rfl := Option.some.inj h
      exact z0
    · rw [if_neg hc1z] at h
      obtain ⟨v2, -, h⟩ := mx_letE h
      by_cases hc3z : v2 = 0
      · rw [if_pos hc3z] at h
        obtain ⟨v4, -, h⟩ := mx_letE h
        exact mx_out.tr z0 (ih h)
      · rw [if_neg hc3z] at h
        obtain ⟨r5, h_r5, h⟩ := Option.bind_eq_some_iff.mp h
        have z1 : mx_out (WSX7_addName_L3 q0) m r5 := mx_out.tr z0 (mx_out.sub (ZX7_add h_r5) (fun b j hb => (Or.elim hb (fun h0 => (Or.inl h0)) (fun g0 => (Or.inr g0)))))
        obtain ⟨v6, -, h⟩ := mx_letE h
        exact mx_out.tr z1 (ih h)
set_option maxRecDepth 20000 in
theorem ZX7_addName {a : Nat} {x0 : Int64} {m : mB} {r : mB} (h : FX7_addName a x0 m = some r) : mx_out (WSX7_addName a) m r := by
  unfold FX7_addName at h
  have z0 : mx_out (WSX7_addName a) m m := mx_out.rf
  obtain ⟨q7, h_q7, h⟩ := Option.bind_eq_some_iff.mp h
  have z2 := mx_out.tr z0 (mx_out.sub (S := (WSX7_addName a)) (ZX7_addName_L3 mx_FU h_q7) (fun b j hb => (Or.elim hb (fun h0 => (Or.inl h0)) (fun g0 => (Or.inr g0)))))
  obtain rfl := Option.some.inj h
  exact z2
set_option maxRecDepth 20000 in
theorem ZX7_addDigits {a : Nat} {x0 : Int32} {m : mB} {r : mB} (h : FX7_addDigits a x0 m = some r) : mx_out (WSX7_addDigits a) m r := by
  unfold FX7_addDigits at h
  have z0 : mx_out (WSX7_addDigits a) m m := mx_out.rf
  refine mx_letK (J := fun k3 => ∀ {m2 : mB}, k3 m2 = some r → mx_out (WSX7_addDigits a) m m2 → mx_out (WSX7_addDigits a) m r) h ?_ (fun k3 z_k3 h => ?_)
  · intro m2 h z1
    dsimp only at h
    refine mx_letK (J := fun k6 => ∀ {m5 : mB}, k6 m5 = some r → mx_out (WSX7_addDigits a) m m5 → mx_out (WSX7_addDigits a) m r) h ?_ (fun k6 z_k6 h => ?_)
    · intro m5 h z2
      dsimp only at h
      obtain ⟨r7, h_r7, h⟩ := Option.bind_eq_some_iff.mp h
      have z3 : mx_out (WSX7_addDigits a) m r7 := mx_out.tr z2 (mx_out.sub (ZX7_add h_r7) (fun b j hb => (Or.elim hb (fun h0 => (Or.inl h0)) (fun g0 => (Or.inr g0)))))
      obtain rfl := Option.some.inj h
      exact z3
    by_cases hc4z : x0 < 10
    · rw [if_pos hc4z] at h
      exact z_k6 h z1
    · rw [if_neg hc4z] at h
      obtain ⟨r8, h_r8, h⟩ := Option.bind_eq_some_iff.mp h
      have z4 : mx_out (WSX7_addDigits a) m r8 := mx_out.tr z1 (mx_out.sub (ZX7_add h_r8) (fun b j hb => (Or.elim hb (fun h0 => (Or.inl h0)) (fun g0 => (Or.inr g0)))))
      exact z_k6 h z4
  by_cases hc1z : x0 < 100
  · rw [if_pos hc1z] at h
    exact z_k3 h z0
  · rw [if_neg hc1z] at h
    obtain ⟨r9, h_r9, h⟩ := Option.bind_eq_some_iff.mp h
    have z5 : mx_out (WSX7_addDigits a) m r9 := mx_out.tr z0 (mx_out.sub (ZX7_add h_r9) (fun b j hb => (Or.elim hb (fun h0 => (Or.inl h0)) (fun g0 => (Or.inr g0)))))
    exact z_k3 h z5
set_option maxRecDepth 20000 in
theorem ZX10_readChunk_L9 {q0 : Nat} : ∀ (f : Nat) {y1 : Int32} {y2 : Int32} {y3 : Int64} {y5 : Int32} {m : mB} {q : (Int32 × Int32 × Int64 × Int32 × mB)}, FX10_readChunk_L9 q0 f y1 y2 y3 y5 m = some q → mx_out (WSX10_readChunk_L9 q0) m q.2.2.2.2 := by
  intro f
  induction f with
  | zero => intro _ _ _ _ _ _ h; cases h
  | succ f ih =>
    intro y1 y2 y3 y5 m q h
    rw [FX10_readChunk_L9] at h
    have z0 : mx_out (WSX10_readChunk_L9 q0) m m := mx_out.rf
    by_cases hc1z : (m.1 q0 4) < 0
    · rw [if_pos hc1z] at h
      obtain rfl := Option.some.inj h
      exact z0
    · rw [if_neg hc1z] at h
      by_cases hc2z : (m.1 q0 2) ≤ (m.1 q0 4)
      · rw [if_pos hc2z] at h
        obtain rfl := Option.some.inj h
        exact z0
      · rw [if_neg hc2z] at h
        by_cases hc3z : 940 ≤ (m.1 q0 4)
        · rw [if_pos hc3z] at h
          obtain rfl := Option.some.inj h
          exact z0
        · rw [if_neg hc3z] at h
          obtain ⟨-, h⟩ := mx_chkE h
          obtain ⟨v5, -, h⟩ := mx_letE h
          refine mx_letK (J := fun k9 => ∀ {y7 : Int32} {y8 : Int64}, k9 y7 y8 = some q → mx_out (WSX10_readChunk_L9 q0) m q.2.2.2.2) h ?_ (fun k9 z_k9 h => ?_)
          · intro y7 y8 h
            dsimp only at h
            by_cases hc10z : v5 < 48
            · rw [if_pos hc10z] at h
              obtain rfl := Option.some.inj h
              exact z0
            · rw [if_neg hc10z] at h
              by_cases hc11z : 57 < v5
              · rw [if_pos hc11z] at h
                obtain rfl := Option.some.inj h
                exact z0
              · rw [if_neg hc11z] at h
                obtain ⟨v12, -, h⟩ := mx_letE h
                obtain ⟨v13, -, h⟩ := mx_letE h
                obtain ⟨m14, e_m14, h⟩ := mx_letE h
                have z2 : mx_out (WSX10_readChunk_L9 q0) m m14 := by first | exact mx_out_up z0 e_m14 ⟨rfl, rfl⟩ | exact mx_out_ul z0 e_m14 ⟨rfl, rfl⟩ | exact mx_out_cp z0 e_m14 (fun j => ⟨rfl, rfl⟩) | exact mx_out_cl z0 e_m14 (fun j => ⟨rfl, rfl⟩)
                exact mx_out.tr z2 (ih h)
          by_cases hc6z : v5 < 97
          · rw [if_pos hc6z] at h
            exact z_k9 h
          · rw [if_neg hc6z] at h
            by_cases hc15z : 122 < v5
            · rw [if_pos hc15z] at h
              exact z_k9 h
            · rw [if_neg hc15z] at h
              obtain ⟨v16, -, h⟩ := mx_letE h
              obtain ⟨v17, -, h⟩ := mx_letE h
              obtain ⟨m18, e_m18, h⟩ := mx_letE h
              have z3 : mx_out (WSX10_readChunk_L9 q0) m m18 := by first | exact mx_out_up z0 e_m18 ⟨rfl, rfl⟩ | exact mx_out_ul z0 e_m18 ⟨rfl, rfl⟩ | exact mx_out_cp z0 e_m18 (fun j => ⟨rfl, rfl⟩) | exact mx_out_cl z0 e_m18 (fun j => ⟨rfl, rfl⟩)
              exact mx_out.tr z3 (ih h)
set_option maxRecDepth 20000 in
theorem ZX10_readChunk_L154 {q0 : Nat} {y3 : Int64} : ∀ (f : Nat) {y6 : Int32} {m : mB} {q : (mB)}, FX10_readChunk_L154 q0 y3 f y6 m = some q → mx_out (WSX10_readChunk_L154 q0) m q := by
  intro f
  induction f with
  | zero => intro _ _ _ h; cases h
  | succ f ih =>
    intro y6 m q h
    rw [FX10_readChunk_L154] at h
    have z0 : mx_out (WSX10_readChunk_L154 q0) m m := mx_out.rf
    by_cases hc31z : 22 ≤ y6
    · rw [if_pos hc31z] at h
      obtain rfl := Option.some.inj h
      exact z0
    · rw [if_neg hc31z] at h
      obtain ⟨-, h⟩ := mx_chkE h
      by_cases hc33z : (lg_cmp (m.2 (q0 + 2) (Int32.toNatClampNeg y6)) y3) = 0
      · rw [if_pos hc33z] at h
        obtain ⟨m35, e_m35, h⟩ := mx_letE h
        have z4 : mx_out (WSX10_readChunk_L154 q0) m m35 := by first | exact mx_out_up z0 e_m35 ⟨rfl, rfl⟩ | exact mx_out_ul z0 e_m35 ⟨rfl, rfl⟩ | exact mx_out_cp z0 e_m35 (fun j => ⟨rfl, rfl⟩) | exact mx_out_cl z0 e_m35 (fun j => ⟨rfl, rfl⟩)
        obtain ⟨v36, -, h⟩ := mx_letE h
        exact mx_out.tr z4 (ih h)
      · rw [if_neg hc33z] at h
        obtain ⟨v34, -, h⟩ := mx_letE h
        exact mx_out.tr z0 (ih h)
set_option maxRecDepth 20000 in
theorem ZX10_readChunk {a : Nat} {m : mB} {r : mB} (h : FX10_readChunk a m = some r) : mx_out (WSX10_readChunk a) m r := by
  unfold FX10_readChunk at h
  have z0 : mx_out (WSX10_readChunk a) m m := mx_out.rf
  obtain ⟨q19, h_q19, h⟩ := Option.bind_eq_some_iff.mp h
  have z5 := mx_out.tr z0 (mx_out.sub (S := (WSX10_readChunk a)) (ZX10_readChunk_L9 mx_FU h_q19) (fun b j hb => (Or.inl hb)))
  obtain ⟨m20, e_m20, h⟩ := mx_letE h
  have z6 : mx_out (WSX10_readChunk a) m m20 := by first | exact mx_out_up z5 e_m20 (Or.inr (Or.inl ⟨rfl, rfl⟩)) | exact mx_out_ul z5 e_m20 (Or.inr (Or.inl ⟨rfl, rfl⟩)) | exact mx_out_cp z5 e_m20 (fun j => (Or.inr (Or.inl ⟨rfl, rfl⟩))) | exact mx_out_cl z5 e_m20 (fun j => (Or.inr (Or.inl ⟨rfl, rfl⟩)))
  refine mx_letK (J := fun k23 => ∀ {m22 : mB}, k23 m22 = some r → mx_out (WSX10_readChunk a) m m22 → mx_out (WSX10_readChunk a) m r) h ?_ (fun k23 z_k23 h => ?_)
  · intro m22 h z7
    dsimp only at h
    by_cases hc24z : q19.1 = 0
    · rw [if_pos hc24z] at h
      by_cases hc25z : 3 < q19.2.1
      · rw [if_pos hc25z] at h
        obtain rfl := Option.some.inj h
        exact z7
      · rw [if_neg hc25z] at h
        obtain ⟨m26, e_m26, h⟩ := mx_letE h
        have z8 : mx_out (WSX10_readChunk a) m m26 := by first | exact mx_out_up z7 e_m26 (Or.inr (Or.inr (Or.inl ⟨rfl, rfl⟩))) | exact mx_out_ul z7 e_m26 (Or.inr (Or.inr (Or.inl ⟨rfl, rfl⟩))) | exact mx_out_cp z7 e_m26 (fun j => (Or.inr (Or.inr (Or.inl ⟨rfl, rfl⟩)))) | exact mx_out_cl z7 e_m26 (fun j => (Or.inr (Or.inr (Or.inl ⟨rfl, rfl⟩))))
        obtain ⟨m27, e_m27, h⟩ := mx_letE h
        have z9 : mx_out (WSX10_readChunk a) m m27 := by first | exact mx_out_up z8 e_m27 (Or.inr (Or.inl ⟨rfl, rfl⟩)) | exact mx_out_ul z8 e_m27 (Or.inr (Or.inl ⟨rfl, rfl⟩)) | exact mx_out_cp z8 e_m27 (fun j => (Or.inr (Or.inl ⟨rfl, rfl⟩))) | exact mx_out_cl z8 e_m27 (fun j => (Or.inr (Or.inl ⟨rfl, rfl⟩)))
        obtain rfl := Option.some.inj h
        exact z9
    · rw [if_neg hc24z] at h
      obtain rfl := Option.some.inj h
      exact z7
  by_cases hc21z : q19.2.1 = 0
  · rw [if_pos hc21z] at h
    by_cases hc28z : 7 < q19.1
    · rw [if_pos hc28z] at h
      exact z_k23 h z6
    · rw [if_neg hc28z] at h
      obtain ⟨m29, e_m29, h⟩ := mx_letE h
      have z10 : mx_out (WSX10_readChunk a) m m29 := by first | exact mx_out_up z6 e_m29 (Or.inr (Or.inr (Or.inr ⟨rfl, rfl⟩))) | exact mx_out_ul z6 e_m29 (Or.inr (Or.inr (Or.inr ⟨rfl, rfl⟩))) | exact mx_out_cp z6 e_m29 (fun j => (Or.inr (Or.inr (Or.inr ⟨rfl, rfl⟩)))) | exact mx_out_cl z6 e_m29 (fun j => (Or.inr (Or.inr (Or.inr ⟨rfl, rfl⟩))))
      obtain ⟨m30, e_m30, h⟩ := mx_letE h
      have z11 : mx_out (WSX10_readChunk a) m m30 := by first | exact mx_out_up z10 e_m30 (Or.inr (Or.inl ⟨rfl, rfl⟩)) | exact mx_out_ul z10 e_m30 (Or.inr (Or.inl ⟨rfl, rfl⟩)) | exact mx_out_cp z10 e_m30 (fun j => (Or.inr (Or.inl ⟨rfl, rfl⟩))) | exact mx_out_cl z10 e_m30 (fun j => (Or.inr (Or.inl ⟨rfl, rfl⟩)))
      obtain ⟨q37, h_q37, h⟩ := Option.bind_eq_some_iff.mp h
      have z12 := mx_out.tr z11 (mx_out.sub (S := (WSX10_readChunk a)) (ZX10_readChunk_L154 mx_FU h_q37) (fun b j hb => (Or.inr (Or.inl hb))))
      obtain rfl := Option.some.inj h
      exact z12
  · rw [if_neg hc21z] at h
    exact z_k23 h z6
set_option maxRecDepth 20000 in
theorem ZX10_advance_L0 {q0 : Nat} : ∀ (f : Nat)  {m : mB} {q : (mB)}, FX10_advance_L0 q0 f  m = some q → mx_out (WSX10_advance_L0 q0) m q := by
  intro f
  induction f with
  | zero => intro _ _ h; cases h
  | succ f ih =>
    intro m q h
    rw [FX10_advance_L0] at h
    have z0 : mx_out (WSX10_advance_L0 q0) m m := mx_out.rf
    by_cases hc1z : (m.1 q0 4) < 0
    · rw [if_pos hc1z] at h
      obtain rfl := Option.some.inj h
      exact z0
    · rw [if_neg hc1z] at h
      by_cases hc2z : (m.1 q0 3) ≤ (m.1 q0 4)
      · rw [if_pos hc2z] at h
        obtain rfl := Option.some.inj h
        exact z0
      · rw [if_neg hc2z] at h
        by_cases hc3z : 940 ≤ (m.1 q0 4)
        · rw [if_pos hc3z] at h
          obtain rfl := Option.some.inj h
          exact z0
        · rw [if_neg hc3z] at h
          obtain ⟨-, h⟩ := mx_chkE h
          by_cases hc5z : (m.1 (q0 + 1) (Int32.toNatClampNeg (m.1 q0 4))) = 32
          · rw [if_pos hc5z] at h
            obtain ⟨m6, e_m6, h⟩ := mx_letE h
            have z1 : mx_out (WSX10_advance_L0 q0) m m6 := by first | exact mx_out_up z0 e_m6 ⟨rfl, rfl⟩ | exact mx_out_ul z0 e_m6 ⟨rfl, rfl⟩ | exact mx_out_cp z0 e_m6 (fun j => ⟨rfl, rfl⟩) | exact mx_out_cl z0 e_m6 (fun j => ⟨rfl, rfl⟩)
            exact mx_out.tr z1 (ih h)
          · rw [if_neg hc5z] at h
            by_cases hc7z : (m.1 (q0 + 1) (Int32.toNatClampNeg (m.1 q0 4))) = 10
            · rw [if_pos hc7z] at h
              obtain ⟨m8, e_m8, h⟩ := mx_letE h
              have z2 : mx_out (WSX10_advance_L0 q0) m m8 := by first | exact mx_out_up z0 e_m8 ⟨rfl, rfl⟩ | exact mx_out_ul z0 e_m8 ⟨rfl, rfl⟩ | exact mx_out_cp z0 e_m8 (fun j => ⟨rfl, rfl⟩) | exact mx_out_cl z0 e_m8 (fun j => ⟨rfl, rfl⟩)
              exact mx_out.tr z2 (ih h)
            · rw [if_neg hc7z] at h
              obtain rfl := Option.some.inj h
              exact z0
set_option maxRecDepth 20000 in
theorem ZX10_advance {a : Nat} {m : mB} {r : mB} (h : FX10_advance a m = some r) : mx_out (WSX10_advance a) m r := by
  unfold FX10_advance at h
  have z0 : mx_out (WSX10_advance a) m m := mx_out.rf
  obtain ⟨q9, h_q9, h⟩ := Option.bind_eq_some_iff.mp h
  have z3 := mx_out.tr z0 (mx_out.sub (S := (WSX10_advance a)) (ZX10_advance_L0 mx_FU h_q9) (fun b j hb => (Or.inl hb)))
  by_cases hc10z : (q9.1 a 4) < (q9.1 a 3)
  · rw [if_pos hc10z] at h
    obtain ⟨m11, e_m11, h⟩ := mx_letE h
    have z4 : mx_out (WSX10_advance a) m m11 := by first | exact mx_out_up z3 e_m11 (Or.inr (Or.inr (Or.inl ⟨rfl, rfl⟩))) | exact mx_out_ul z3 e_m11 (Or.inr (Or.inr (Or.inl ⟨rfl, rfl⟩))) | exact mx_out_cp z3 e_m11 (fun j => (Or.inr (Or.inr (Or.inl ⟨rfl, rfl⟩)))) | exact mx_out_cl z3 e_m11 (fun j => (Or.inr (Or.inr (Or.inl ⟨rfl, rfl⟩))))
    obtain ⟨r12, h_r12, h⟩ := Option.bind_eq_some_iff.mp h
    refine mx_letK (J := fun k14 => k14 = some r → mx_out (WSX10_advance a) m r) h ?_ (fun k14 z_k14 h => ?_)
    · intro h
      refine mx_letK (J := fun k17 => ∀ {m16 : mB}, k17 m16 = some r → mx_out (WSX10_advance a) m m16 → mx_out (WSX10_advance a) m r) h ?_ (fun k17 z_k17 h => ?_)
      · intro m16 h z6
        dsimp only at h
        obtain ⟨m18, e_m18, h⟩ := mx_letE h
        have z7 : mx_out (WSX10_advance a) m m18 := by first | exact mx_out_up z6 e_m18 (Or.inl ⟨rfl, rfl⟩) | exact mx_out_ul z6 e_m18 (Or.inl ⟨rfl, rfl⟩) | exact mx_out_cp z6 e_m18 (fun j => (Or.inl ⟨rfl, rfl⟩)) | exact mx_out_cl z6 e_m18 (fun j => (Or.inl ⟨rfl, rfl⟩))
        refine mx_letK (J := fun k20 => k20 = some r → mx_out (WSX10_advance a) m r) h ?_ (fun k20 z_k20 h => ?_)
        · intro h
          by_cases hc21z : r12 = 40
          · rw [if_pos hc21z] at h
            obtain ⟨m22, e_m22, h⟩ := mx_letE h
            have z9 : mx_out (WSX10_advance a) m m22 := by first | exact mx_out_up z7 e_m22 (Or.inr (Or.inl ⟨rfl, rfl⟩)) | exact mx_out_ul z7 e_m22 (Or.inr (Or.inl ⟨rfl, rfl⟩)) | exact mx_out_cp z7 e_m22 (fun j => (Or.inr (Or.inl ⟨rfl, rfl⟩))) | exact mx_out_cl z7 e_m22 (fun j => (Or.inr (Or.inl ⟨rfl, rfl⟩)))
            obtain rfl := Option.some.inj h
            exact z9
          · rw [if_neg hc21z] at h
            by_cases hc23z : r12 = 41
            · rw [if_pos hc23z] at h
              obtain ⟨m25, e_m25, h⟩ := mx_letE h
              have z10 : mx_out (WSX10_advance a) m m25 := by first | exact mx_out_up z7 e_m25 (Or.inr (Or.inl ⟨rfl, rfl⟩)) | exact mx_out_ul z7 e_m25 (Or.inr (Or.inl ⟨rfl, rfl⟩)) | exact mx_out_cp z7 e_m25 (fun j => (Or.inr (Or.inl ⟨rfl, rfl⟩))) | exact mx_out_cl z7 e_m25 (fun j => (Or.inr (Or.inl ⟨rfl, rfl⟩)))
              obtain rfl := Option.some.inj h
              exact z10
            · rw [if_neg hc23z] at h
              obtain ⟨m24, e_m24, h⟩ := mx_letE h
              have z11 : mx_out (WSX10_advance a) m m24 := by first | exact mx_out_up z7 e_m24 (Or.inr (Or.inl ⟨rfl, rfl⟩)) | exact mx_out_ul z7 e_m24 (Or.inr (Or.inl ⟨rfl, rfl⟩)) | exact mx_out_cp z7 e_m24 (fun j => (Or.inr (Or.inl ⟨rfl, rfl⟩))) | exact mx_out_cl z7 e_m24 (fun j => (Or.inr (Or.inl ⟨rfl, rfl⟩)))
              obtain rfl := Option.some.inj h
              exact z11
        by_cases hc19z : r12 < 59
        · rw [if_pos hc19z] at h
          exact z_k20 h
        · rw [if_neg hc19z] at h
          by_cases hc26z : r12 ≤ 62
          · rw [if_pos hc26z] at h
            obtain ⟨m27, e_m27, h⟩ := mx_letE h
            have z12 : mx_out (WSX10_advance a) m m27 := by first | exact mx_out_up z7 e_m27 (Or.inr (Or.inl ⟨rfl, rfl⟩)) | exact mx_out_ul z7 e_m27 (Or.inr (Or.inl ⟨rfl, rfl⟩)) | exact mx_out_cp z7 e_m27 (fun j => (Or.inr (Or.inl ⟨rfl, rfl⟩))) | exact mx_out_cl z7 e_m27 (fun j => (Or.inr (Or.inl ⟨rfl, rfl⟩)))
            obtain rfl := Option.some.inj h
            exact z12
          · rw [if_neg hc26z] at h
            exact z_k20 h
      by_cases hc15z : r12 < 48
      · rw [if_pos hc15z] at h
        exact z_k17 h z4
      · rw [if_neg hc15z] at h
        by_cases hc28z : 57 < r12
        · rw [if_pos hc28z] at h
          exact z_k17 h z4
        · rw [if_neg hc28z] at h
          obtain ⟨r29, h_r29, h⟩ := Option.bind_eq_some_iff.mp h
          have z13 : mx_out (WSX10_advance a) m r29 := mx_out.tr z4 (mx_out.sub (ZX10_readChunk h_r29) (fun b j hb => (Or.elim hb (fun h0 => (Or.inl h0)) (fun g0 => (Or.elim g0 (fun h1 => (Or.inr (Or.inl h1))) (fun g1 => (Or.elim g1 (fun h2 => (Or.inr (Or.inr (Or.inr (Or.inl h2))))) (fun g2 => (Or.inr (Or.inr (Or.inr (Or.inr g2))))))))))))
          obtain rfl := Option.some.inj h
          exact z13
    by_cases hc13z : r12 < 97
    · rw [if_pos hc13z] at h
      exact z_k14 h
    · rw [if_neg hc13z] at h
      by_cases hc30z : r12 ≤ 122
      · rw [if_pos hc30z] at h
        obtain ⟨r31, h_r31, h⟩ := Option.bind_eq_some_iff.mp h
        have z14 : mx_out (WSX10_advance a) m r31 := mx_out.tr z4 (mx_out.sub (ZX10_readChunk h_r31) (fun b j hb => (Or.elim hb (fun h0 => (Or.inl h0)) (fun g0 => (Or.elim g0 (fun h1 => (Or.inr (Or.inl h1))) (fun g1 => (Or.elim g1 (fun h2 => (Or.inr (Or.inr (Or.inr (Or.inl h2))))) (fun g2 => (Or.inr (Or.inr (Or.inr (Or.inr g2))))))))))))
        obtain rfl := Option.some.inj h
        exact z14
      · rw [if_neg hc30z] at h
        exact z_k14 h
  · rw [if_neg hc10z] at h
    obtain ⟨m32, e_m32, h⟩ := mx_letE h
    have z15 : mx_out (WSX10_advance a) m m32 := by first | exact mx_out_up z3 e_m32 (Or.inr (Or.inr (Or.inl ⟨rfl, rfl⟩))) | exact mx_out_ul z3 e_m32 (Or.inr (Or.inr (Or.inl ⟨rfl, rfl⟩))) | exact mx_out_cp z3 e_m32 (fun j => (Or.inr (Or.inr (Or.inl ⟨rfl, rfl⟩)))) | exact mx_out_cl z3 e_m32 (fun j => (Or.inr (Or.inr (Or.inl ⟨rfl, rfl⟩))))
    obtain ⟨m33, e_m33, h⟩ := mx_letE h
    have z16 : mx_out (WSX10_advance a) m m33 := by first | exact mx_out_up z15 e_m33 (Or.inr (Or.inl ⟨rfl, rfl⟩)) | exact mx_out_ul z15 e_m33 (Or.inr (Or.inl ⟨rfl, rfl⟩)) | exact mx_out_cp z15 e_m33 (fun j => (Or.inr (Or.inl ⟨rfl, rfl⟩))) | exact mx_out_cl z15 e_m33 (fun j => (Or.inr (Or.inl ⟨rfl, rfl⟩)))
    obtain rfl := Option.some.inj h
    exact z16
set_option maxRecDepth 20000 in
theorem ZX10_begin {a : Nat} {x0 : Int32} {m : mB} {r : mB} (h : FX10_begin a x0 m = some r) : mx_out (WSX10_begin a) m r := by
  unfold FX10_begin at h
  have z0 : mx_out (WSX10_begin a) m m := mx_out.rf
  by_cases hc1z : (m.1 a 2) ≤ x0
  · rw [if_pos hc1z] at h
    obtain ⟨m2, e_m2, h⟩ := mx_letE h
    have z1 : mx_out (WSX10_begin a) m m2 := by first | exact mx_out_up z0 e_m2 (Or.inr (Or.inr (Or.inr (Or.inr (Or.inl ⟨rfl, rfl⟩))))) | exact mx_out_ul z0 e_m2 (Or.inr (Or.inr (Or.inr (Or.inr (Or.inl ⟨rfl, rfl⟩))))) | exact mx_out_cp z0 e_m2 (fun j => (Or.inr (Or.inr (Or.inr (Or.inr (Or.inl ⟨rfl, rfl⟩)))))) | exact mx_out_cl z0 e_m2 (fun j => (Or.inr (Or.inr (Or.inr (Or.inr (Or.inl ⟨rfl, rfl⟩))))))
    obtain ⟨r3, h_r3, h⟩ := Option.bind_eq_some_iff.mp h
    obtain ⟨m4, e_m4, h⟩ := mx_letE h
    have z2 : mx_out (WSX10_begin a) m m4 := by first | exact mx_out_up z1 e_m4 (Or.inr (Or.inr (Or.inl ⟨rfl, rfl⟩))) | exact mx_out_ul z1 e_m4 (Or.inr (Or.inr (Or.inl ⟨rfl, rfl⟩))) | exact mx_out_cp z1 e_m4 (fun j => (Or.inr (Or.inr (Or.inl ⟨rfl, rfl⟩)))) | exact mx_out_cl z1 e_m4 (fun j => (Or.inr (Or.inr (Or.inl ⟨rfl, rfl⟩))))
    obtain ⟨m5, e_m5, h⟩ := mx_letE h
    have z3 : mx_out (WSX10_begin a) m m5 := by first | exact mx_out_up z2 e_m5 (Or.inr (Or.inr (Or.inr (Or.inl ⟨rfl, rfl⟩)))) | exact mx_out_ul z2 e_m5 (Or.inr (Or.inr (Or.inr (Or.inl ⟨rfl, rfl⟩)))) | exact mx_out_cp z2 e_m5 (fun j => (Or.inr (Or.inr (Or.inr (Or.inl ⟨rfl, rfl⟩))))) | exact mx_out_cl z2 e_m5 (fun j => (Or.inr (Or.inr (Or.inr (Or.inl ⟨rfl, rfl⟩)))))
    obtain ⟨m6, e_m6, h⟩ := mx_letE h
    have z4 : mx_out (WSX10_begin a) m m6 := by first | exact mx_out_up z3 e_m6 (Or.inl ⟨rfl, rfl⟩) | exact mx_out_ul z3 e_m6 (Or.inl ⟨rfl, rfl⟩) | exact mx_out_cp z3 e_m6 (fun j => (Or.inl ⟨rfl, rfl⟩)) | exact mx_out_cl z3 e_m6 (fun j => (Or.inl ⟨rfl, rfl⟩))
    obtain ⟨m7, e_m7, h⟩ := mx_letE h
    have z5 : mx_out (WSX10_begin a) m m7 := by first | exact mx_out_up z4 e_m7 (Or.inr (Or.inl ⟨rfl, rfl⟩)) | exact mx_out_ul z4 e_m7 (Or.inr (Or.inl ⟨rfl, rfl⟩)) | exact mx_out_cp z4 e_m7 (fun j => (Or.inr (Or.inl ⟨rfl, rfl⟩))) | exact mx_out_cl z4 e_m7 (fun j => (Or.inr (Or.inl ⟨rfl, rfl⟩)))
    obtain ⟨r8, h_r8, h⟩ := Option.bind_eq_some_iff.mp h
    have z6 : mx_out (WSX10_begin a) m r8 := mx_out.tr z5 (mx_out.sub (ZX10_advance h_r8) (fun b j hb => (Or.elim hb (fun h0 => (Or.inr (Or.inr (Or.inr (Or.inl h0))))) (fun g0 => (Or.elim g0 (fun h1 => (Or.inr (Or.inr (Or.inr (Or.inr (Or.inr (Or.inl h1))))))) (fun g1 => (Or.elim g1 (fun h2 => (Or.inr (Or.inr (Or.inr (Or.inr (Or.inr (Or.inr (Or.inl h2)))))))) (fun g2 => (Or.elim g2 (fun h3 => (Or.inr (Or.inr (Or.inr (Or.inr (Or.inr (Or.inr (Or.inr (Or.inl h3))))))))) (fun g3 => (Or.inr (Or.inr (Or.inr (Or.inr (Or.inr (Or.inr (Or.inr (Or.inr g3))))))))))))))))))
    obtain rfl := Option.some.inj h
    exact z6
  · rw [if_neg hc1z] at h
    obtain ⟨m9, e_m9, h⟩ := mx_letE h
    have z7 : mx_out (WSX10_begin a) m m9 := by first | exact mx_out_up z0 e_m9 (Or.inr (Or.inr (Or.inr (Or.inr (Or.inl ⟨rfl, rfl⟩))))) | exact mx_out_ul z0 e_m9 (Or.inr (Or.inr (Or.inr (Or.inr (Or.inl ⟨rfl, rfl⟩))))) | exact mx_out_cp z0 e_m9 (fun j => (Or.inr (Or.inr (Or.inr (Or.inr (Or.inl ⟨rfl, rfl⟩)))))) | exact mx_out_cl z0 e_m9 (fun j => (Or.inr (Or.inr (Or.inr (Or.inr (Or.inl ⟨rfl, rfl⟩))))))
    obtain ⟨r10, h_r10, h⟩ := Option.bind_eq_some_iff.mp h
    obtain ⟨m11, e_m11, h⟩ := mx_letE h
    have z8 : mx_out (WSX10_begin a) m m11 := by first | exact mx_out_up z7 e_m11 (Or.inr (Or.inr (Or.inl ⟨rfl, rfl⟩))) | exact mx_out_ul z7 e_m11 (Or.inr (Or.inr (Or.inl ⟨rfl, rfl⟩))) | exact mx_out_cp z7 e_m11 (fun j => (Or.inr (Or.inr (Or.inl ⟨rfl, rfl⟩)))) | exact mx_out_cl z7 e_m11 (fun j => (Or.inr (Or.inr (Or.inl ⟨rfl, rfl⟩))))
    obtain ⟨m12, e_m12, h⟩ := mx_letE h
    have z9 : mx_out (WSX10_begin a) m m12 := by first | exact mx_out_up z8 e_m12 (Or.inr (Or.inr (Or.inr (Or.inl ⟨rfl, rfl⟩)))) | exact mx_out_ul z8 e_m12 (Or.inr (Or.inr (Or.inr (Or.inl ⟨rfl, rfl⟩)))) | exact mx_out_cp z8 e_m12 (fun j => (Or.inr (Or.inr (Or.inr (Or.inl ⟨rfl, rfl⟩))))) | exact mx_out_cl z8 e_m12 (fun j => (Or.inr (Or.inr (Or.inr (Or.inl ⟨rfl, rfl⟩)))))
    obtain ⟨m13, e_m13, h⟩ := mx_letE h
    have z10 : mx_out (WSX10_begin a) m m13 := by first | exact mx_out_up z9 e_m13 (Or.inl ⟨rfl, rfl⟩) | exact mx_out_ul z9 e_m13 (Or.inl ⟨rfl, rfl⟩) | exact mx_out_cp z9 e_m13 (fun j => (Or.inl ⟨rfl, rfl⟩)) | exact mx_out_cl z9 e_m13 (fun j => (Or.inl ⟨rfl, rfl⟩))
    obtain ⟨m14, e_m14, h⟩ := mx_letE h
    have z11 : mx_out (WSX10_begin a) m m14 := by first | exact mx_out_up z10 e_m14 (Or.inr (Or.inl ⟨rfl, rfl⟩)) | exact mx_out_ul z10 e_m14 (Or.inr (Or.inl ⟨rfl, rfl⟩)) | exact mx_out_cp z10 e_m14 (fun j => (Or.inr (Or.inl ⟨rfl, rfl⟩))) | exact mx_out_cl z10 e_m14 (fun j => (Or.inr (Or.inl ⟨rfl, rfl⟩)))
    obtain ⟨r15, h_r15, h⟩ := Option.bind_eq_some_iff.mp h
    have z12 : mx_out (WSX10_begin a) m r15 := mx_out.tr z11 (mx_out.sub (ZX10_advance h_r15) (fun b j hb => (Or.elim hb (fun h0 => (Or.inr (Or.inr (Or.inr (Or.inl h0))))) (fun g0 => (Or.elim g0 (fun h1 => (Or.inr (Or.inr (Or.inr (Or.inr (Or.inr (Or.inl h1))))))) (fun g1 => (Or.elim g1 (fun h2 => (Or.inr (Or.inr (Or.inr (Or.inr (Or.inr (Or.inr (Or.inl h2)))))))) (fun g2 => (Or.elim g2 (fun h3 => (Or.inr (Or.inr (Or.inr (Or.inr (Or.inr (Or.inr (Or.inr (Or.inl h3))))))))) (fun g3 => (Or.inr (Or.inr (Or.inr (Or.inr (Or.inr (Or.inr (Or.inr (Or.inr g3))))))))))))))))))
    obtain rfl := Option.some.inj h
    exact z12
set_option maxRecDepth 20000 in
theorem ZX10_fail {a : Nat} {x0 : Int32} {m : mB} {r : (Int32 × mB)} (h : FX10_fail a x0 m = some r) : mx_out (WSX10_fail a) m r.2 := by
  unfold FX10_fail at h
  have z0 : mx_out (WSX10_fail a) m m := mx_out.rf
  by_cases hc1z : (m.1 a 10) = 0
  · rw [if_pos hc1z] at h
    obtain ⟨m2, e_m2, h⟩ := mx_letE h
    have z1 : mx_out (WSX10_fail a) m m2 := by first | exact mx_out_up z0 e_m2 (Or.inl ⟨rfl, rfl⟩) | exact mx_out_ul z0 e_m2 (Or.inl ⟨rfl, rfl⟩) | exact mx_out_cp z0 e_m2 (fun j => (Or.inl ⟨rfl, rfl⟩)) | exact mx_out_cl z0 e_m2 (fun j => (Or.inl ⟨rfl, rfl⟩))
    obtain ⟨m3, e_m3, h⟩ := mx_letE h
    have z2 : mx_out (WSX10_fail a) m m3 := by first | exact mx_out_up z1 e_m3 (Or.inr ⟨rfl, rfl⟩) | exact mx_out_ul z1 e_m3 (Or.inr ⟨rfl, rfl⟩) | exact mx_out_cp z1 e_m3 (fun j => (Or.inr ⟨rfl, rfl⟩)) | exact mx_out_cl z1 e_m3 (fun j => (Or.inr ⟨rfl, rfl⟩))
    obtain rfl := Option.some.inj h
    exact z2
  · rw [if_neg hc1z] at h
    obtain rfl := Option.some.inj h
    exact z0
set_option maxRecDepth 20000 in
theorem ZX10_pointHere {a : Nat} {p0 : Nat} {m : mB} {r : (Int32 × mB)} (h : FX10_pointHere a p0 m = some r) : mx_out (WSX10_pointHere a p0) m r.2 := by
  unfold FX10_pointHere at h
  have z0 : mx_out (WSX10_pointHere a p0) m m := mx_out.rf
  by_cases hc1z : (m.1 a 6) = 2
  · rw [if_pos hc1z] at h
    obtain ⟨r2, h_r2, h⟩ := Option.bind_eq_some_iff.mp h
    by_cases hc3z : r2 = (-1)
    · rw [if_pos hc3z] at h
      obtain ⟨r4, h_r4, h⟩ := Option.bind_eq_some_iff.mp h
      have z1 : mx_out (WSX10_pointHere a p0) m r4.2 := mx_out.tr z0 (mx_out.sub (ZX10_fail h_r4) (fun b j hb => (Or.elim hb (fun h0 => (Or.inl h0)) (fun g0 => (Or.inr g0)))))
      obtain rfl := Option.some.inj h
      exact z1
    · rw [if_neg hc3z] at h
      obtain rfl := Option.some.inj h
      exact z0
  · rw [if_neg hc1z] at h
    obtain ⟨r5, h_r5, h⟩ := Option.bind_eq_some_iff.mp h
    have z2 : mx_out (WSX10_pointHere a p0) m r5.2 := mx_out.tr z0 (mx_out.sub (ZX10_fail h_r5) (fun b j hb => (Or.elim hb (fun h0 => (Or.inl h0)) (fun g0 => (Or.inr g0)))))
    obtain rfl := Option.some.inj h
    exact z2
set_option maxRecDepth 20000 in
theorem ZX10_takePoint {a : Nat} {p0 : Nat} {m : mB} {r : (Int32 × mB)} (h : FX10_takePoint a p0 m = some r) : mx_out (WSX10_takePoint a p0) m r.2 := by
  unfold FX10_takePoint at h
  have z0 : mx_out (WSX10_takePoint a p0) m m := mx_out.rf
  obtain ⟨r1, h_r1, h⟩ := Option.bind_eq_some_iff.mp h
  have z1 : mx_out (WSX10_takePoint a p0) m r1.2 := mx_out.tr z0 (mx_out.sub (ZX10_pointHere h_r1) (fun b j hb => (Or.elim hb (fun h0 => (Or.inl h0)) (fun g0 => (Or.inr (Or.inl g0))))))
  by_cases hc2z : r1.1 = (-1)
  · rw [if_pos hc2z] at h
    obtain rfl := Option.some.inj h
    exact z1
  · rw [if_neg hc2z] at h
    obtain ⟨r3, h_r3, h⟩ := Option.bind_eq_some_iff.mp h
    have z2 : mx_out (WSX10_takePoint a p0) m r3 := mx_out.tr z1 (mx_out.sub (ZX10_advance h_r3) (fun b j hb => (Or.elim hb (fun h0 => (Or.inr (Or.inr (Or.inl h0)))) (fun g0 => (Or.elim g0 (fun h1 => (Or.inr (Or.inr (Or.inr (Or.inl h1))))) (fun g1 => (Or.elim g1 (fun h2 => (Or.inr (Or.inr (Or.inr (Or.inr (Or.inl h2)))))) (fun g2 => (Or.elim g2 (fun h3 => (Or.inr (Or.inr (Or.inr (Or.inr (Or.inr (Or.inl h3))))))) (fun g3 => (Or.inr (Or.inr (Or.inr (Or.inr (Or.inr (Or.inr g3))))))))))))))))
    obtain rfl := Option.some.inj h
    exact z2
set_option maxRecDepth 20000 in
theorem ZX0_readFirst {a : Nat} {p0 : Nat} {p1 : Nat} {m : mB} {r : (Int32 × mB)} (h : FX0_readFirst a p0 p1 m = some r) : mx_out (WSX0_readFirst a p0 p1) m r.2 := by
  unfold FX0_readFirst at h
  have z0 : mx_out (WSX0_readFirst a p0 p1) m m := mx_out.rf
  obtain ⟨r1, h_r1, h⟩ := Option.bind_eq_some_iff.mp h
  have z1 : mx_out (WSX0_readFirst a p0 p1) m r1.2 := mx_out.tr z0 (mx_out.sub (ZX10_takePoint h_r1) (fun b j hb => (Or.elim hb (fun h0 => (Or.inr (Or.inl h0))) (fun g0 => (Or.elim g0 (fun h1 => (Or.inr (Or.inr (Or.inl h1)))) (fun g1 => (Or.elim g1 (fun h2 => (Or.inr (Or.inr (Or.inr (Or.inl h2))))) (fun g2 => (Or.elim g2 (fun h3 => (Or.inr (Or.inr (Or.inr (Or.inr (Or.inl h3)))))) (fun g3 => (Or.elim g3 (fun h4 => (Or.inr (Or.inr (Or.inr (Or.inr (Or.inr (Or.inl h4))))))) (fun g4 => (Or.elim g4 (fun h5 => (Or.inr (Or.inr (Or.inr (Or.inr (Or.inr (Or.inr (Or.inl h5)))))))) (fun g5 => (Or.inr (Or.inr (Or.inr (Or.inr (Or.inr (Or.inr (Or.inr g5)))))))))))))))))))))
  by_cases hc2z : r1.1 = (-1)
  · rw [if_pos hc2z] at h
    obtain rfl := Option.some.inj h
    exact z1
  · rw [if_neg hc2z] at h
    by_cases hc3z : (r1.2.1 a 4) < 0
    · rw [if_pos hc3z] at h
      obtain rfl := Option.some.inj h
      exact z1
    · rw [if_neg hc3z] at h
      by_cases hc4z : (r1.2.1 a 4) < 40
      · rw [if_pos hc4z] at h
        obtain ⟨-, h⟩ := mx_chkE h
        obtain ⟨m5, e_m5, h⟩ := mx_letE h
        have z2 : mx_out (WSX0_readFirst a p0 p1) m m5 := by first | exact mx_out_up z1 e_m5 (Or.inl rfl) | exact mx_out_ul z1 e_m5 (Or.inl rfl) | exact mx_out_cp z1 e_m5 (fun j => (Or.inl rfl)) | exact mx_out_cl z1 e_m5 (fun j => (Or.inl rfl))
        obtain rfl := Option.some.inj h
        exact z2
      · rw [if_neg hc4z] at h
        obtain rfl := Option.some.inj h
        exact z1
set_option maxRecDepth 20000 in
theorem ZX0_readTwo {a : Nat} {p0 : Nat} {p1 : Nat} {m : mB} {r : (Int32 × mB)} (h : FX0_readTwo a p0 p1 m = some r) : mx_out (WSX0_readTwo a p0 p1) m r.2 := by
  unfold FX0_readTwo at h
  have z0 : mx_out (WSX0_readTwo a p0 p1) m m := mx_out.rf
  obtain ⟨r1, h_r1, h⟩ := Option.bind_eq_some_iff.mp h
  have z1 : mx_out (WSX0_readTwo a p0 p1) m r1.2 := mx_out.tr z0 (mx_out.sub (ZX0_readFirst h_r1) (fun b j hb => (Or.elim hb (fun h0 => (Or.inl h0)) (fun g0 => (Or.elim g0 (fun h1 => (Or.inr (Or.inr (Or.inl h1)))) (fun g1 => (Or.elim g1 (fun h2 => (Or.inr (Or.inr (Or.inr (Or.inl h2))))) (fun g2 => (Or.elim g2 (fun h3 => (Or.inr (Or.inr (Or.inr (Or.inr (Or.inl h3)))))) (fun g3 => (Or.elim g3 (fun h4 => (Or.inr (Or.inr (Or.inr (Or.inr (Or.inr (Or.inl h4))))))) (fun g4 => (Or.elim g4 (fun h5 => (Or.inr (Or.inr (Or.inr (Or.inr (Or.inr (Or.inr (Or.inl h5)))))))) (fun g5 => (Or.elim g5 (fun h6 => (Or.inr (Or.inr (Or.inr (Or.inr (Or.inr (Or.inr (Or.inr (Or.inl h6))))))))) (fun g6 => (Or.inr (Or.inr (Or.inr (Or.inr (Or.inr (Or.inr (Or.inr (Or.inr g6))))))))))))))))))))))))
  by_cases hc2z : r1.1 = 0
  · rw [if_pos hc2z] at h
    obtain rfl := Option.some.inj h
    exact z1
  · rw [if_neg hc2z] at h
    obtain ⟨r3, h_r3, h⟩ := Option.bind_eq_some_iff.mp h
    have z2 : mx_out (WSX0_readTwo a p0 p1) m r3.2 := mx_out.tr z1 (mx_out.sub (ZX10_pointHere h_r3) (fun b j hb => (Or.elim hb (fun h0 => (Or.inr (Or.inr (Or.inl h0)))) (fun g0 => (Or.inr (Or.inr (Or.inr (Or.inl g0))))))))
    by_cases hc4z : r3.1 = (-1)
    · rw [if_pos hc4z] at h
      obtain rfl := Option.some.inj h
      exact z2
    · rw [if_neg hc4z] at h
      by_cases hc5z : (r3.2.1 a 4) < 0
      · rw [if_pos hc5z] at h
        obtain rfl := Option.some.inj h
        exact z2
      · rw [if_neg hc5z] at h
        by_cases hc6z : (r3.2.1 a 4) < 40
        · rw [if_pos hc6z] at h
          obtain ⟨-, h⟩ := mx_chkE h
          by_cases hc8z : r3.1 = (r3.2.1 (a + 2) (Int32.toNatClampNeg (r3.2.1 a 4)))
          · rw [if_pos hc8z] at h
            obtain ⟨r11, h_r11, h⟩ := Option.bind_eq_some_iff.mp h
            have z3 : mx_out (WSX0_readTwo a p0 p1) m r11.2 := mx_out.tr z2 (mx_out.sub (ZX10_fail h_r11) (fun b j hb => (Or.elim hb (fun h0 => (Or.inr (Or.inr (Or.inl h0)))) (fun g0 => (Or.inr (Or.inr (Or.inr (Or.inl g0))))))))
            obtain ⟨-, h⟩ := mx_chkE h
            obtain rfl := Option.some.inj h
            exact z3
          · rw [if_neg hc8z] at h
            obtain ⟨m9, e_m9, h⟩ := mx_letE h
            have z4 : mx_out (WSX0_readTwo a p0 p1) m m9 := by first | exact mx_out_up z2 e_m9 (Or.inr (Or.inl rfl)) | exact mx_out_ul z2 e_m9 (Or.inr (Or.inl rfl)) | exact mx_out_cp z2 e_m9 (fun j => (Or.inr (Or.inl rfl))) | exact mx_out_cl z2 e_m9 (fun j => (Or.inr (Or.inl rfl)))
            obtain ⟨r10, h_r10, h⟩ := Option.bind_eq_some_iff.mp h
            have z5 : mx_out (WSX0_readTwo a p0 p1) m r10 := mx_out.tr z4 (mx_out.sub (ZX10_advance h_r10) (fun b j hb => (Or.elim hb (fun h0 => (Or.inr (Or.inr (Or.inr (Or.inr (Or.inl h0)))))) (fun g0 => (Or.elim g0 (fun h1 => (Or.inr (Or.inr (Or.inr (Or.inr (Or.inr (Or.inl h1))))))) (fun g1 => (Or.elim g1 (fun h2 => (Or.inr (Or.inr (Or.inr (Or.inr (Or.inr (Or.inr (Or.inl h2)))))))) (fun g2 => (Or.elim g2 (fun h3 => (Or.inr (Or.inr (Or.inr (Or.inr (Or.inr (Or.inr (Or.inr (Or.inl h3))))))))) (fun g3 => (Or.inr (Or.inr (Or.inr (Or.inr (Or.inr (Or.inr (Or.inr (Or.inr g3))))))))))))))))))
            obtain rfl := Option.some.inj h
            exact z5
        · rw [if_neg hc6z] at h
          obtain rfl := Option.some.inj h
          exact z2
set_option maxRecDepth 20000 in
theorem ZX10_takeNumber {a : Nat} {x0 : Int32} {x1 : Int32} {m : mB} {r : (Int32 × mB)} (h : FX10_takeNumber a x0 x1 m = some r) : mx_out (WSX10_takeNumber a) m r.2 := by
  unfold FX10_takeNumber at h
  have z0 : mx_out (WSX10_takeNumber a) m m := mx_out.rf
  by_cases hc1z : (m.1 a 6) = 3
  · rw [if_pos hc1z] at h
    by_cases hc2z : (m.1 a 8) < x0
    · rw [if_pos hc2z] at h
      obtain ⟨r3, h_r3, h⟩ := Option.bind_eq_some_iff.mp h
      have z1 : mx_out (WSX10_takeNumber a) m r3.2 := mx_out.tr z0 (mx_out.sub (ZX10_fail h_r3) (fun b j hb => (Or.elim hb (fun h0 => (Or.inl h0)) (fun g0 => (Or.inr (Or.inl g0))))))
      obtain rfl := Option.some.inj h
      exact z1
    · rw [if_neg hc2z] at h
      by_cases hc4z : (m.1 a 8) ≤ x1
      · rw [if_pos hc4z] at h
        obtain ⟨v5, -, h⟩ := mx_letE h
        obtain ⟨r6, h_r6, h⟩ := Option.bind_eq_some_iff.mp h
        have z2 : mx_out (WSX10_takeNumber a) m r6 := mx_out.tr z0 (mx_out.sub (ZX10_advance h_r6) (fun b j hb => (Or.elim hb (fun h0 => (Or.inr (Or.inr (Or.inl h0)))) (fun g0 => (Or.elim g0 (fun h1 => (Or.inr (Or.inr (Or.inr (Or.inl h1))))) (fun g1 => (Or.elim g1 (fun h2 => (Or.inr (Or.inr (Or.inr (Or.inr (Or.inl h2)))))) (fun g2 => (Or.elim g2 (fun h3 => (Or.inr (Or.inr (Or.inr (Or.inr (Or.inr (Or.inl h3))))))) (fun g3 => (Or.inr (Or.inr (Or.inr (Or.inr (Or.inr (Or.inr g3))))))))))))))))
        obtain rfl := Option.some.inj h
        exact z2
      · rw [if_neg hc4z] at h
        obtain ⟨r7, h_r7, h⟩ := Option.bind_eq_some_iff.mp h
        have z3 : mx_out (WSX10_takeNumber a) m r7.2 := mx_out.tr z0 (mx_out.sub (ZX10_fail h_r7) (fun b j hb => (Or.elim hb (fun h0 => (Or.inl h0)) (fun g0 => (Or.inr (Or.inl g0))))))
        obtain rfl := Option.some.inj h
        exact z3
  · rw [if_neg hc1z] at h
    obtain ⟨r8, h_r8, h⟩ := Option.bind_eq_some_iff.mp h
    have z4 : mx_out (WSX10_takeNumber a) m r8.2 := mx_out.tr z0 (mx_out.sub (ZX10_fail h_r8) (fun b j hb => (Or.elim hb (fun h0 => (Or.inl h0)) (fun g0 => (Or.inr (Or.inl g0))))))
    obtain rfl := Option.some.inj h
    exact z4
set_option maxRecDepth 20000 in
theorem ZX0_readThird {a : Nat} {p0 : Nat} {x1 : Int32} {x2 : Int32} {m : mB} {r : (Int32 × mB)} (h : FX0_readThird a p0 x1 x2 m = some r) : mx_out (WSX0_readThird a p0) m r.2 := by
  unfold FX0_readThird at h
  have z0 : mx_out (WSX0_readThird a p0) m m := mx_out.rf
  obtain ⟨r1, h_r1, h⟩ := Option.bind_eq_some_iff.mp h
  have z1 : mx_out (WSX0_readThird a p0) m r1.2 := mx_out.tr z0 (mx_out.sub (ZX10_takeNumber h_r1) (fun b j hb => (Or.elim hb (fun h0 => (Or.inr (Or.inl h0))) (fun g0 => (Or.elim g0 (fun h1 => (Or.inr (Or.inr (Or.inl h1)))) (fun g1 => (Or.elim g1 (fun h2 => (Or.inr (Or.inr (Or.inr (Or.inl h2))))) (fun g2 => (Or.elim g2 (fun h3 => (Or.inr (Or.inr (Or.inr (Or.inr (Or.inl h3)))))) (fun g3 => (Or.elim g3 (fun h4 => (Or.inr (Or.inr (Or.inr (Or.inr (Or.inr (Or.inl h4))))))) (fun g4 => (Or.elim g4 (fun h5 => (Or.inr (Or.inr (Or.inr (Or.inr (Or.inr (Or.inr (Or.inl h5)))))))) (fun g5 => (Or.inr (Or.inr (Or.inr (Or.inr (Or.inr (Or.inr (Or.inr g5)))))))))))))))))))))
  by_cases hc2z : r1.1 = (-1)
  · rw [if_pos hc2z] at h
    obtain rfl := Option.some.inj h
    exact z1
  · rw [if_neg hc2z] at h
    by_cases hc3z : (r1.2.1 a 4) < 0
    · rw [if_pos hc3z] at h
      obtain rfl := Option.some.inj h
      exact z1
    · rw [if_neg hc3z] at h
      by_cases hc4z : (r1.2.1 a 4) < 40
      · rw [if_pos hc4z] at h
        obtain ⟨-, h⟩ := mx_chkE h
        obtain ⟨m5, e_m5, h⟩ := mx_letE h
        have z2 : mx_out (WSX0_readThird a p0) m m5 := by first | exact mx_out_up z1 e_m5 (Or.inl rfl) | exact mx_out_ul z1 e_m5 (Or.inl rfl) | exact mx_out_cp z1 e_m5 (fun j => (Or.inl rfl)) | exact mx_out_cl z1 e_m5 (fun j => (Or.inl rfl))
        obtain rfl := Option.some.inj h
        exact z2
      · rw [if_neg hc4z] at h
        obtain rfl := Option.some.inj h
        exact z1
set_option maxRecDepth 20000 in
theorem ZX0_readNumber {a : Nat} {p0 : Nat} {m : mB} {r : (Int32 × mB)} (h : FX0_readNumber a p0 m = some r) : mx_out (WSX0_readNumber a p0) m r.2 := by
  unfold FX0_readNumber at h
  have z0 : mx_out (WSX0_readNumber a p0) m m := mx_out.rf
  obtain ⟨r1, h_r1, h⟩ := Option.bind_eq_some_iff.mp h
  have z1 : mx_out (WSX0_readNumber a p0) m r1.2 := mx_out.tr z0 (mx_out.sub (ZX10_takeNumber h_r1) (fun b j hb => (Or.elim hb (fun h0 => (Or.inr (Or.inl h0))) (fun g0 => (Or.elim g0 (fun h1 => (Or.inr (Or.inr (Or.inl h1)))) (fun g1 => (Or.elim g1 (fun h2 => (Or.inr (Or.inr (Or.inr (Or.inl h2))))) (fun g2 => (Or.elim g2 (fun h3 => (Or.inr (Or.inr (Or.inr (Or.inr (Or.inl h3)))))) (fun g3 => (Or.elim g3 (fun h4 => (Or.inr (Or.inr (Or.inr (Or.inr (Or.inr (Or.inl h4))))))) (fun g4 => (Or.elim g4 (fun h5 => (Or.inr (Or.inr (Or.inr (Or.inr (Or.inr (Or.inr (Or.inl h5)))))))) (fun g5 => (Or.inr (Or.inr (Or.inr (Or.inr (Or.inr (Or.inr (Or.inr g5)))))))))))))))))))))
  by_cases hc2z : r1.1 = (-1)
  · rw [if_pos hc2z] at h
    obtain rfl := Option.some.inj h
    exact z1
  · rw [if_neg hc2z] at h
    by_cases hc3z : (r1.2.1 a 4) < 0
    · rw [if_pos hc3z] at h
      obtain rfl := Option.some.inj h
      exact z1
    · rw [if_neg hc3z] at h
      by_cases hc4z : (r1.2.1 a 4) < 40
      · rw [if_pos hc4z] at h
        obtain ⟨-, h⟩ := mx_chkE h
        obtain ⟨m5, e_m5, h⟩ := mx_letE h
        have z2 : mx_out (WSX0_readNumber a p0) m m5 := by first | exact mx_out_up z1 e_m5 (Or.inl rfl) | exact mx_out_ul z1 e_m5 (Or.inl rfl) | exact mx_out_cp z1 e_m5 (fun j => (Or.inl rfl)) | exact mx_out_cl z1 e_m5 (fun j => (Or.inl rfl))
        obtain rfl := Option.some.inj h
        exact z2
      · rw [if_neg hc4z] at h
        obtain rfl := Option.some.inj h
        exact z1
set_option maxRecDepth 20000 in
theorem ZX0_readLine {a : Nat} {p0 : Nat} {p1 : Nat} {m : mB} {r : (Int32 × mB)} (h : FX0_readLine a p0 p1 m = some r) : mx_out (WSX0_readLine a p0 p1) m r.2 := by
  unfold FX0_readLine at h
  have z0 : mx_out (WSX0_readLine a p0 p1) m m := mx_out.rf
  obtain ⟨r1, h_r1, h⟩ := Option.bind_eq_some_iff.mp h
  obtain ⟨r2, h_r2, h⟩ := Option.bind_eq_some_iff.mp h
  by_cases hc3z : r2 = 0
  · rw [if_pos hc3z] at h
    obtain ⟨r38, h_r38, h⟩ := Option.bind_eq_some_iff.mp h
    have z1 : mx_out (WSX0_readLine a p0 p1) m r38.2 := mx_out.tr z0 (mx_out.sub (ZX10_fail h_r38) (fun b j hb => (Or.elim hb (fun h0 => (Or.inr (Or.inr (Or.inr (Or.inr (Or.inl h0)))))) (fun g0 => (Or.inr (Or.inr (Or.inr (Or.inr (Or.inr (Or.inl g0))))))))))
    obtain ⟨-, h⟩ := mx_chkE h
    obtain rfl := Option.some.inj h
    exact z1
  · rw [if_neg hc3z] at h
    by_cases hc4z : (m.1 a 4) < 0
    · rw [if_pos hc4z] at h
      obtain ⟨r5, h_r5, h⟩ := Option.bind_eq_some_iff.mp h
      have z2 : mx_out (WSX0_readLine a p0 p1) m r5.2 := mx_out.tr z0 (mx_out.sub (ZX10_fail h_r5) (fun b j hb => (Or.elim hb (fun h0 => (Or.inr (Or.inr (Or.inr (Or.inr (Or.inl h0)))))) (fun g0 => (Or.inr (Or.inr (Or.inr (Or.inr (Or.inr (Or.inl g0))))))))))
      obtain ⟨-, h⟩ := mx_chkE h
      obtain rfl := Option.some.inj h
      exact z2
    · rw [if_neg hc4z] at h
      by_cases hc7z : (m.1 a 4) < 40
      · rw [if_pos hc7z] at h
        obtain ⟨-, h⟩ := mx_chkE h
        obtain ⟨m8, e_m8, h⟩ := mx_letE h
        have z3 : mx_out (WSX0_readLine a p0 p1) m m8 := by first | exact mx_out_up z0 e_m8 (Or.inl rfl) | exact mx_out_ul z0 e_m8 (Or.inl rfl) | exact mx_out_cp z0 e_m8 (fun j => (Or.inl rfl)) | exact mx_out_cl z0 e_m8 (fun j => (Or.inl rfl))
        obtain ⟨r10, h_r10, h⟩ := Option.bind_eq_some_iff.mp h
        have z4 : mx_out (WSX0_readLine a p0 p1) m r10 := mx_out.tr z3 (mx_out.sub (ZX10_advance h_r10) (fun b j hb => (Or.elim hb (fun h0 => (Or.inr (Or.inr (Or.inr (Or.inr (Or.inr (Or.inr (Or.inl h0)))))))) (fun g0 => (Or.elim g0 (fun h1 => (Or.inr (Or.inr (Or.inr (Or.inr (Or.inr (Or.inr (Or.inr (Or.inl h1))))))))) (fun g1 => (Or.elim g1 (fun h2 => (Or.inr (Or.inr (Or.inr (Or.inr (Or.inr (Or.inr (Or.inr (Or.inr (Or.inl h2)))))))))) (fun g2 => (Or.elim g2 (fun h3 => (Or.inr (Or.inr (Or.inr (Or.inr (Or.inr (Or.inr (Or.inr (Or.inr (Or.inr (Or.inl h3))))))))))) (fun g3 => (Or.inr (Or.inr (Or.inr (Or.inr (Or.inr (Or.inr (Or.inr (Or.inr (Or.inr (Or.inr g3))))))))))))))))))))
        by_cases hc11 : r1 = 102
        · rw [if_pos hc11] at h
          obtain ⟨r12, h_r12, h⟩ := Option.bind_eq_some_iff.mp h
          have z5 : mx_out (WSX0_readLine a p0 p1) m r12.2 := mx_out.tr z4 (mx_out.sub (ZX0_readTwo h_r12) (fun b j hb => (Or.elim hb (fun h0 => (Or.inr (Or.inl h0))) (fun g0 => (Or.elim g0 (fun h1 => (Or.inr (Or.inr (Or.inl h1)))) (fun g1 => (Or.elim g1 (fun h2 => (Or.inr (Or.inr (Or.inr (Or.inr (Or.inl h2)))))) (fun g2 => (Or.elim g2 (fun h3 => (Or.inr (Or.inr (Or.inr (Or.inr (Or.inr (Or.inl h3))))))) (fun g3 => (Or.elim g3 (fun h4 => (Or.inr (Or.inr (Or.inr (Or.inr (Or.inr (Or.inr (Or.inl h4)))))))) (fun g4 => (Or.elim g4 (fun h5 => (Or.inr (Or.inr (Or.inr (Or.inr (Or.inr (Or.inr (Or.inr (Or.inl h5))))))))) (fun g5 => (Or.elim g5 (fun h6 => (Or.inr (Or.inr (Or.inr (Or.inr (Or.inr (Or.inr (Or.inr (Or.inr (Or.inl h6)))))))))) (fun g6 => (Or.elim g6 (fun h7 => (Or.inr (Or.inr (Or.inr (Or.inr (Or.inr (Or.inr (Or.inr (Or.inr (Or.inr (Or.inl h7))))))))))) (fun g7 => (Or.inr (Or.inr (Or.inr (Or.inr (Or.inr (Or.inr (Or.inr (Or.inr (Or.inr (Or.inr g7))))))))))))))))))))))))))))
          obtain ⟨-, h⟩ := mx_chkE h
          obtain rfl := Option.some.inj h
          exact z5
        · rw [if_neg hc11] at h
          by_cases hc14 : r1 = 103
          · rw [if_pos hc14] at h
            obtain ⟨r15, h_r15, h⟩ := Option.bind_eq_some_iff.mp h
            have z6 : mx_out (WSX0_readLine a p0 p1) m r15.2 := mx_out.tr z4 (mx_out.sub (ZX0_readFirst h_r15) (fun b j hb => (Or.elim hb (fun h0 => (Or.inr (Or.inl h0))) (fun g0 => (Or.elim g0 (fun h1 => (Or.inr (Or.inr (Or.inr (Or.inr (Or.inl h1)))))) (fun g1 => (Or.elim g1 (fun h2 => (Or.inr (Or.inr (Or.inr (Or.inr (Or.inr (Or.inl h2))))))) (fun g2 => (Or.elim g2 (fun h3 => (Or.inr (Or.inr (Or.inr (Or.inr (Or.inr (Or.inr (Or.inl h3)))))))) (fun g3 => (Or.elim g3 (fun h4 => (Or.inr (Or.inr (Or.inr (Or.inr (Or.inr (Or.inr (Or.inr (Or.inl h4))))))))) (fun g4 => (Or.elim g4 (fun h5 => (Or.inr (Or.inr (Or.inr (Or.inr (Or.inr (Or.inr (Or.inr (Or.inr (Or.inl h5)))))))))) (fun g5 => (Or.elim g5 (fun h6 => (Or.inr (Or.inr (Or.inr (Or.inr (Or.inr (Or.inr (Or.inr (Or.inr (Or.inr (Or.inl h6))))))))))) (fun g6 => (Or.inr (Or.inr (Or.inr (Or.inr (Or.inr (Or.inr (Or.inr (Or.inr (Or.inr (Or.inr g6))))))))))))))))))))))))))
            by_cases hc16z : r15.1 = 0
            · rw [if_pos hc16z] at h
              obtain rfl := Option.some.inj h
              exact z6
            · rw [if_neg hc16z] at h
              obtain ⟨r17, h_r17, h⟩ := Option.bind_eq_some_iff.mp h
              have z7 : mx_out (WSX0_readLine a p0 p1) m r17.2 := mx_out.tr z6 (mx_out.sub (ZX0_readThird h_r17) (fun b j hb => (Or.elim hb (fun h0 => (Or.inr (Or.inr (Or.inr (Or.inl h0))))) (fun g0 => (Or.elim g0 (fun h1 => (Or.inr (Or.inr (Or.inr (Or.inr (Or.inl h1)))))) (fun g1 => (Or.elim g1 (fun h2 => (Or.inr (Or.inr (Or.inr (Or.inr (Or.inr (Or.inl h2))))))) (fun g2 => (Or.elim g2 (fun h3 => (Or.inr (Or.inr (Or.inr (Or.inr (Or.inr (Or.inr (Or.inl h3)))))))) (fun g3 => (Or.elim g3 (fun h4 => (Or.inr (Or.inr (Or.inr (Or.inr (Or.inr (Or.inr (Or.inr (Or.inl h4))))))))) (fun g4 => (Or.elim g4 (fun h5 => (Or.inr (Or.inr (Or.inr (Or.inr (Or.inr (Or.inr (Or.inr (Or.inr (Or.inl h5)))))))))) (fun g5 => (Or.elim g5 (fun h6 => (Or.inr (Or.inr (Or.inr (Or.inr (Or.inr (Or.inr (Or.inr (Or.inr (Or.inr (Or.inl h6))))))))))) (fun g6 => (Or.inr (Or.inr (Or.inr (Or.inr (Or.inr (Or.inr (Or.inr (Or.inr (Or.inr (Or.inr g6))))))))))))))))))))))))))
              by_cases hc18z : r17.1 = 0
              · rw [if_pos hc18z] at h
                obtain rfl := Option.some.inj h
                exact z7
              · rw [if_neg hc18z] at h
                obtain rfl := Option.some.inj h
                exact z7
          · rw [if_neg hc14] at h
            by_cases hc19 : r1 = 106
            · rw [if_pos hc19] at h
              obtain ⟨r20, h_r20, h⟩ := Option.bind_eq_some_iff.mp h
              have z8 : mx_out (WSX0_readLine a p0 p1) m r20.2 := mx_out.tr z4 (mx_out.sub (ZX0_readTwo h_r20) (fun b j hb => (Or.elim hb (fun h0 => (Or.inr (Or.inl h0))) (fun g0 => (Or.elim g0 (fun h1 => (Or.inr (Or.inr (Or.inl h1)))) (fun g1 => (Or.elim g1 (fun h2 => (Or.inr (Or.inr (Or.inr (Or.inr (Or.inl h2)))))) (fun g2 => (Or.elim g2 (fun h3 => (Or.inr (Or.inr (Or.inr (Or.inr (Or.inr (Or.inl h3))))))) (fun g3 => (Or.elim g3 (fun h4 => (Or.inr (Or.inr (Or.inr (Or.inr (Or.inr (Or.inr (Or.inl h4)))))))) (fun g4 => (Or.elim g4 (fun h5 => (Or.inr (Or.inr (Or.inr (Or.inr (Or.inr (Or.inr (Or.inr (Or.inl h5))))))))) (fun g5 => (Or.elim g5 (fun h6 => (Or.inr (Or.inr (Or.inr (Or.inr (Or.inr (Or.inr (Or.inr (Or.inr (Or.inl h6)))))))))) (fun g6 => (Or.elim g6 (fun h7 => (Or.inr (Or.inr (Or.inr (Or.inr (Or.inr (Or.inr (Or.inr (Or.inr (Or.inr (Or.inl h7))))))))))) (fun g7 => (Or.inr (Or.inr (Or.inr (Or.inr (Or.inr (Or.inr (Or.inr (Or.inr (Or.inr (Or.inr g7))))))))))))))))))))))))))))
              by_cases hc21z : r20.1 = 0
              · rw [if_pos hc21z] at h
                obtain rfl := Option.some.inj h
                exact z8
              · rw [if_neg hc21z] at h
                obtain ⟨r22, h_r22, h⟩ := Option.bind_eq_some_iff.mp h
                have z9 : mx_out (WSX0_readLine a p0 p1) m r22.2 := mx_out.tr z8 (mx_out.sub (ZX0_readThird h_r22) (fun b j hb => (Or.elim hb (fun h0 => (Or.inr (Or.inr (Or.inr (Or.inl h0))))) (fun g0 => (Or.elim g0 (fun h1 => (Or.inr (Or.inr (Or.inr (Or.inr (Or.inl h1)))))) (fun g1 => (Or.elim g1 (fun h2 => (Or.inr (Or.inr (Or.inr (Or.inr (Or.inr (Or.inl h2))))))) (fun g2 => (Or.elim g2 (fun h3 => (Or.inr (Or.inr (Or.inr (Or.inr (Or.inr (Or.inr (Or.inl h3)))))))) (fun g3 => (Or.elim g3 (fun h4 => (Or.inr (Or.inr (Or.inr (Or.inr (Or.inr (Or.inr (Or.inr (Or.inl h4))))))))) (fun g4 => (Or.elim g4 (fun h5 => (Or.inr (Or.inr (Or.inr (Or.inr (Or.inr (Or.inr (Or.inr (Or.inr (Or.inl h5)))))))))) (fun g5 => (Or.elim g5 (fun h6 => (Or.inr (Or.inr (Or.inr (Or.inr (Or.inr (Or.inr (Or.inr (Or.inr (Or.inr (Or.inl h6))))))))))) (fun g6 => (Or.inr (Or.inr (Or.inr (Or.inr (Or.inr (Or.inr (Or.inr (Or.inr (Or.inr (Or.inr g6))))))))))))))))))))))))))
                by_cases hc23z : r22.1 = 0
                · rw [if_pos hc23z] at h
                  obtain rfl := Option.some.inj h
                  exact z9
                · rw [if_neg hc23z] at h
                  obtain rfl := Option.some.inj h
                  exact z9
            · rw [if_neg hc19] at h
              by_cases hc24 : r1 = 107
              · rw [if_pos hc24] at h
                obtain ⟨r25, h_r25, h⟩ := Option.bind_eq_some_iff.mp h
                have z10 : mx_out (WSX0_readLine a p0 p1) m r25.2 := mx_out.tr z4 (mx_out.sub (ZX0_readNumber h_r25) (fun b j hb => (Or.elim hb (fun h0 => (Or.inr (Or.inl h0))) (fun g0 => (Or.elim g0 (fun h1 => (Or.inr (Or.inr (Or.inr (Or.inr (Or.inl h1)))))) (fun g1 => (Or.elim g1 (fun h2 => (Or.inr (Or.inr (Or.inr (Or.inr (Or.inr (Or.inl h2))))))) (fun g2 => (Or.elim g2 (fun h3 => (Or.inr (Or.inr (Or.inr (Or.inr (Or.inr (Or.inr (Or.inl h3)))))))) (fun g3 => (Or.elim g3 (fun h4 => (Or.inr (Or.inr (Or.inr (Or.inr (Or.inr (Or.inr (Or.inr (Or.inl h4))))))))) (fun g4 => (Or.elim g4 (fun h5 => (Or.inr (Or.inr (Or.inr (Or.inr (Or.inr (Or.inr (Or.inr (Or.inr (Or.inl h5)))))))))) (fun g5 => (Or.elim g5 (fun h6 => (Or.inr (Or.inr (Or.inr (Or.inr (Or.inr (Or.inr (Or.inr (Or.inr (Or.inr (Or.inl h6))))))))))) (fun g6 => (Or.inr (Or.inr (Or.inr (Or.inr (Or.inr (Or.inr (Or.inr (Or.inr (Or.inr (Or.inr g6))))))))))))))))))))))))))
                by_cases hc26z : r25.1 = 0
                · rw [if_pos hc26z] at h
                  obtain rfl := Option.some.inj h
                  exact z10
                · rw [if_neg hc26z] at h
                  obtain ⟨r27, h_r27, h⟩ := Option.bind_eq_some_iff.mp h
                  have z11 : mx_out (WSX0_readLine a p0 p1) m r27.2 := mx_out.tr z10 (mx_out.sub (ZX0_readThird h_r27) (fun b j hb => (Or.elim hb (fun h0 => (Or.inr (Or.inr (Or.inr (Or.inl h0))))) (fun g0 => (Or.elim g0 (fun h1 => (Or.inr (Or.inr (Or.inr (Or.inr (Or.inl h1)))))) (fun g1 => (Or.elim g1 (fun h2 => (Or.inr (Or.inr (Or.inr (Or.inr (Or.inr (Or.inl h2))))))) (fun g2 => (Or.elim g2 (fun h3 => (Or.inr (Or.inr (Or.inr (Or.inr (Or.inr (Or.inr (Or.inl h3)))))))) (fun g3 => (Or.elim g3 (fun h4 => (Or.inr (Or.inr (Or.inr (Or.inr (Or.inr (Or.inr (Or.inr (Or.inl h4))))))))) (fun g4 => (Or.elim g4 (fun h5 => (Or.inr (Or.inr (Or.inr (Or.inr (Or.inr (Or.inr (Or.inr (Or.inr (Or.inl h5)))))))))) (fun g5 => (Or.elim g5 (fun h6 => (Or.inr (Or.inr (Or.inr (Or.inr (Or.inr (Or.inr (Or.inr (Or.inr (Or.inr (Or.inl h6))))))))))) (fun g6 => (Or.inr (Or.inr (Or.inr (Or.inr (Or.inr (Or.inr (Or.inr (Or.inr (Or.inr (Or.inr g6))))))))))))))))))))))))))
                  by_cases hc28z : r27.1 = 0
                  · rw [if_pos hc28z] at h
                    obtain rfl := Option.some.inj h
                    exact z11
                  · rw [if_neg hc28z] at h
                    obtain rfl := Option.some.inj h
                    exact z11
              · rw [if_neg hc24] at h
                by_cases hc29 : r1 = 108
                · rw [if_pos hc29] at h
                  obtain ⟨r30, h_r30, h⟩ := Option.bind_eq_some_iff.mp h
                  have z12 : mx_out (WSX0_readLine a p0 p1) m r30.2 := mx_out.tr z4 (mx_out.sub (ZX0_readNumber h_r30) (fun b j hb => (Or.elim hb (fun h0 => (Or.inr (Or.inl h0))) (fun g0 => (Or.elim g0 (fun h1 => (Or.inr (Or.inr (Or.inr (Or.inr (Or.inl h1)))))) (fun g1 => (Or.elim g1 (fun h2 => (Or.inr (Or.inr (Or.inr (Or.inr (Or.inr (Or.inl h2))))))) (fun g2 => (Or.elim g2 (fun h3 => (Or.inr (Or.inr (Or.inr (Or.inr (Or.inr (Or.inr (Or.inl h3)))))))) (fun g3 => (Or.elim g3 (fun h4 => (Or.inr (Or.inr (Or.inr (Or.inr (Or.inr (Or.inr (Or.inr (Or.inl h4))))))))) (fun g4 => (Or.elim g4 (fun h5 => (Or.inr (Or.inr (Or.inr (Or.inr (Or.inr (Or.inr (Or.inr (Or.inr (Or.inl h5)))))))))) (fun g5 => (Or.elim g5 (fun h6 => (Or.inr (Or.inr (Or.inr (Or.inr (Or.inr (Or.inr (Or.inr (Or.inr (Or.inr (Or.inl h6))))))))))) (fun g6 => (Or.inr (Or.inr (Or.inr (Or.inr (Or.inr (Or.inr (Or.inr (Or.inr (Or.inr (Or.inr g6))))))))))))))))))))))))))
                  obtain ⟨-, h⟩ := mx_chkE h
                  obtain rfl := Option.some.inj h
                  exact z12
                · rw [if_neg hc29] at h
                  obtain ⟨r32, h_r32, h⟩ := Option.bind_eq_some_iff.mp h
                  have z13 : mx_out (WSX0_readLine a p0 p1) m r32.2 := mx_out.tr z4 (mx_out.sub (ZX0_readFirst h_r32) (fun b j hb => (Or.elim hb (fun h0 => (Or.inr (Or.inl h0))) (fun g0 => (Or.elim g0 (fun h1 => (Or.inr (Or.inr (Or.inr (Or.inr (Or.inl h1)))))) (fun g1 => (Or.elim g1 (fun h2 => (Or.inr (Or.inr (Or.inr (Or.inr (Or.inr (Or.inl h2))))))) (fun g2 => (Or.elim g2 (fun h3 => (Or.inr (Or.inr (Or.inr (Or.inr (Or.inr (Or.inr (Or.inl h3)))))))) (fun g3 => (Or.elim g3 (fun h4 => (Or.inr (Or.inr (Or.inr (Or.inr (Or.inr (Or.inr (Or.inr (Or.inl h4))))))))) (fun g4 => (Or.elim g4 (fun h5 => (Or.inr (Or.inr (Or.inr (Or.inr (Or.inr (Or.inr (Or.inr (Or.inr (Or.inl h5)))))))))) (fun g5 => (Or.elim g5 (fun h6 => (Or.inr (Or.inr (Or.inr (Or.inr (Or.inr (Or.inr (Or.inr (Or.inr (Or.inr (Or.inl h6))))))))))) (fun g6 => (Or.inr (Or.inr (Or.inr (Or.inr (Or.inr (Or.inr (Or.inr (Or.inr (Or.inr (Or.inr g6))))))))))))))))))))))))))
                  obtain ⟨-, h⟩ := mx_chkE h
                  obtain rfl := Option.some.inj h
                  exact z13
      · rw [if_neg hc7z] at h
        obtain ⟨r36, h_r36, h⟩ := Option.bind_eq_some_iff.mp h
        have z14 : mx_out (WSX0_readLine a p0 p1) m r36.2 := mx_out.tr z0 (mx_out.sub (ZX10_fail h_r36) (fun b j hb => (Or.elim hb (fun h0 => (Or.inr (Or.inr (Or.inr (Or.inr (Or.inl h0)))))) (fun g0 => (Or.inr (Or.inr (Or.inr (Or.inr (Or.inr (Or.inl g0))))))))))
        obtain ⟨-, h⟩ := mx_chkE h
        obtain rfl := Option.some.inj h
        exact z14
set_option maxRecDepth 20000 in
theorem ZX10_take {a : Nat} {x0 : Int32} {m : mB} {r : (Int32 × mB)} (h : FX10_take a x0 m = some r) : mx_out (WSX10_take a) m r.2 := by
  unfold FX10_take at h
  have z0 : mx_out (WSX10_take a) m m := mx_out.rf
  by_cases hc1z : (m.1 a 6) = x0
  · rw [if_pos hc1z] at h
    obtain ⟨r2, h_r2, h⟩ := Option.bind_eq_some_iff.mp h
    have z1 : mx_out (WSX10_take a) m r2 := mx_out.tr z0 (mx_out.sub (ZX10_advance h_r2) (fun b j hb => (Or.elim hb (fun h0 => (Or.inr (Or.inr (Or.inl h0)))) (fun g0 => (Or.elim g0 (fun h1 => (Or.inr (Or.inr (Or.inr (Or.inl h1))))) (fun g1 => (Or.elim g1 (fun h2 => (Or.inr (Or.inr (Or.inr (Or.inr (Or.inl h2)))))) (fun g2 => (Or.elim g2 (fun h3 => (Or.inr (Or.inr (Or.inr (Or.inr (Or.inr (Or.inl h3))))))) (fun g3 => (Or.inr (Or.inr (Or.inr (Or.inr (Or.inr (Or.inr g3))))))))))))))))
    obtain rfl := Option.some.inj h
    exact z1
  · rw [if_neg hc1z] at h
    obtain ⟨r3, h_r3, h⟩ := Option.bind_eq_some_iff.mp h
    have z2 : mx_out (WSX10_take a) m r3.2 := mx_out.tr z0 (mx_out.sub (ZX10_fail h_r3) (fun b j hb => (Or.elim hb (fun h0 => (Or.inl h0)) (fun g0 => (Or.inr (Or.inl g0))))))
    obtain ⟨-, h⟩ := mx_chkE h
    obtain rfl := Option.some.inj h
    exact z2
set_option maxRecDepth 20000 in
theorem ZX10_endsHere {a : Nat} {m : mB} {r : (Int32 × mB)} (h : FX10_endsHere a m = some r) : mx_out (WSX10_endsHere a) m r.2 := by
  unfold FX10_endsHere at h
  have z0 : mx_out (WSX10_endsHere a) m m := mx_out.rf
  refine mx_letK (J := fun k2 => k2 = some r → mx_out (WSX10_endsHere a) m r.2) h ?_ (fun k2 z_k2 h => ?_)
  · intro h
    obtain ⟨r3, h_r3, h⟩ := Option.bind_eq_some_iff.mp h
    have z2 : mx_out (WSX10_endsHere a) m r3.2 := mx_out.tr z0 (mx_out.sub (ZX10_fail h_r3) (fun b j hb => (Or.elim hb (fun h0 => (Or.inl h0)) (fun g0 => (Or.inr g0)))))
    by_cases hc4z : r3.1 = 0
    · rw [if_pos hc4z] at h
      obtain rfl := Option.some.inj h
      exact z2
    · rw [if_neg hc4z] at h
      obtain rfl := Option.some.inj h
      exact z2
  by_cases hc1z : (m.1 a 6) = 0
  · rw [if_pos hc1z] at h
    by_cases hc5z : (m.1 a 5) = 0
    · rw [if_pos hc5z] at h
      obtain rfl := Option.some.inj h
      exact z0
    · rw [if_neg hc5z] at h
      exact z_k2 h
  · rw [if_neg hc1z] at h
    exact z_k2 h
set_option maxRecDepth 20000 in
theorem ZX0_read_L14 {q0 : Nat} {q1 : Nat} {q2 : Nat} : ∀ (f : Nat) {y3 : Int32} {m : mB} {q : ((Int32 × mB) ⊕ (mB))}, FX0_read_L14 q0 q1 q2 f y3 m = some q → mx_out (WSX0_read_L14 q0 q1 q2) m (Sum.elim (fun rr => rr.2) (fun u => u) q) := by
  intro f
  induction f with
  | zero => intro _ _ _ h; cases h
  | succ f ih =>
    intro y3 m q h
    rw [FX0_read_L14] at h
    have z0 : mx_out (WSX0_read_L14 q0 q1 q2) m m := mx_out.rf
    by_cases hc3z : 40 < y3
    · rw [if_pos hc3z] at h
      obtain rfl := Option.some.inj h
      exact z0
    · rw [if_neg hc3z] at h
      obtain ⟨r4, h_r4, h⟩ := Option.bind_eq_some_iff.mp h
      by_cases hc5z : r4 = 0
      · rw [if_pos hc5z] at h
        obtain rfl := Option.some.inj h
        exact z0
      · rw [if_neg hc5z] at h
        obtain ⟨r6, h_r6, h⟩ := Option.bind_eq_some_iff.mp h
        have z1 : mx_out (WSX0_read_L14 q0 q1 q2) m r6.2 := mx_out.tr z0 (mx_out.sub (ZX0_readLine h_r6) (fun b j hb => (Or.elim hb (fun h0 => (Or.inr (Or.inl h0))) (fun g0 => (Or.elim g0 (fun h1 => (Or.inr (Or.inr (Or.inl h1)))) (fun g1 => (Or.elim g1 (fun h2 => (Or.inr (Or.inr (Or.inr (Or.inl h2))))) (fun g2 => (Or.elim g2 (fun h3 => (Or.inr (Or.inr (Or.inr (Or.inr (Or.inl h3)))))) (fun g3 => (Or.elim g3 (fun h4 => (Or.inr (Or.inr (Or.inr (Or.inr (Or.inr (Or.inl h4))))))) (fun g4 => (Or.elim g4 (fun h5 => (Or.inr (Or.inr (Or.inr (Or.inr (Or.inr (Or.inr (Or.inl h5)))))))) (fun g5 => (Or.elim g5 (fun h6 => (Or.inr (Or.inr (Or.inr (Or.inr (Or.inr (Or.inr (Or.inr (Or.inl h6))))))))) (fun g6 => (Or.elim g6 (fun h7 => (Or.inr (Or.inr (Or.inr (Or.inr (Or.inr (Or.inr (Or.inr (Or.inr (Or.inl h7)))))))))) (fun g7 => (Or.elim g7 (fun h8 => (Or.inr (Or.inr (Or.inr (Or.inr (Or.inr (Or.inr (Or.inr (Or.inr (Or.inr (Or.inl h8))))))))))) (fun g8 => (Or.elim g8 (fun h9 => (Or.inr (Or.inr (Or.inr (Or.inr (Or.inr (Or.inr (Or.inr (Or.inr (Or.inr (Or.inr (Or.inl h9)))))))))))) (fun g9 => (Or.inr (Or.inr (Or.inr (Or.inr (Or.inr (Or.inr (Or.inr (Or.inr (Or.inr (Or.inr (Or.inr g9)))))))))))))))))))))))))))))))))
        by_cases hc7z : r6.1 = 0
        · rw [if_pos hc7z] at h
          obtain rfl := Option.some.inj h
          exact z1
        · rw [if_neg hc7z] at h
          obtain ⟨r8, h_r8, h⟩ := Option.bind_eq_some_iff.mp h
          have z2 : mx_out (WSX0_read_L14 q0 q1 q2) m r8.2 := mx_out.tr z1 (mx_out.sub (ZX10_take h_r8) (fun b j hb => (Or.elim hb (fun h0 => (Or.inr (Or.inr (Or.inr (Or.inr (Or.inr (Or.inl h0))))))) (fun g0 => (Or.elim g0 (fun h1 => (Or.inr (Or.inr (Or.inr (Or.inr (Or.inr (Or.inr (Or.inl h1)))))))) (fun g1 => (Or.elim g1 (fun h2 => (Or.inr (Or.inr (Or.inr (Or.inr (Or.inr (Or.inr (Or.inr (Or.inl h2))))))))) (fun g2 => (Or.elim g2 (fun h3 => (Or.inr (Or.inr (Or.inr (Or.inr (Or.inr (Or.inr (Or.inr (Or.inr (Or.inl h3)))))))))) (fun g3 => (Or.elim g3 (fun h4 => (Or.inr (Or.inr (Or.inr (Or.inr (Or.inr (Or.inr (Or.inr (Or.inr (Or.inr (Or.inl h4))))))))))) (fun g4 => (Or.elim g4 (fun h5 => (Or.inr (Or.inr (Or.inr (Or.inr (Or.inr (Or.inr (Or.inr (Or.inr (Or.inr (Or.inr (Or.inl h5)))))))))))) (fun g5 => (Or.inr (Or.inr (Or.inr (Or.inr (Or.inr (Or.inr (Or.inr (Or.inr (Or.inr (Or.inr (Or.inr g5)))))))))))))))))))))))))
          by_cases hc9z : r8.1 = 0
          · rw [if_pos hc9z] at h
            obtain rfl := Option.some.inj h
            exact z2
          · rw [if_neg hc9z] at h
            obtain ⟨m10, e_m10, h⟩ := mx_letE h
            have z3 : mx_out (WSX0_read_L14 q0 q1 q2) m m10 := by first | exact mx_out_up z2 e_m10 (Or.inl ⟨rfl, rfl⟩) | exact mx_out_ul z2 e_m10 (Or.inl ⟨rfl, rfl⟩) | exact mx_out_cp z2 e_m10 (fun j => (Or.inl ⟨rfl, rfl⟩)) | exact mx_out_cl z2 e_m10 (fun j => (Or.inl ⟨rfl, rfl⟩))
            obtain ⟨v11, -, h⟩ := mx_letE h
            exact mx_out.tr z3 (ih h)
set_option maxRecDepth 20000 in
theorem ZX0_read {a : Nat} {p0 : Nat} {p1 : Nat} {m : mB} {r : (Int32 × mB)} (h : FX0_read a p0 p1 m = some r) : mx_out (WSX0_read a p0 p1) m r.2 := by
  unfold FX0_read at h
  have z0 : mx_out (WSX0_read a p0 p1) m m := mx_out.rf
  obtain ⟨m1, e_m1, h⟩ := mx_letE h
  have z4 : mx_out (WSX0_read a p0 p1) m m1 := by first | exact mx_out_up z0 e_m1 (Or.inl ⟨rfl, rfl⟩) | exact mx_out_ul z0 e_m1 (Or.inl ⟨rfl, rfl⟩) | exact mx_out_cp z0 e_m1 (fun j => (Or.inl ⟨rfl, rfl⟩)) | exact mx_out_cl z0 e_m1 (fun j => (Or.inl ⟨rfl, rfl⟩))
  obtain ⟨r2, h_r2, h⟩ := Option.bind_eq_some_iff.mp h
  have z5 : mx_out (WSX0_read a p0 p1) m r2 := mx_out.tr z4 (mx_out.sub (ZX10_begin h_r2) (fun b j hb => (Or.elim hb (fun h0 => (Or.inr (Or.inr (Or.inr (Or.inr (Or.inr (Or.inl h0))))))) (fun g0 => (Or.elim g0 (fun h1 => (Or.inr (Or.inr (Or.inr (Or.inr (Or.inr (Or.inr (Or.inl h1)))))))) (fun g1 => (Or.elim g1 (fun h2 => (Or.inr (Or.inr (Or.inr (Or.inr (Or.inr (Or.inr (Or.inr (Or.inl h2))))))))) (fun g2 => (Or.elim g2 (fun h3 => (Or.inr (Or.inr (Or.inr (Or.inr (Or.inr (Or.inr (Or.inr (Or.inr (Or.inl h3)))))))))) (fun g3 => (Or.elim g3 (fun h4 => (Or.inr (Or.inr (Or.inr (Or.inr (Or.inr (Or.inr (Or.inr (Or.inr (Or.inr (Or.inl h4))))))))))) (fun g4 => (Or.elim g4 (fun h5 => (Or.inr (Or.inr (Or.inr (Or.inr (Or.inr (Or.inr (Or.inr (Or.inr (Or.inr (Or.inr (Or.inl h5)))))))))))) (fun g5 => (Or.elim g5 (fun h6 => (Or.inr (Or.inr (Or.inr (Or.inr (Or.inr (Or.inr (Or.inr (Or.inr (Or.inr (Or.inr (Or.inr (Or.inl h6))))))))))))) (fun g6 => (Or.elim g6 (fun h7 => (Or.inr (Or.inr (Or.inr (Or.inr (Or.inr (Or.inr (Or.inr (Or.inr (Or.inr (Or.inr (Or.inr (Or.inr (Or.inl h7)))))))))))))) (fun g7 => (Or.inr (Or.inr (Or.inr (Or.inr (Or.inr (Or.inr (Or.inr (Or.inr (Or.inr (Or.inr (Or.inr (Or.inr (Or.inr g7)))))))))))))))))))))))))))))))
  obtain ⟨q12, h_q12, h⟩ := Option.bind_eq_some_iff.mp h
  have z6 := mx_out.tr z5 (mx_out.sub (S := (WSX0_read a p0 p1)) (ZX0_read_L14 mx_FU h_q12) (fun b j hb => (Or.elim hb (fun h0 => (Or.inl h0)) (fun g0 => (Or.elim g0 (fun h1 => (Or.inr (Or.inl h1))) (fun g1 => (Or.elim g1 (fun h2 => (Or.inr (Or.inr (Or.inl h2)))) (fun g2 => (Or.elim g2 (fun h3 => (Or.inr (Or.inr (Or.inr (Or.inl h3))))) (fun g3 => (Or.elim g3 (fun h4 => (Or.inr (Or.inr (Or.inr (Or.inr (Or.inl h4)))))) (fun g4 => (Or.elim g4 (fun h5 => (Or.inr (Or.inr (Or.inr (Or.inr (Or.inr (Or.inl h5))))))) (fun g5 => (Or.elim g5 (fun h6 => (Or.inr (Or.inr (Or.inr (Or.inr (Or.inr (Or.inr (Or.inl h6)))))))) (fun g6 => (Or.elim g6 (fun h7 => (Or.inr (Or.inr (Or.inr (Or.inr (Or.inr (Or.inr (Or.inr (Or.inr (Or.inl h7)))))))))) (fun g7 => (Or.elim g7 (fun h8 => (Or.inr (Or.inr (Or.inr (Or.inr (Or.inr (Or.inr (Or.inr (Or.inr (Or.inr (Or.inr (Or.inl h8)))))))))))) (fun g8 => (Or.elim g8 (fun h9 => (Or.inr (Or.inr (Or.inr (Or.inr (Or.inr (Or.inr (Or.inr (Or.inr (Or.inr (Or.inr (Or.inr (Or.inl h9))))))))))))) (fun g9 => (Or.elim g9 (fun h10 => (Or.inr (Or.inr (Or.inr (Or.inr (Or.inr (Or.inr (Or.inr (Or.inr (Or.inr (Or.inr (Or.inr (Or.inr (Or.inl h10)))))))))))))) (fun g10 => (Or.inr (Or.inr (Or.inr (Or.inr (Or.inr (Or.inr (Or.inr (Or.inr (Or.inr (Or.inr (Or.inr (Or.inr (Or.inr g10)))))))))))))))))))))))))))))))))))))
  rcases q12 with rr14 | u13
  · rw [Sum.elim_inl] at h
    obtain rfl := Option.some.inj h
    exact z6
  · rw [Sum.elim_inr] at h
    obtain ⟨r15, h_r15, h⟩ := Option.bind_eq_some_iff.mp h
    have z7 : mx_out (WSX0_read a p0 p1) m r15.2 := mx_out.tr z6 (mx_out.sub (ZX10_endsHere h_r15) (fun b j hb => (Or.elim hb (fun h0 => (Or.inr (Or.inr (Or.inr (Or.inr (Or.inr (Or.inl h0))))))) (fun g0 => (Or.inr (Or.inr (Or.inr (Or.inr (Or.inr (Or.inr (Or.inl g0)))))))))))
    obtain ⟨-, h⟩ := mx_chkE h
    obtain rfl := Option.some.inj h
    exact z7
set_option maxRecDepth 20000 in
theorem ZX9_goOn_L57 {rec : Nat → Nat → Int32 → Int32 → Int32 → mB → Option (Int32 × mB)} {q0 : Nat} {q1 : Nat} {y2 : Int32} {y3 : Int32} {y4 : Int32} {y6 : Int32} (zrec : ∀ {a : Nat} {p0 : Nat} {x1 : Int32} {x2 : Int32} {x3 : Int32} {m : mB} {r : (Int32 × mB)}, rec a p0 x1 x2 x3 m = some r → mx_out (WSX9_goOn a p0) m r.2) : ∀ (f : Nat) {y7 : Int32} {m : mB} {q : ((Int32 × mB) ⊕ (mB))}, FX9_goOn_L57 rec q0 q1 y2 y3 y4 y6 f y7 m = some q → mx_out (WSX9_goOn_L57 q0 q1) m (Sum.elim (fun rr => rr.2) (fun u => u) q) := by
  intro f
  induction f with
  | zero => intro _ _ _ h; cases h
  | succ f ih =>
    intro y7 m q h
    rw [FX9_goOn_L57] at h
    have z0 : mx_out (WSX9_goOn_L57 q0 q1) m m := mx_out.rf
    by_cases hc7z : 10 ≤ y7
    · rw [if_pos hc7z] at h
      obtain rfl := Option.some.inj h
      exact z0
    · rw [if_neg hc7z] at h
      by_cases hc8z : ((y6 >>> (y7 &&& 31)) &&& 1) = 0
      · rw [if_pos hc8z] at h
        obtain ⟨v27, -, h⟩ := mx_letE h
        exact mx_out.tr z0 (ih h)
      · rw [if_neg hc8z] at h
        obtain ⟨r9, h_r9, h⟩ := Option.bind_eq_some_iff.mp h
        refine mx_letK (J := fun k12 => ∀ {m11 : mB}, k12 m11 = some q → mx_out (WSX9_goOn_L57 q0 q1) m m11 → mx_out (WSX9_goOn_L57 q0 q1) m (Sum.elim (fun rr => rr.2) (fun u => u) q)) h ?_ (fun k12 z_k12 h => ?_)
        · intro m11 h z1
          dsimp only at h
          by_cases hc13z : y3 ≤ 0
          · rw [if_pos hc13z] at h
            obtain ⟨v14, -, h⟩ := mx_letE h
            exact mx_out.tr z1 (ih h)
          · rw [if_neg hc13z] at h
            by_cases hc15z : r9 = (-1)
            · rw [if_pos hc15z] at h
              obtain ⟨v16, -, h⟩ := mx_letE h
              exact mx_out.tr z1 (ih h)
            · rw [if_neg hc15z] at h
              by_cases hc17z : ((y2 >>> (r9 &&& 31)) &&& 1) = 0
              · rw [if_pos hc17z] at h
                obtain ⟨r19, h_r19, h⟩ := Option.bind_eq_some_iff.mp h
                have z2 : mx_out (WSX9_goOn_L57 q0 q1) m r19 := mx_out.tr z1 (mx_out.sub (ZX7_add h_r19) (fun b j hb => (Or.elim hb (fun h0 => (Or.inl h0)) (fun g0 => (Or.inr g0)))))
                obtain ⟨r20, h_r20, h⟩ := Option.bind_eq_some_iff.mp h
                have z3 : mx_out (WSX9_goOn_L57 q0 q1) m r20 := mx_out.tr z2 (mx_out.sub (ZX7_add h_r20) (fun b j hb => (Or.elim hb (fun h0 => (Or.inl h0)) (fun g0 => (Or.inr g0)))))
                obtain ⟨r21, h_r21, h⟩ := Option.bind_eq_some_iff.mp h
                have z4 : mx_out (WSX9_goOn_L57 q0 q1) m r21.2 := mx_out.tr z3 (mx_out.sub (zrec h_r21) (fun b j hb => (Or.elim hb (fun h0 => (Or.inl h0)) (fun g0 => (Or.inr g0)))))
                by_cases hc22z : r21.1 = 0
                · rw [if_pos hc22z] at h
                  obtain ⟨r23, h_r23, h⟩ := Option.bind_eq_some_iff.mp h
                  have z5 : mx_out (WSX9_goOn_L57 q0 q1) m r23 := mx_out.tr z4 (mx_out.sub (ZX7_dropTwo h_r23) (fun b j hb => (Or.inl hb)))
                  obtain ⟨v24, -, h⟩ := mx_letE h
                  exact mx_out.tr z5 (ih h)
                · rw [if_neg hc22z] at h
                  obtain rfl := Option.some.inj h
                  exact z4
              · rw [if_neg hc17z] at h
                obtain ⟨v18, -, h⟩ := mx_letE h
                exact mx_out.tr z1 (ih h)
        by_cases hc10z : 0 < y3
        · rw [if_pos hc10z] at h
          exact z_k12 h z0
        · rw [if_neg hc10z] at h
          by_cases hc25z : r9 = (-1)
          · rw [if_pos hc25z] at h
            obtain ⟨r26, h_r26, h⟩ := Option.bind_eq_some_iff.mp h
            have z6 : mx_out (WSX9_goOn_L57 q0 q1) m r26 := mx_out.tr z0 (mx_out.sub (ZX7_add h_r26) (fun b j hb => (Or.elim hb (fun h0 => (Or.inl h0)) (fun g0 => (Or.inr g0)))))
            obtain rfl := Option.some.inj h
            exact z6
          · rw [if_neg hc25z] at h
            exact z_k12 h z0
set_option maxRecDepth 20000 in
theorem ZX9_goOn_B {rec : Nat → Nat → Int32 → Int32 → Int32 → mB → Option (Int32 × mB)} {a : Nat} {p0 : Nat} {x1 : Int32} {x2 : Int32} {x3 : Int32} {m : mB} {r : (Int32 × mB)} (zrec : ∀ {a : Nat} {p0 : Nat} {x1 : Int32} {x2 : Int32} {x3 : Int32} {m : mB} {r : (Int32 × mB)}, rec a p0 x1 x2 x3 m = some r → mx_out (WSX9_goOn a p0) m r.2) (h : FX9_goOn_B rec a p0 x1 x2 x3 m = some r) : mx_out (WSX9_goOn a p0) m r.2 := by
  unfold FX9_goOn_B at h
  have z0 : mx_out (WSX9_goOn a p0) m m := mx_out.rf
  obtain ⟨r1, h_r1, h⟩ := Option.bind_eq_some_iff.mp h
  obtain ⟨r2, h_r2, h⟩ := Option.bind_eq_some_iff.mp h
  refine mx_letK (J := fun k4 => k4 = some r → mx_out (WSX9_goOn a p0) m r.2) h ?_ (fun k4 z_k4 h => ?_)
  · intro h
    obtain ⟨r5, h_r5, h⟩ := Option.bind_eq_some_iff.mp h
    obtain ⟨v6, -, h⟩ := mx_letE h
    obtain ⟨q28, h_q28, h⟩ := Option.bind_eq_some_iff.mp h
    have z8 := mx_out.tr z0 (mx_out.sub (S := (WSX9_goOn a p0)) (ZX9_goOn_L57 zrec mx_FU h_q28) (fun b j hb => (Or.elim hb (fun h0 => (Or.inl h0)) (fun g0 => (Or.inr g0)))))
    rcases q28 with rr30 | u29
    · rw [Sum.elim_inl] at h
      obtain rfl := Option.some.inj h
      exact z8
    · rw [Sum.elim_inr] at h
      obtain rfl := Option.some.inj h
      exact z8
  by_cases hc3z : 0 < x2
  · rw [if_pos hc3z] at h
    exact z_k4 h
  · rw [if_neg hc3z] at h
    by_cases hc31z : x3 = 0
    · rw [if_pos hc31z] at h
      exact z_k4 h
    · rw [if_neg hc31z] at h
      obtain ⟨r32, h_r32, h⟩ := Option.bind_eq_some_iff.mp h
      obtain ⟨r33, h_r33, h⟩ := Option.bind_eq_some_iff.mp h
      obtain ⟨-, h⟩ := mx_chkE h
      obtain rfl := Option.some.inj h
      exact z0
theorem ZX9_goOn : ∀ (D : Nat) {a : Nat} {p0 : Nat} {x1 : Int32} {x2 : Int32} {x3 : Int32} {m : mB} {r : (Int32 × mB)}, FX9_goOn D a p0 x1 x2 x3 m = some r → mx_out (WSX9_goOn a p0) m r.2 := by
  intro D
  induction D with
  | zero => intro _ _ _ _ _ _ _ h; cases h
  | succ D ih =>
    intro a p0 x1 x2 x3 m r h
    rw [FX9_goOn] at h
    exact ZX9_goOn_B (rec := FX9_goOn D) (fun {_ _ _ _ _} {_} {_} hz => ih hz) h
set_option maxRecDepth 20000 in
theorem ZX9_findRow_L3 {q0 : Nat} {q1 : Nat} {y2 : Int32} {y4 : Int32} : ∀ (f : Nat) {y5 : Int32} {m : mB} {q : ((Int32 × mB) ⊕ (mB))}, FX9_findRow_L3 q0 q1 y2 y4 f y5 m = some q → mx_out (WSX9_findRow_L3 q0 q1) m (Sum.elim (fun rr => rr.2) (fun u => u) q) := by
  intro f
  induction f with
  | zero => intro _ _ _ h; cases h
  | succ f ih =>
    intro y5 m q h
    rw [FX9_findRow_L3] at h
    have z0 : mx_out (WSX9_findRow_L3 q0 q1) m m := mx_out.rf
    by_cases hc1z : 5 ≤ y5
    · rw [if_pos hc1z] at h
      obtain rfl := Option.some.inj h
      exact z0
    · rw [if_neg hc1z] at h
      obtain ⟨r2, h_r2, h⟩ := Option.bind_eq_some_iff.mp h
      have z1 : mx_out (WSX9_findRow_L3 q0 q1) m r2 := mx_out.tr z0 (mx_out.sub (ZX7_clear h_r2) (fun b j hb => (Or.inl hb)))
      obtain ⟨r3, h_r3, h⟩ := Option.bind_eq_some_iff.mp h
      have z2 : mx_out (WSX9_findRow_L3 q0 q1) m r3 := mx_out.tr z1 (mx_out.sub (ZX7_add h_r3) (fun b j hb => (Or.elim hb (fun h0 => (Or.inl h0)) (fun g0 => (Or.inr g0)))))
      obtain ⟨r4, h_r4, h⟩ := Option.bind_eq_some_iff.mp h
      have z3 : mx_out (WSX9_findRow_L3 q0 q1) m r4.2 := mx_out.tr z2 (mx_out.sub (ZX9_goOn 64 h_r4) (fun b j hb => (Or.elim hb (fun h0 => (Or.inl h0)) (fun g0 => (Or.inr g0)))))
      by_cases hc5z : r4.1 = 0
      · rw [if_pos hc5z] at h
        obtain ⟨v6, -, h⟩ := mx_letE h
        exact mx_out.tr z3 (ih h)
      · rw [if_neg hc5z] at h
        obtain rfl := Option.some.inj h
        exact z3
set_option maxRecDepth 20000 in
theorem ZX9_findRow {a : Nat} {p0 : Nat} {x1 : Int32} {x2 : Int32} {x3 : Int32} {m : mB} {r : (Int32 × mB)} (h : FX9_findRow a p0 x1 x2 x3 m = some r) : mx_out (WSX9_findRow a p0) m r.2 := by
  unfold FX9_findRow at h
  have z0 : mx_out (WSX9_findRow a p0) m m := mx_out.rf
  obtain ⟨q7, h_q7, h⟩ := Option.bind_eq_some_iff.mp h
  have z4 := mx_out.tr z0 (mx_out.sub (S := (WSX9_findRow a p0)) (ZX9_findRow_L3 mx_FU h_q7) (fun b j hb => (Or.elim hb (fun h0 => (Or.inl h0)) (fun g0 => (Or.inr g0)))))
  rcases q7 with rr9 | u8
  · rw [Sum.elim_inl] at h
    obtain rfl := Option.some.inj h
    exact z4
  · rw [Sum.elim_inr] at h
    obtain rfl := Option.some.inj h
    exact z4
set_option maxRecDepth 20000 in
theorem ZX9_growFrom {a : Nat} {p0 : Nat} {x1 : Int32} {m : mB} {r : (Int32 × mB)} (h : FX9_growFrom a p0 x1 m = some r) : mx_out (WSX9_growFrom a p0) m r.2 := by
  unfold FX9_growFrom at h
  have z0 : mx_out (WSX9_growFrom a p0) m m := mx_out.rf
  obtain ⟨r1, h_r1, h⟩ := Option.bind_eq_some_iff.mp h
  by_cases hc2z : r1 = 0
  · rw [if_pos hc2z] at h
    obtain rfl := Option.some.inj h
    exact z0
  · rw [if_neg hc2z] at h
    obtain ⟨r3, h_r3, h⟩ := Option.bind_eq_some_iff.mp h
    have z1 : mx_out (WSX9_growFrom a p0) m r3.2 := mx_out.tr z0 (mx_out.sub (ZX9_findRow h_r3) (fun b j hb => (Or.elim hb (fun h0 => (Or.inl h0)) (fun g0 => (Or.inr (Or.inl g0))))))
    by_cases hc4z : r3.1 = 0
    · rw [if_pos hc4z] at h
      obtain rfl := Option.some.inj h
      exact z1
    · rw [if_neg hc4z] at h
      obtain ⟨r5, h_r5, h⟩ := Option.bind_eq_some_iff.mp h
      have z2 : mx_out (WSX9_growFrom a p0) m r5.2 := mx_out.tr z1 (mx_out.sub (ZX4_turnAlong h_r5) (fun b j hb => (Or.elim hb (fun h0 => (Or.inr (Or.inr (Or.inl h0)))) (fun g0 => (Or.inr (Or.inr (Or.inr g0)))))))
      obtain rfl := Option.some.inj h
      exact z2
set_option maxRecDepth 20000 in
theorem ZX0_live {a : Nat} {x0 : Int32} {p1 : Nat} {p2 : Nat} {m : mB} {r : (Int32 × mB)} (h : FX0_live a x0 p1 p2 m = some r) : mx_out (WSX0_live a p1 p2) m r.2 := by
  unfold FX0_live at h
  have z0 : mx_out (WSX0_live a p1 p2) m m := mx_out.rf
  by_cases hc1z : x0 < 0
  · rw [if_pos hc1z] at h
    obtain rfl := Option.some.inj h
    exact z0
  · rw [if_neg hc1z] at h
    by_cases hc2z : x0 < 40
    · rw [if_pos hc2z] at h
      obtain ⟨-, h⟩ := mx_chkE h
      obtain ⟨v4, -, h⟩ := mx_letE h
      by_cases hc5 : (m.1 (a + 1) (Int32.toNatClampNeg x0)) = 102
      · rw [if_pos hc5] at h
        obtain ⟨r6, h_r6, h⟩ := Option.bind_eq_some_iff.mp h
        have z1 : mx_out (WSX0_live a p1 p2) m r6.2 := mx_out.tr z0 (mx_out.sub (ZX4_pairUp h_r6) (fun b j hb => (Or.inr (Or.inr (Or.inr (Or.inl hb))))))
        obtain rfl := Option.some.inj h
        exact z1
      · rw [if_neg hc5] at h
        by_cases hc7 : (m.1 (a + 1) (Int32.toNatClampNeg x0)) = 103
        · rw [if_pos hc7] at h
          obtain ⟨r8, h_r8, h⟩ := Option.bind_eq_some_iff.mp h
          have z2 : mx_out (WSX0_live a p1 p2) m r8.2 := mx_out.tr z0 (mx_out.sub (ZX4_priceAt h_r8) (fun b j hb => (Or.inr (Or.inr (Or.inr (Or.inr (Or.inl hb)))))))
          obtain ⟨r9, h_r9, h⟩ := Option.bind_eq_some_iff.mp h
          obtain rfl := Option.some.inj h
          exact z2
        · rw [if_neg hc7] at h
          by_cases hc10 : (m.1 (a + 1) (Int32.toNatClampNeg x0)) = 105
          · rw [if_pos hc10] at h
            obtain ⟨r11, h_r11, h⟩ := Option.bind_eq_some_iff.mp h
            have z3 : mx_out (WSX0_live a p1 p2) m r11.2 := mx_out.tr z0 (mx_out.sub (ZX4_partFrom h_r11) (fun b j hb => (Or.inr (Or.inr (Or.inr (Or.inl hb))))))
            obtain ⟨r12, h_r12, h⟩ := Option.bind_eq_some_iff.mp h
            obtain rfl := Option.some.inj h
            exact z3
          · rw [if_neg hc10] at h
            by_cases hc13 : (m.1 (a + 1) (Int32.toNatClampNeg x0)) = 106
            · rw [if_pos hc13] at h
              obtain ⟨r14, h_r14, h⟩ := Option.bind_eq_some_iff.mp h
              have z4 : mx_out (WSX0_live a p1 p2) m r14.2 := mx_out.tr z0 (mx_out.sub (ZX4_weighAnew h_r14) (fun b j hb => (Or.inr (Or.inr (Or.inr (Or.inr (Or.inr (Or.inl hb))))))))
              obtain ⟨r15, h_r15, h⟩ := Option.bind_eq_some_iff.mp h
              obtain rfl := Option.some.inj h
              exact z4
            · rw [if_neg hc13] at h
              by_cases hc16 : (m.1 (a + 1) (Int32.toNatClampNeg x0)) = 107
              · rw [if_pos hc16] at h
                obtain ⟨r17, h_r17, h⟩ := Option.bind_eq_some_iff.mp h
                by_cases hc18z : r17 = 0
                · rw [if_pos hc18z] at h
                  obtain rfl := Option.some.inj h
                  exact z0
                · rw [if_neg hc18z] at h
                  obtain ⟨r19, h_r19, h⟩ := Option.bind_eq_some_iff.mp h
                  have z5 : mx_out (WSX0_live a p1 p2) m r19.2 := mx_out.tr z0 (mx_out.sub (ZX4_crownAt h_r19) (fun b j hb => (Or.inr (Or.inr (Or.inl hb)))))
                  obtain ⟨r20, h_r20, h⟩ := Option.bind_eq_some_iff.mp h
                  obtain rfl := Option.some.inj h
                  exact z5
              · rw [if_neg hc16] at h
                by_cases hc21 : (m.1 (a + 1) (Int32.toNatClampNeg x0)) = 108
                · rw [if_pos hc21] at h
                  obtain ⟨r22, h_r22, h⟩ := Option.bind_eq_some_iff.mp h
                  by_cases hc23z : r22 = 0
                  · rw [if_pos hc23z] at h
                    obtain rfl := Option.some.inj h
                    exact z0
                  · rw [if_neg hc23z] at h
                    obtain ⟨r24, h_r24, h⟩ := Option.bind_eq_some_iff.mp h
                    have z6 : mx_out (WSX0_live a p1 p2) m r24.2 := mx_out.tr z0 (mx_out.sub (ZX4_openSet h_r24) (fun b j hb => (Or.elim hb (fun h0 => (Or.inl h0)) (fun g0 => (Or.elim g0 (fun h1 => (Or.inr (Or.inr (Or.inl h1)))) (fun g1 => (Or.inr (Or.inr (Or.inr (Or.inr (Or.inr (Or.inr (Or.inl g1)))))))))))))
                    obtain ⟨r25, h_r25, h⟩ := Option.bind_eq_some_iff.mp h
                    obtain rfl := Option.some.inj h
                    exact z6
                · rw [if_neg hc21] at h
                  obtain ⟨r26, h_r26, h⟩ := Option.bind_eq_some_iff.mp h
                  have z7 : mx_out (WSX0_live a p1 p2) m r26.2 := mx_out.tr z0 (mx_out.sub (ZX9_growFrom h_r26) (fun b j hb => (Or.elim hb (fun h0 => (Or.inr (Or.inr (Or.inr (Or.inr (Or.inr (Or.inr (Or.inr (Or.inl h0))))))))) (fun g0 => (Or.elim g0 (fun h1 => (Or.inr (Or.inr (Or.inr (Or.inr (Or.inr (Or.inr (Or.inr (Or.inr h1))))))))) (fun g1 => (Or.elim g1 (fun h2 => (Or.inr (Or.inl h2))) (fun g2 => (Or.inr (Or.inr (Or.inr (Or.inl g2))))))))))))
                  obtain ⟨r27, h_r27, h⟩ := Option.bind_eq_some_iff.mp h
                  obtain rfl := Option.some.inj h
                  exact z7
    · rw [if_neg hc2z] at h
      obtain rfl := Option.some.inj h
      exact z0
set_option maxRecDepth 20000 in
theorem ZX0_judge_L17 {q0 : Nat} {q1 : Nat} {q2 : Nat} : ∀ (f : Nat) {y3 : Int32} {m : mB} {q : (mB)}, FX0_judge_L17 q0 q1 q2 f y3 m = some q → mx_out (WSX0_judge_L17 q0 q1 q2) m q := by
  intro f
  induction f with
  | zero => intro _ _ _ h; cases h
  | succ f ih =>
    intro y3 m q h
    rw [FX0_judge_L17] at h
    have z0 : mx_out (WSX0_judge_L17 q0 q1 q2) m m := mx_out.rf
    by_cases hc4z : (m.1 q0 4) ≤ y3
    · rw [if_pos hc4z] at h
      obtain rfl := Option.some.inj h
      exact z0
    · rw [if_neg hc4z] at h
      by_cases hc5z : (m.1 q0 6) = 0
      · rw [if_pos hc5z] at h
        obtain ⟨r6, h_r6, h⟩ := Option.bind_eq_some_iff.mp h
        have z1 : mx_out (WSX0_judge_L17 q0 q1 q2) m r6.2 := mx_out.tr z0 (mx_out.sub (ZX0_live h_r6) (fun b j hb => (Or.elim hb (fun h0 => (Or.inr (Or.inr (Or.inl h0)))) (fun g0 => (Or.elim g0 (fun h1 => (Or.inr (Or.inr (Or.inr (Or.inl h1))))) (fun g1 => (Or.elim g1 (fun h2 => (Or.inr (Or.inr (Or.inr (Or.inr (Or.inl h2)))))) (fun g2 => (Or.elim g2 (fun h3 => (Or.inr (Or.inr (Or.inr (Or.inr (Or.inr (Or.inl h3))))))) (fun g3 => (Or.elim g3 (fun h4 => (Or.inr (Or.inr (Or.inr (Or.inr (Or.inr (Or.inr (Or.inl h4)))))))) (fun g4 => (Or.elim g4 (fun h5 => (Or.inr (Or.inr (Or.inr (Or.inr (Or.inr (Or.inr (Or.inr (Or.inl h5))))))))) (fun g5 => (Or.elim g5 (fun h6 => (Or.inr (Or.inr (Or.inr (Or.inr (Or.inr (Or.inr (Or.inr (Or.inr (Or.inl h6)))))))))) (fun g6 => (Or.elim g6 (fun h7 => (Or.inr (Or.inr (Or.inr (Or.inr (Or.inr (Or.inr (Or.inr (Or.inr (Or.inr (Or.inl h7))))))))))) (fun g7 => (Or.inr (Or.inr (Or.inr (Or.inr (Or.inr (Or.inr (Or.inr (Or.inr (Or.inr (Or.inr g7))))))))))))))))))))))))))))
        obtain ⟨m7, e_m7, h⟩ := mx_letE h
        have z2 : mx_out (WSX0_judge_L17 q0 q1 q2) m m7 := by first | exact mx_out_up z1 e_m7 (Or.inl ⟨rfl, rfl⟩) | exact mx_out_ul z1 e_m7 (Or.inl ⟨rfl, rfl⟩) | exact mx_out_cp z1 e_m7 (fun j => (Or.inl ⟨rfl, rfl⟩)) | exact mx_out_cl z1 e_m7 (fun j => (Or.inl ⟨rfl, rfl⟩))
        by_cases hc8z : (m7.1 q0 6) = 0
        · rw [if_pos hc8z] at h
          obtain ⟨m10, e_m10, h⟩ := mx_letE h
          have z3 : mx_out (WSX0_judge_L17 q0 q1 q2) m m10 := by first | exact mx_out_up z2 e_m10 (Or.inr (Or.inl ⟨rfl, rfl⟩)) | exact mx_out_ul z2 e_m10 (Or.inr (Or.inl ⟨rfl, rfl⟩)) | exact mx_out_cp z2 e_m10 (fun j => (Or.inr (Or.inl ⟨rfl, rfl⟩))) | exact mx_out_cl z2 e_m10 (fun j => (Or.inr (Or.inl ⟨rfl, rfl⟩)))
          obtain ⟨v11, -, h⟩ := mx_letE h
          exact mx_out.tr z3 (ih h)
        · rw [if_neg hc8z] at h
          obtain ⟨v9, -, h⟩ := mx_letE h
          exact mx_out.tr z2 (ih h)
      · rw [if_neg hc5z] at h
        obtain rfl := Option.some.inj h
        exact z0
set_option maxRecDepth 20000 in
theorem ZX0_judge {a : Nat} {p0 : Nat} {p1 : Nat} {m : mB} {r : (Int32 × mB)} (h : FX0_judge a p0 p1 m = some r) : mx_out (WSX0_judge a p0 p1) m r.2 := by
  unfold FX0_judge at h
  have z0 : mx_out (WSX0_judge a p0 p1) m m := mx_out.rf
  obtain ⟨m1, e_m1, h⟩ := mx_letE h
  have z4 : mx_out (WSX0_judge a p0 p1) m m1 := by first | exact mx_out_up z0 e_m1 (Or.inl ⟨rfl, rfl⟩) | exact mx_out_ul z0 e_m1 (Or.inl ⟨rfl, rfl⟩) | exact mx_out_cp z0 e_m1 (fun j => (Or.inl ⟨rfl, rfl⟩)) | exact mx_out_cl z0 e_m1 (fun j => (Or.inl ⟨rfl, rfl⟩))
  obtain ⟨m2, e_m2, h⟩ := mx_letE h
  have z5 : mx_out (WSX0_judge a p0 p1) m m2 := by first | exact mx_out_up z4 e_m2 (Or.inr (Or.inl ⟨rfl, rfl⟩)) | exact mx_out_ul z4 e_m2 (Or.inr (Or.inl ⟨rfl, rfl⟩)) | exact mx_out_cp z4 e_m2 (fun j => (Or.inr (Or.inl ⟨rfl, rfl⟩))) | exact mx_out_cl z4 e_m2 (fun j => (Or.inr (Or.inl ⟨rfl, rfl⟩)))
  obtain ⟨m3, e_m3, h⟩ := mx_letE h
  have z6 : mx_out (WSX0_judge a p0 p1) m m3 := by first | exact mx_out_up z5 e_m3 (Or.inr (Or.inr (Or.inl ⟨rfl, rfl⟩))) | exact mx_out_ul z5 e_m3 (Or.inr (Or.inr (Or.inl ⟨rfl, rfl⟩))) | exact mx_out_cp z5 e_m3 (fun j => (Or.inr (Or.inr (Or.inl ⟨rfl, rfl⟩)))) | exact mx_out_cl z5 e_m3 (fun j => (Or.inr (Or.inr (Or.inl ⟨rfl, rfl⟩))))
  obtain ⟨q12, h_q12, h⟩ := Option.bind_eq_some_iff.mp h
  have z7 := mx_out.tr z6 (mx_out.sub (S := (WSX0_judge a p0 p1)) (ZX0_judge_L17 mx_FU h_q12) (fun b j hb => (Or.elim hb (fun h0 => (Or.inr (Or.inl h0))) (fun g0 => (Or.elim g0 (fun h1 => (Or.inr (Or.inr (Or.inl h1)))) (fun g1 => (Or.elim g1 (fun h2 => (Or.inr (Or.inr (Or.inr (Or.inr (Or.inr (Or.inl h2))))))) (fun g2 => (Or.elim g2 (fun h3 => (Or.inr (Or.inr (Or.inr (Or.inr (Or.inr (Or.inr (Or.inl h3)))))))) (fun g3 => (Or.elim g3 (fun h4 => (Or.inr (Or.inr (Or.inr (Or.inr (Or.inr (Or.inr (Or.inr (Or.inl h4))))))))) (fun g4 => (Or.elim g4 (fun h5 => (Or.inr (Or.inr (Or.inr (Or.inr (Or.inr (Or.inr (Or.inr (Or.inr (Or.inl h5)))))))))) (fun g5 => (Or.elim g5 (fun h6 => (Or.inr (Or.inr (Or.inr (Or.inr (Or.inr (Or.inr (Or.inr (Or.inr (Or.inr (Or.inl h6))))))))))) (fun g6 => (Or.elim g6 (fun h7 => (Or.inr (Or.inr (Or.inr (Or.inr (Or.inr (Or.inr (Or.inr (Or.inr (Or.inr (Or.inr (Or.inl h7)))))))))))) (fun g7 => (Or.elim g7 (fun h8 => (Or.inr (Or.inr (Or.inr (Or.inr (Or.inr (Or.inr (Or.inr (Or.inr (Or.inr (Or.inr (Or.inr (Or.inl h8))))))))))))) (fun g8 => (Or.elim g8 (fun h9 => (Or.inr (Or.inr (Or.inr (Or.inr (Or.inr (Or.inr (Or.inr (Or.inr (Or.inr (Or.inr (Or.inr (Or.inr (Or.inl h9)))))))))))))) (fun g9 => (Or.inr (Or.inr (Or.inr (Or.inr (Or.inr (Or.inr (Or.inr (Or.inr (Or.inr (Or.inr (Or.inr (Or.inr (Or.inr g9)))))))))))))))))))))))))))))))))))
  obtain ⟨r13, h_r13, h⟩ := Option.bind_eq_some_iff.mp h
  obtain ⟨m14, e_m14, h⟩ := mx_letE h
  have z8 : mx_out (WSX0_judge a p0 p1) m m14 := by first | exact mx_out_up z7 e_m14 (Or.inr (Or.inr (Or.inr (Or.inl ⟨rfl, rfl⟩)))) | exact mx_out_ul z7 e_m14 (Or.inr (Or.inr (Or.inr (Or.inl ⟨rfl, rfl⟩)))) | exact mx_out_cp z7 e_m14 (fun j => (Or.inr (Or.inr (Or.inr (Or.inl ⟨rfl, rfl⟩))))) | exact mx_out_cl z7 e_m14 (fun j => (Or.inr (Or.inr (Or.inr (Or.inl ⟨rfl, rfl⟩)))))
  obtain ⟨r15, h_r15, h⟩ := Option.bind_eq_some_iff.mp h
  obtain ⟨m16, e_m16, h⟩ := mx_letE h
  have z9 : mx_out (WSX0_judge a p0 p1) m m16 := by first | exact mx_out_up z8 e_m16 (Or.inr (Or.inr (Or.inr (Or.inr (Or.inl ⟨rfl, rfl⟩))))) | exact mx_out_ul z8 e_m16 (Or.inr (Or.inr (Or.inr (Or.inr (Or.inl ⟨rfl, rfl⟩))))) | exact mx_out_cp z8 e_m16 (fun j => (Or.inr (Or.inr (Or.inr (Or.inr (Or.inl ⟨rfl, rfl⟩)))))) | exact mx_out_cl z8 e_m16 (fun j => (Or.inr (Or.inr (Or.inr (Or.inr (Or.inl ⟨rfl, rfl⟩))))))
  by_cases hc17z : (m16.1 a 6) = 0
  · rw [if_pos hc17z] at h
    obtain rfl := Option.some.inj h
    exact z9
  · rw [if_neg hc17z] at h
    obtain rfl := Option.some.inj h
    exact z9
set_option maxRecDepth 20000 in
theorem ZX1_draw {a : Nat} {x0 : Int32} {m : mB} {r : (Int32 × mB)} (h : FX1_draw a x0 m = some r) : mx_out (WSX1_draw a) m r.2 := by
  unfold FX1_draw at h
  have z0 : mx_out (WSX1_draw a) m m := mx_out.rf
  obtain ⟨m1, e_m1, h⟩ := mx_letE h
  have z1 : mx_out (WSX1_draw a) m m1 := by first | exact mx_out_up z0 e_m1 ⟨rfl, rfl⟩ | exact mx_out_ul z0 e_m1 ⟨rfl, rfl⟩ | exact mx_out_cp z0 e_m1 (fun j => ⟨rfl, rfl⟩) | exact mx_out_cl z0 e_m1 (fun j => ⟨rfl, rfl⟩)
  obtain ⟨r2, h_r2, h⟩ := Option.bind_eq_some_iff.mp h
  obtain ⟨-, h⟩ := mx_chkE h
  obtain rfl := Option.some.inj h
  exact z1
set_option maxRecDepth 20000 in
theorem ZX1_pairTwo {p0 : Nat} {x1 : Int32} {x2 : Int32} {m : mB} {r : (Int32 × mB)} (h : FX1_pairTwo p0 x1 x2 m = some r) : mx_out (WSX1_pairTwo p0) m r.2 := by
  unfold FX1_pairTwo at h
  have z0 : mx_out (WSX1_pairTwo p0) m m := mx_out.rf
  by_cases hc1z : x1 = x2
  · rw [if_pos hc1z] at h
    obtain rfl := Option.some.inj h
    exact z0
  · rw [if_neg hc1z] at h
    obtain ⟨r2, h_r2, h⟩ := Option.bind_eq_some_iff.mp h
    have z1 : mx_out (WSX1_pairTwo p0) m r2.2 := mx_out.tr z0 (mx_out.sub (ZX4_pairUp h_r2) (fun b j hb => hb))
    by_cases hc3z : r2.1 = 0
    · rw [if_pos hc3z] at h
      obtain rfl := Option.some.inj h
      exact z1
    · rw [if_neg hc3z] at h
      obtain rfl := Option.some.inj h
      exact z1
set_option maxRecDepth 20000 in
theorem ZX1_weighOne {a : Nat} {p0 : Nat} {m : mB} {r : (Int32 × mB)} (h : FX1_weighOne a p0 m = some r) : mx_out (WSX1_weighOne a p0) m r.2 := by
  unfold FX1_weighOne at h
  have z0 : mx_out (WSX1_weighOne a p0) m m := mx_out.rf
  obtain ⟨r1, h_r1, h⟩ := Option.bind_eq_some_iff.mp h
  obtain ⟨r2, h_r2, h⟩ := Option.bind_eq_some_iff.mp h
  have z1 : mx_out (WSX1_weighOne a p0) m r2.2 := mx_out.tr z0 (mx_out.sub (ZX1_draw h_r2) (fun b j hb => (Or.inl hb)))
  obtain ⟨r3, h_r3, h⟩ := Option.bind_eq_some_iff.mp h
  have z2 : mx_out (WSX1_weighOne a p0) m r3.2 := mx_out.tr z1 (mx_out.sub (ZX1_draw h_r3) (fun b j hb => (Or.inl hb)))
  obtain ⟨v4, -, h⟩ := mx_letE h
  obtain ⟨r5, h_r5, h⟩ := Option.bind_eq_some_iff.mp h
  obtain ⟨r6, h_r6, h⟩ := Option.bind_eq_some_iff.mp h
  obtain ⟨r7, h_r7, h⟩ := Option.bind_eq_some_iff.mp h
  have z3 : mx_out (WSX1_weighOne a p0) m r7.2 := mx_out.tr z2 (mx_out.sub (ZX4_weighAnew h_r7) (fun b j hb => (Or.inr hb)))
  by_cases hc8z : r7.1 = 0
  · rw [if_pos hc8z] at h
    obtain rfl := Option.some.inj h
    exact z3
  · rw [if_neg hc8z] at h
    obtain rfl := Option.some.inj h
    exact z3
set_option maxRecDepth 20000 in
theorem ZX1_crownOne {a : Nat} {p0 : Nat} {m : mB} {r : (Int32 × mB)} (h : FX1_crownOne a p0 m = some r) : mx_out (WSX1_crownOne a p0) m r.2 := by
  unfold FX1_crownOne at h
  have z0 : mx_out (WSX1_crownOne a p0) m m := mx_out.rf
  obtain ⟨r1, h_r1, h⟩ := Option.bind_eq_some_iff.mp h
  obtain ⟨r2, h_r2, h⟩ := Option.bind_eq_some_iff.mp h
  have z1 : mx_out (WSX1_crownOne a p0) m r2.2 := mx_out.tr z0 (mx_out.sub (ZX1_draw h_r2) (fun b j hb => (Or.inl hb)))
  obtain ⟨r3, h_r3, h⟩ := Option.bind_eq_some_iff.mp h
  have z2 : mx_out (WSX1_crownOne a p0) m r3.2 := mx_out.tr z1 (mx_out.sub (ZX1_draw h_r3) (fun b j hb => (Or.inl hb)))
  obtain ⟨r4, h_r4, h⟩ := Option.bind_eq_some_iff.mp h
  have z3 : mx_out (WSX1_crownOne a p0) m r4.2 := mx_out.tr z2 (mx_out.sub (ZX4_crownAt h_r4) (fun b j hb => (Or.inr hb)))
  by_cases hc5z : r4.1 = 0
  · rw [if_pos hc5z] at h
    obtain rfl := Option.some.inj h
    exact z3
  · rw [if_neg hc5z] at h
    obtain rfl := Option.some.inj h
    exact z3
set_option maxRecDepth 20000 in
theorem ZX1_isDone {a : Nat} {p0 : Nat} {p1 : Nat} {m : mB} {r : (Int32 × mB)} (h : FX1_isDone a p0 p1 m = some r) : mx_out (WSX1_isDone a p0 p1) m r.2 := by
  unfold FX1_isDone at h
  have z0 : mx_out (WSX1_isDone a p0 p1) m m := mx_out.rf
  obtain ⟨r1, h_r1, h⟩ := Option.bind_eq_some_iff.mp h
  obtain ⟨r2, h_r2, h⟩ := Option.bind_eq_some_iff.mp h
  have z1 : mx_out (WSX1_isDone a p0 p1) m r2.2 := mx_out.tr z0 (mx_out.sub (ZX1_draw h_r2) (fun b j hb => (Or.inl hb)))
  by_cases hc3 : r2.1 = 0
  · rw [if_pos hc3] at h
    obtain ⟨r4, h_r4, h⟩ := Option.bind_eq_some_iff.mp h
    have z2 : mx_out (WSX1_isDone a p0 p1) m r4.2 := mx_out.tr z1 (mx_out.sub (ZX1_draw h_r4) (fun b j hb => (Or.inl hb)))
    obtain ⟨r5, h_r5, h⟩ := Option.bind_eq_some_iff.mp h
    have z3 : mx_out (WSX1_isDone a p0 p1) m r5.2 := mx_out.tr z2 (mx_out.sub (ZX1_draw h_r5) (fun b j hb => (Or.inl hb)))
    obtain ⟨r6, h_r6, h⟩ := Option.bind_eq_some_iff.mp h
    have z4 : mx_out (WSX1_isDone a p0 p1) m r6.2 := mx_out.tr z3 (mx_out.sub (ZX1_pairTwo h_r6) (fun b j hb => (Or.inr (Or.inr (Or.inr (Or.inl hb))))))
    obtain ⟨-, h⟩ := mx_chkE h
    obtain rfl := Option.some.inj h
    exact z4
  · rw [if_neg hc3] at h
    by_cases hc8 : r2.1 = 1
    · rw [if_pos hc8] at h
      obtain ⟨r9, h_r9, h⟩ := Option.bind_eq_some_iff.mp h
      have z5 : mx_out (WSX1_isDone a p0 p1) m r9.2 := mx_out.tr z1 (mx_out.sub (ZX1_draw h_r9) (fun b j hb => (Or.inl hb)))
      obtain ⟨r10, h_r10, h⟩ := Option.bind_eq_some_iff.mp h
      have z6 : mx_out (WSX1_isDone a p0 p1) m r10.2 := mx_out.tr z5 (mx_out.sub (ZX4_partFrom h_r10) (fun b j hb => (Or.inr (Or.inr (Or.inr (Or.inl hb))))))
      by_cases hc11z : r10.1 = 0
      · rw [if_pos hc11z] at h
        obtain rfl := Option.some.inj h
        exact z6
      · rw [if_neg hc11z] at h
        obtain rfl := Option.some.inj h
        exact z6
    · rw [if_neg hc8] at h
      by_cases hc12 : r2.1 = 2
      · rw [if_pos hc12] at h
        obtain ⟨r13, h_r13, h⟩ := Option.bind_eq_some_iff.mp h
        by_cases hc14z : r13 ≤ 0
        · rw [if_pos hc14z] at h
          obtain rfl := Option.some.inj h
          exact z1
        · rw [if_neg hc14z] at h
          obtain ⟨r15, h_r15, h⟩ := Option.bind_eq_some_iff.mp h
          have z7 : mx_out (WSX1_isDone a p0 p1) m r15.2 := mx_out.tr z1 (mx_out.sub (ZX1_weighOne h_r15) (fun b j hb => (Or.elim hb (fun h0 => (Or.inl h0)) (fun g0 => (Or.inr (Or.inr (Or.inr (Or.inr (Or.inr (Or.inl g0))))))))))
          by_cases hc16z : r15.1 = 0
          · rw [if_pos hc16z] at h
            obtain rfl := Option.some.inj h
            exact z7
          · rw [if_neg hc16z] at h
            obtain rfl := Option.some.inj h
            exact z7
      · rw [if_neg hc12] at h
        by_cases hc17 : r2.1 = 3
        · rw [if_pos hc17] at h
          obtain ⟨r18, h_r18, h⟩ := Option.bind_eq_some_iff.mp h
          have z8 : mx_out (WSX1_isDone a p0 p1) m r18.2 := mx_out.tr z1 (mx_out.sub (ZX1_draw h_r18) (fun b j hb => (Or.inl hb)))
          obtain ⟨r19, h_r19, h⟩ := Option.bind_eq_some_iff.mp h
          have z9 : mx_out (WSX1_isDone a p0 p1) m r19.2 := mx_out.tr z8 (mx_out.sub (ZX1_draw h_r19) (fun b j hb => (Or.inl hb)))
          obtain ⟨r20, h_r20, h⟩ := Option.bind_eq_some_iff.mp h
          have z10 : mx_out (WSX1_isDone a p0 p1) m r20.2 := mx_out.tr z9 (mx_out.sub (ZX4_priceAt h_r20) (fun b j hb => (Or.inr (Or.inr (Or.inr (Or.inr (Or.inl hb)))))))
          by_cases hc21z : r20.1 = 0
          · rw [if_pos hc21z] at h
            obtain rfl := Option.some.inj h
            exact z10
          · rw [if_neg hc21z] at h
            obtain rfl := Option.some.inj h
            exact z10
        · rw [if_neg hc17] at h
          by_cases hc22 : r2.1 = 4
          · rw [if_pos hc22] at h
            obtain ⟨r23, h_r23, h⟩ := Option.bind_eq_some_iff.mp h
            have z11 : mx_out (WSX1_isDone a p0 p1) m r23.2 := mx_out.tr z1 (mx_out.sub (ZX1_draw h_r23) (fun b j hb => (Or.inl hb)))
            obtain ⟨r24, h_r24, h⟩ := Option.bind_eq_some_iff.mp h
            have z12 : mx_out (WSX1_isDone a p0 p1) m r24.2 := mx_out.tr z11 (mx_out.sub (ZX9_growFrom h_r24) (fun b j hb => (Or.elim hb (fun h0 => (Or.inr (Or.inr (Or.inr (Or.inr (Or.inr (Or.inr (Or.inl h0)))))))) (fun g0 => (Or.elim g0 (fun h1 => (Or.inr (Or.inr (Or.inr (Or.inr (Or.inr (Or.inr (Or.inr h1)))))))) (fun g1 => (Or.elim g1 (fun h2 => (Or.inr (Or.inl h2))) (fun g2 => (Or.inr (Or.inr (Or.inr (Or.inl g2))))))))))))
            by_cases hc25z : r24.1 = 0
            · rw [if_pos hc25z] at h
              obtain rfl := Option.some.inj h
              exact z12
            · rw [if_neg hc25z] at h
              obtain rfl := Option.some.inj h
              exact z12
          · rw [if_neg hc22] at h
            by_cases hc26 : r2.1 = 5
            · rw [if_pos hc26] at h
              obtain ⟨r27, h_r27, h⟩ := Option.bind_eq_some_iff.mp h
              have z13 : mx_out (WSX1_isDone a p0 p1) m r27.2 := mx_out.tr z1 (mx_out.sub (ZX1_draw h_r27) (fun b j hb => (Or.inl hb)))
              obtain ⟨r28, h_r28, h⟩ := Option.bind_eq_some_iff.mp h
              have z14 : mx_out (WSX1_isDone a p0 p1) m r28.2 := mx_out.tr z13 (mx_out.sub (ZX9_growFrom h_r28) (fun b j hb => (Or.elim hb (fun h0 => (Or.inr (Or.inr (Or.inr (Or.inr (Or.inr (Or.inr (Or.inl h0)))))))) (fun g0 => (Or.elim g0 (fun h1 => (Or.inr (Or.inr (Or.inr (Or.inr (Or.inr (Or.inr (Or.inr h1)))))))) (fun g1 => (Or.elim g1 (fun h2 => (Or.inr (Or.inl h2))) (fun g2 => (Or.inr (Or.inr (Or.inr (Or.inl g2))))))))))))
              by_cases hc29z : r28.1 = 0
              · rw [if_pos hc29z] at h
                obtain rfl := Option.some.inj h
                exact z14
              · rw [if_neg hc29z] at h
                obtain rfl := Option.some.inj h
                exact z14
            · rw [if_neg hc26] at h
              obtain ⟨r30, h_r30, h⟩ := Option.bind_eq_some_iff.mp h
              by_cases hc31z : r30 ≤ 0
              · rw [if_pos hc31z] at h
                obtain rfl := Option.some.inj h
                exact z1
              · rw [if_neg hc31z] at h
                obtain ⟨r32, h_r32, h⟩ := Option.bind_eq_some_iff.mp h
                have z15 : mx_out (WSX1_isDone a p0 p1) m r32.2 := mx_out.tr z1 (mx_out.sub (ZX1_crownOne h_r32) (fun b j hb => (Or.elim hb (fun h0 => (Or.inl h0)) (fun g0 => (Or.inr (Or.inr (Or.inl g0)))))))
                by_cases hc33z : r32.1 = 0
                · rw [if_pos hc33z] at h
                  obtain rfl := Option.some.inj h
                  exact z15
                · rw [if_neg hc33z] at h
                  obtain rfl := Option.some.inj h
                  exact z15
set_option maxRecDepth 20000 in
theorem ZX1_run_L22 {q0 : Nat} {q1 : Nat} {q2 : Nat} {y3 : Int32} : ∀ (f : Nat) {y5 : Int32} {y6 : Int32} {m : mB} {q : (Int32 × mB)}, FX1_run_L22 q0 q1 q2 y3 f y5 y6 m = some q → mx_out (WSX1_run_L22 q0 q1 q2) m q.2 := by
  intro f
  induction f with
  | zero => intro _ _ _ _ h; cases h
  | succ f ih =>
    intro y5 y6 m q h
    rw [FX1_run_L22] at h
    have z0 : mx_out (WSX1_run_L22 q0 q1 q2) m m := mx_out.rf
    by_cases hc4z : y3 ≤ y6
    · rw [if_pos hc4z] at h
      obtain rfl := Option.some.inj h
      exact z0
    · rw [if_neg hc4z] at h
      obtain ⟨r5, h_r5, h⟩ := Option.bind_eq_some_iff.mp h
      have z1 : mx_out (WSX1_run_L22 q0 q1 q2) m r5.2 := mx_out.tr z0 (mx_out.sub (ZX1_isDone h_r5) (fun b j hb => (Or.elim hb (fun h0 => (Or.inl h0)) (fun g0 => (Or.elim g0 (fun h1 => (Or.inr (Or.inl h1))) (fun g1 => (Or.elim g1 (fun h2 => (Or.inr (Or.inr (Or.inl h2)))) (fun g2 => (Or.elim g2 (fun h3 => (Or.inr (Or.inr (Or.inr (Or.inl h3))))) (fun g3 => (Or.elim g3 (fun h4 => (Or.inr (Or.inr (Or.inr (Or.inr (Or.inl h4)))))) (fun g4 => (Or.elim g4 (fun h5 => (Or.inr (Or.inr (Or.inr (Or.inr (Or.inr (Or.inl h5))))))) (fun g5 => (Or.elim g5 (fun h6 => (Or.inr (Or.inr (Or.inr (Or.inr (Or.inr (Or.inr (Or.inl h6)))))))) (fun g6 => (Or.inr (Or.inr (Or.inr (Or.inr (Or.inr (Or.inr (Or.inr g6)))))))))))))))))))))))
      by_cases hc6z : r5.1 = 0
      · rw [if_pos hc6z] at h
        obtain ⟨v7, -, h⟩ := mx_letE h
        exact mx_out.tr z1 (ih h)
      · rw [if_neg hc6z] at h
        obtain ⟨v8, -, h⟩ := mx_letE h
        obtain ⟨v9, -, h⟩ := mx_letE h
        exact mx_out.tr z1 (ih h)
set_option maxRecDepth 20000 in
theorem ZX1_run {a : Nat} {p0 : Nat} {p1 : Nat} {x2 : Int32} {x3 : Int32} {m : mB} {r : (Int32 × mB)} (h : FX1_run a p0 p1 x2 x3 m = some r) : mx_out (WSX1_run a p0 p1) m r.2 := by
  unfold FX1_run at h
  have z0 : mx_out (WSX1_run a p0 p1) m m := mx_out.rf
  obtain ⟨r1, h_r1, h⟩ := Option.bind_eq_some_iff.mp h
  by_cases hc2z : 1 ≤ r1
  · rw [if_pos hc2z] at h
    obtain ⟨m3, e_m3, h⟩ := mx_letE h
    have z2 : mx_out (WSX1_run a p0 p1) m m3 := by first | exact mx_out_up z0 e_m3 (Or.inl ⟨rfl, rfl⟩) | exact mx_out_ul z0 e_m3 (Or.inl ⟨rfl, rfl⟩) | exact mx_out_cp z0 e_m3 (fun j => (Or.inl ⟨rfl, rfl⟩)) | exact mx_out_cl z0 e_m3 (fun j => (Or.inl ⟨rfl, rfl⟩))
    obtain ⟨q10, h_q10, h⟩ := Option.bind_eq_some_iff.mp h
    have z3 := mx_out.tr z2 (mx_out.sub (S := (WSX1_run a p0 p1)) (ZX1_run_L22 mx_FU h_q10) (fun b j hb => (Or.elim hb (fun h0 => (Or.inl h0)) (fun g0 => (Or.elim g0 (fun h1 => (Or.inr (Or.inl h1))) (fun g1 => (Or.elim g1 (fun h2 => (Or.inr (Or.inr (Or.inl h2)))) (fun g2 => (Or.elim g2 (fun h3 => (Or.inr (Or.inr (Or.inr (Or.inl h3))))) (fun g3 => (Or.elim g3 (fun h4 => (Or.inr (Or.inr (Or.inr (Or.inr (Or.inl h4)))))) (fun g4 => (Or.elim g4 (fun h5 => (Or.inr (Or.inr (Or.inr (Or.inr (Or.inr (Or.inl h5))))))) (fun g5 => (Or.elim g5 (fun h6 => (Or.inr (Or.inr (Or.inr (Or.inr (Or.inr (Or.inr (Or.inl h6)))))))) (fun g6 => (Or.inr (Or.inr (Or.inr (Or.inr (Or.inr (Or.inr (Or.inr g6)))))))))))))))))))))))
    obtain rfl := Option.some.inj h
    exact z3
  · rw [if_neg hc2z] at h
    obtain rfl := Option.some.inj h
    exact z0
set_option maxRecDepth 20000 in
theorem ZX3_forget {a : Nat} {m : mB} {r : mB} (h : FX3_forget a m = some r) : mx_out (WSX3_forget a) m r := by
  unfold FX3_forget at h
  have z0 : mx_out (WSX3_forget a) m m := mx_out.rf
  obtain ⟨m1, e_m1, h⟩ := mx_letE h
  have z1 : mx_out (WSX3_forget a) m m1 := by first | exact mx_out_up z0 e_m1 ⟨rfl, rfl⟩ | exact mx_out_ul z0 e_m1 ⟨rfl, rfl⟩ | exact mx_out_cp z0 e_m1 (fun j => ⟨rfl, rfl⟩) | exact mx_out_cl z0 e_m1 (fun j => ⟨rfl, rfl⟩)
  obtain rfl := Option.some.inj h
  exact z1
theorem ZX3_mark {a p0 : Nat} {m r : mB} (h : FX3_mark a p0 m = some r) : mx_out (WSX3_mark a p0) m r := by
  unfold FX3_mark at h
  obtain ⟨r1, -, h⟩ := Option.bind_eq_some_iff.mp h
  obtain ⟨hi, h⟩ := mx_chkE h
  have hi9 : Int32.toNatClampNeg r1 < 9 := Nat.not_le.mp fun q => mx_inbE hi (Or.inr q)
  obtain ⟨r2, h2, h⟩ := Option.bind_eq_some_iff.mp h
  obtain rfl := Option.some.inj h
  exact mx_out.sub (ZX4_copyFrom h2) (fun b j hb => by simp only [WSX4_copyFrom, WSX3_mark] at hb ⊢; omega)
set_option maxRecDepth 20000 in
theorem ZX3_keep {a : Nat} {m : mB} {r : mB} (h : FX3_keep a m = some r) : mx_out (WSX3_keep a) m r := by
  unfold FX3_keep at h
  have z0 : mx_out (WSX3_keep a) m m := mx_out.rf
  obtain ⟨m1, e_m1, h⟩ := mx_letE h
  have z1 : mx_out (WSX3_keep a) m m1 := by first | exact mx_out_up z0 e_m1 (Or.inl ⟨rfl, rfl⟩) | exact mx_out_ul z0 e_m1 (Or.inl ⟨rfl, rfl⟩) | exact mx_out_cp z0 e_m1 (fun j => (Or.inl ⟨rfl, rfl⟩)) | exact mx_out_cl z0 e_m1 (fun j => (Or.inl ⟨rfl, rfl⟩))
  obtain ⟨r2, h_r2, h⟩ := Option.bind_eq_some_iff.mp h
  obtain ⟨m3, e_m3, h⟩ := mx_letE h
  have z2 : mx_out (WSX3_keep a) m m3 := by first | exact mx_out_up z1 e_m3 (Or.inr ⟨rfl, rfl⟩) | exact mx_out_ul z1 e_m3 (Or.inr ⟨rfl, rfl⟩) | exact mx_out_cp z1 e_m3 (fun j => (Or.inr ⟨rfl, rfl⟩)) | exact mx_out_cl z1 e_m3 (fun j => (Or.inr ⟨rfl, rfl⟩))
  obtain rfl := Option.some.inj h
  exact z2
set_option maxRecDepth 20000 in
theorem ZX3_takeBack {a : Nat} {p0 : Nat} {m : mB} {r : (Int32 × mB)} (h : FX3_takeBack a p0 m = some r) : mx_out (WSX3_takeBack a p0) m r.2 := by
  unfold FX3_takeBack at h
  have z0 : mx_out (WSX3_takeBack a p0) m m := mx_out.rf
  by_cases hc1z : 0 < (m.1 a 2)
  · rw [if_pos hc1z] at h
    obtain ⟨m2, e_m2, h⟩ := mx_letE h
    have z1 : mx_out (WSX3_takeBack a p0) m m2 := by first | exact mx_out_up z0 e_m2 (Or.inr (Or.inl ⟨rfl, rfl⟩)) | exact mx_out_ul z0 e_m2 (Or.inr (Or.inl ⟨rfl, rfl⟩)) | exact mx_out_cp z0 e_m2 (fun j => (Or.inr (Or.inl ⟨rfl, rfl⟩))) | exact mx_out_cl z0 e_m2 (fun j => (Or.inr (Or.inl ⟨rfl, rfl⟩)))
    obtain ⟨r3, h_r3, h⟩ := Option.bind_eq_some_iff.mp h
    obtain ⟨m4, e_m4, h⟩ := mx_letE h
    have z2 : mx_out (WSX3_takeBack a p0) m m4 := by first | exact mx_out_up z1 e_m4 (Or.inl ⟨rfl, rfl⟩) | exact mx_out_ul z1 e_m4 (Or.inl ⟨rfl, rfl⟩) | exact mx_out_cp z1 e_m4 (fun j => (Or.inl ⟨rfl, rfl⟩)) | exact mx_out_cl z1 e_m4 (fun j => (Or.inl ⟨rfl, rfl⟩))
    obtain ⟨-, h⟩ := mx_chkE h
    obtain ⟨r6, h_r6, h⟩ := Option.bind_eq_some_iff.mp h
    have z3 : mx_out (WSX3_takeBack a p0) m r6 := mx_out.tr z2 (mx_out.sub (ZX4_copyFrom h_r6) (fun b j hb => (Or.elim hb (fun h0 => (Or.inr (Or.inr (Or.inl h0)))) (fun g0 => (Or.elim g0 (fun h1 => (Or.inr (Or.inr (Or.inr (Or.inl h1))))) (fun g1 => (Or.elim g1 (fun h2 => (Or.inr (Or.inr (Or.inr (Or.inr (Or.inl h2)))))) (fun g2 => (Or.elim g2 (fun h3 => (Or.inr (Or.inr (Or.inr (Or.inr (Or.inr (Or.inl h3))))))) (fun g3 => (Or.elim g3 (fun h4 => (Or.inr (Or.inr (Or.inr (Or.inr (Or.inr (Or.inr (Or.inl h4)))))))) (fun g4 => (Or.elim g4 (fun h5 => (Or.inr (Or.inr (Or.inr (Or.inr (Or.inr (Or.inr (Or.inr (Or.inl h5))))))))) (fun g5 => (Or.elim g5 (fun h6 => (Or.inr (Or.inr (Or.inr (Or.inr (Or.inr (Or.inr (Or.inr (Or.inr (Or.inl h6)))))))))) (fun g6 => (Or.elim g6 (fun h7 => (Or.inr (Or.inr (Or.inr (Or.inr (Or.inr (Or.inr (Or.inr (Or.inr (Or.inr (Or.inl h7))))))))))) (fun g7 => (Or.elim g7 (fun h8 => (Or.inr (Or.inr (Or.inr (Or.inr (Or.inr (Or.inr (Or.inr (Or.inr (Or.inr (Or.inr (Or.inl h8)))))))))))) (fun g8 => (Or.elim g8 (fun h9 => (Or.inr (Or.inr (Or.inr (Or.inr (Or.inr (Or.inr (Or.inr (Or.inr (Or.inr (Or.inr (Or.inr (Or.inl h9))))))))))))) (fun g9 => (Or.elim g9 (fun h10 => (Or.inr (Or.inr (Or.inr (Or.inr (Or.inr (Or.inr (Or.inr (Or.inr (Or.inr (Or.inr (Or.inr (Or.inr (Or.inl h10)))))))))))))) (fun g10 => (Or.elim g10 (fun h11 => (Or.inr (Or.inr (Or.inr (Or.inr (Or.inr (Or.inr (Or.inr (Or.inr (Or.inr (Or.inr (Or.inr (Or.inr (Or.inr (Or.inl h11))))))))))))))) (fun g11 => (Or.elim g11 (fun h12 => (Or.inr (Or.inr (Or.inr (Or.inr (Or.inr (Or.inr (Or.inr (Or.inr (Or.inr (Or.inr (Or.inr (Or.inr (Or.inr (Or.inr (Or.inl h12)))))))))))))))) (fun g12 => (Or.elim g12 (fun h13 => (Or.inr (Or.inr (Or.inr (Or.inr (Or.inr (Or.inr (Or.inr (Or.inr (Or.inr (Or.inr (Or.inr (Or.inr (Or.inr (Or.inr (Or.inr (Or.inl h13))))))))))))))))) (fun g13 => (Or.inr (Or.inr (Or.inr (Or.inr (Or.inr (Or.inr (Or.inr (Or.inr (Or.inr (Or.inr (Or.inr (Or.inr (Or.inr (Or.inr (Or.inr (Or.inr g13))))))))))))))))))))))))))))))))))))))))))))))
    obtain rfl := Option.some.inj h
    exact z3
  · rw [if_neg hc1z] at h
    obtain rfl := Option.some.inj h
    exact z0
set_option maxRecDepth 20000 in
theorem ZX5_readPoint {a : Nat} {p0 : Nat} {m : mB} {r : (Int32 × mB)} (h : FX5_readPoint a p0 m = some r) : mx_out (WSX5_readPoint a p0) m r.2 := by
  unfold FX5_readPoint at h
  have z0 : mx_out (WSX5_readPoint a p0) m m := mx_out.rf
  obtain ⟨r1, h_r1, h⟩ := Option.bind_eq_some_iff.mp h
  have z1 : mx_out (WSX5_readPoint a p0) m r1 := mx_out.tr z0 (mx_out.sub (ZX10_advance h_r1) (fun b j hb => (Or.elim hb (fun h0 => (Or.inr (Or.inr (Or.inr (Or.inr (Or.inr (Or.inr (Or.inr (Or.inl h0))))))))) (fun g0 => (Or.elim g0 (fun h1 => (Or.inr (Or.inr (Or.inr (Or.inr (Or.inr (Or.inr (Or.inr (Or.inr (Or.inl h1)))))))))) (fun g1 => (Or.elim g1 (fun h2 => (Or.inr (Or.inr (Or.inr (Or.inr (Or.inr (Or.inr (Or.inr (Or.inr (Or.inr (Or.inl h2))))))))))) (fun g2 => (Or.elim g2 (fun h3 => (Or.inr (Or.inr (Or.inr (Or.inr (Or.inr (Or.inr (Or.inr (Or.inr (Or.inr (Or.inr (Or.inl h3)))))))))))) (fun g3 => (Or.inr (Or.inr (Or.inr (Or.inr (Or.inr (Or.inr (Or.inr (Or.inr (Or.inr (Or.inr (Or.inr g3)))))))))))))))))))))
  obtain ⟨r2, h_r2, h⟩ := Option.bind_eq_some_iff.mp h
  by_cases hc3z : r2 = 2
  · rw [if_pos hc3z] at h
    obtain ⟨r4, h_r4, h⟩ := Option.bind_eq_some_iff.mp h
    obtain ⟨r5, h_r5, h⟩ := Option.bind_eq_some_iff.mp h
    by_cases hc6z : r5 = (-1)
    · rw [if_pos hc6z] at h
      obtain ⟨r7, h_r7, h⟩ := Option.bind_eq_some_iff.mp h
      obtain ⟨r8, h_r8, h⟩ := Option.bind_eq_some_iff.mp h
      have z2 : mx_out (WSX5_readPoint a p0) m r8 := mx_out.tr z1 (mx_out.sub (ZX4_addPoint h_r8) (fun b j hb => (Or.elim hb (fun h0 => (Or.inl h0)) (fun g0 => (Or.elim g0 (fun h1 => (Or.inr (Or.inl h1))) (fun g1 => (Or.elim g1 (fun h2 => (Or.inr (Or.inr (Or.inl h2)))) (fun g2 => (Or.elim g2 (fun h3 => (Or.inr (Or.inr (Or.inr (Or.inl h3))))) (fun g3 => (Or.inr (Or.inr (Or.inr (Or.inr (Or.inl g3)))))))))))))))
      obtain ⟨r9, h_r9, h⟩ := Option.bind_eq_some_iff.mp h
      have z3 : mx_out (WSX5_readPoint a p0) m r9 := mx_out.tr z2 (mx_out.sub (ZX10_advance h_r9) (fun b j hb => (Or.elim hb (fun h0 => (Or.inr (Or.inr (Or.inr (Or.inr (Or.inr (Or.inr (Or.inr (Or.inl h0))))))))) (fun g0 => (Or.elim g0 (fun h1 => (Or.inr (Or.inr (Or.inr (Or.inr (Or.inr (Or.inr (Or.inr (Or.inr (Or.inl h1)))))))))) (fun g1 => (Or.elim g1 (fun h2 => (Or.inr (Or.inr (Or.inr (Or.inr (Or.inr (Or.inr (Or.inr (Or.inr (Or.inr (Or.inl h2))))))))))) (fun g2 => (Or.elim g2 (fun h3 => (Or.inr (Or.inr (Or.inr (Or.inr (Or.inr (Or.inr (Or.inr (Or.inr (Or.inr (Or.inr (Or.inl h3)))))))))))) (fun g3 => (Or.inr (Or.inr (Or.inr (Or.inr (Or.inr (Or.inr (Or.inr (Or.inr (Or.inr (Or.inr (Or.inr g3)))))))))))))))))))))
      obtain rfl := Option.some.inj h
      exact z3
    · rw [if_neg hc6z] at h
      obtain ⟨r10, h_r10, h⟩ := Option.bind_eq_some_iff.mp h
      have z4 : mx_out (WSX5_readPoint a p0) m r10.2 := mx_out.tr z1 (mx_out.sub (ZX10_fail h_r10) (fun b j hb => (Or.elim hb (fun h0 => (Or.inr (Or.inr (Or.inr (Or.inr (Or.inr (Or.inl h0))))))) (fun g0 => (Or.inr (Or.inr (Or.inr (Or.inr (Or.inr (Or.inr (Or.inl g0)))))))))))
      obtain ⟨-, h⟩ := mx_chkE h
      obtain rfl := Option.some.inj h
      exact z4
  · rw [if_neg hc3z] at h
    obtain ⟨r12, h_r12, h⟩ := Option.bind_eq_some_iff.mp h
    have z5 : mx_out (WSX5_readPoint a p0) m r12.2 := mx_out.tr z1 (mx_out.sub (ZX10_fail h_r12) (fun b j hb => (Or.elim hb (fun h0 => (Or.inr (Or.inr (Or.inr (Or.inr (Or.inr (Or.inl h0))))))) (fun g0 => (Or.inr (Or.inr (Or.inr (Or.inr (Or.inr (Or.inr (Or.inl g0)))))))))))
    obtain ⟨-, h⟩ := mx_chkE h
    obtain rfl := Option.some.inj h
    exact z5
set_option maxRecDepth 20000 in
theorem ZX5_readLink {a : Nat} {p0 : Nat} {m : mB} {r : (Int32 × mB)} (h : FX5_readLink a p0 m = some r) : mx_out (WSX5_readLink a p0) m r.2 := by
  unfold FX5_readLink at h
  have z0 : mx_out (WSX5_readLink a p0) m m := mx_out.rf
  obtain ⟨r1, h_r1, h⟩ := Option.bind_eq_some_iff.mp h
  have z1 : mx_out (WSX5_readLink a p0) m r1 := mx_out.tr z0 (mx_out.sub (ZX10_advance h_r1) (fun b j hb => (Or.elim hb (fun h0 => (Or.inr (Or.inr (Or.inr (Or.inr (Or.inr (Or.inr (Or.inr (Or.inr (Or.inl h0)))))))))) (fun g0 => (Or.elim g0 (fun h1 => (Or.inr (Or.inr (Or.inr (Or.inr (Or.inr (Or.inr (Or.inr (Or.inr (Or.inr (Or.inl h1))))))))))) (fun g1 => (Or.elim g1 (fun h2 => (Or.inr (Or.inr (Or.inr (Or.inr (Or.inr (Or.inr (Or.inr (Or.inr (Or.inr (Or.inr (Or.inl h2)))))))))))) (fun g2 => (Or.elim g2 (fun h3 => (Or.inr (Or.inr (Or.inr (Or.inr (Or.inr (Or.inr (Or.inr (Or.inr (Or.inr (Or.inr (Or.inr (Or.inl h3))))))))))))) (fun g3 => (Or.inr (Or.inr (Or.inr (Or.inr (Or.inr (Or.inr (Or.inr (Or.inr (Or.inr (Or.inr (Or.inr (Or.inr g3))))))))))))))))))))))
  obtain ⟨r2, h_r2, h⟩ := Option.bind_eq_some_iff.mp h
  have z2 : mx_out (WSX5_readLink a p0) m r2.2 := mx_out.tr z1 (mx_out.sub (ZX10_takePoint h_r2) (fun b j hb => (Or.elim hb (fun h0 => (Or.inr (Or.inr (Or.inr (Or.inr (Or.inr (Or.inr (Or.inl h0)))))))) (fun g0 => (Or.elim g0 (fun h1 => (Or.inr (Or.inr (Or.inr (Or.inr (Or.inr (Or.inr (Or.inr (Or.inl h1))))))))) (fun g1 => (Or.elim g1 (fun h2 => (Or.inr (Or.inr (Or.inr (Or.inr (Or.inr (Or.inr (Or.inr (Or.inr (Or.inl h2)))))))))) (fun g2 => (Or.elim g2 (fun h3 => (Or.inr (Or.inr (Or.inr (Or.inr (Or.inr (Or.inr (Or.inr (Or.inr (Or.inr (Or.inl h3))))))))))) (fun g3 => (Or.elim g3 (fun h4 => (Or.inr (Or.inr (Or.inr (Or.inr (Or.inr (Or.inr (Or.inr (Or.inr (Or.inr (Or.inr (Or.inl h4)))))))))))) (fun g4 => (Or.elim g4 (fun h5 => (Or.inr (Or.inr (Or.inr (Or.inr (Or.inr (Or.inr (Or.inr (Or.inr (Or.inr (Or.inr (Or.inr (Or.inl h5))))))))))))) (fun g5 => (Or.inr (Or.inr (Or.inr (Or.inr (Or.inr (Or.inr (Or.inr (Or.inr (Or.inr (Or.inr (Or.inr (Or.inr g5))))))))))))))))))))))))))
  by_cases hc3z : r2.1 = (-1)
  · rw [if_pos hc3z] at h
    obtain rfl := Option.some.inj h
    exact z2
  · rw [if_neg hc3z] at h
    obtain ⟨r4, h_r4, h⟩ := Option.bind_eq_some_iff.mp h
    have z3 : mx_out (WSX5_readLink a p0) m r4.2 := mx_out.tr z2 (mx_out.sub (ZX10_pointHere h_r4) (fun b j hb => (Or.elim hb (fun h0 => (Or.inr (Or.inr (Or.inr (Or.inr (Or.inr (Or.inr (Or.inl h0)))))))) (fun g0 => (Or.inr (Or.inr (Or.inr (Or.inr (Or.inr (Or.inr (Or.inr (Or.inl g0))))))))))))
    by_cases hc5z : r4.1 = (-1)
    · rw [if_pos hc5z] at h
      obtain rfl := Option.some.inj h
      exact z3
    · rw [if_neg hc5z] at h
      by_cases hc6z : r2.1 = r4.1
      · rw [if_pos hc6z] at h
        obtain ⟨r7, h_r7, h⟩ := Option.bind_eq_some_iff.mp h
        have z4 : mx_out (WSX5_readLink a p0) m r7.2 := mx_out.tr z3 (mx_out.sub (ZX10_fail h_r7) (fun b j hb => (Or.elim hb (fun h0 => (Or.inr (Or.inr (Or.inr (Or.inr (Or.inr (Or.inr (Or.inl h0)))))))) (fun g0 => (Or.inr (Or.inr (Or.inr (Or.inr (Or.inr (Or.inr (Or.inr (Or.inl g0))))))))))))
        obtain ⟨-, h⟩ := mx_chkE h
        obtain rfl := Option.some.inj h
        exact z4
      · rw [if_neg hc6z] at h
        obtain ⟨r9, h_r9, h⟩ := Option.bind_eq_some_iff.mp h
        by_cases hc10z : r9 = 0
        · rw [if_pos hc10z] at h
          obtain ⟨r11, h_r11, h⟩ := Option.bind_eq_some_iff.mp h
          have z5 : mx_out (WSX5_readLink a p0) m r11 := mx_out.tr z3 (mx_out.sub (ZX10_advance h_r11) (fun b j hb => (Or.elim hb (fun h0 => (Or.inr (Or.inr (Or.inr (Or.inr (Or.inr (Or.inr (Or.inr (Or.inr (Or.inl h0)))))))))) (fun g0 => (Or.elim g0 (fun h1 => (Or.inr (Or.inr (Or.inr (Or.inr (Or.inr (Or.inr (Or.inr (Or.inr (Or.inr (Or.inl h1))))))))))) (fun g1 => (Or.elim g1 (fun h2 => (Or.inr (Or.inr (Or.inr (Or.inr (Or.inr (Or.inr (Or.inr (Or.inr (Or.inr (Or.inr (Or.inl h2)))))))))))) (fun g2 => (Or.elim g2 (fun h3 => (Or.inr (Or.inr (Or.inr (Or.inr (Or.inr (Or.inr (Or.inr (Or.inr (Or.inr (Or.inr (Or.inr (Or.inl h3))))))))))))) (fun g3 => (Or.inr (Or.inr (Or.inr (Or.inr (Or.inr (Or.inr (Or.inr (Or.inr (Or.inr (Or.inr (Or.inr (Or.inr g3))))))))))))))))))))))
          obtain ⟨r12, h_r12, h⟩ := Option.bind_eq_some_iff.mp h
          have z6 : mx_out (WSX5_readLink a p0) m r12.2 := mx_out.tr z5 (mx_out.sub (ZX10_takeNumber h_r12) (fun b j hb => (Or.elim hb (fun h0 => (Or.inr (Or.inr (Or.inr (Or.inr (Or.inr (Or.inr (Or.inl h0)))))))) (fun g0 => (Or.elim g0 (fun h1 => (Or.inr (Or.inr (Or.inr (Or.inr (Or.inr (Or.inr (Or.inr (Or.inl h1))))))))) (fun g1 => (Or.elim g1 (fun h2 => (Or.inr (Or.inr (Or.inr (Or.inr (Or.inr (Or.inr (Or.inr (Or.inr (Or.inl h2)))))))))) (fun g2 => (Or.elim g2 (fun h3 => (Or.inr (Or.inr (Or.inr (Or.inr (Or.inr (Or.inr (Or.inr (Or.inr (Or.inr (Or.inl h3))))))))))) (fun g3 => (Or.elim g3 (fun h4 => (Or.inr (Or.inr (Or.inr (Or.inr (Or.inr (Or.inr (Or.inr (Or.inr (Or.inr (Or.inr (Or.inl h4)))))))))))) (fun g4 => (Or.elim g4 (fun h5 => (Or.inr (Or.inr (Or.inr (Or.inr (Or.inr (Or.inr (Or.inr (Or.inr (Or.inr (Or.inr (Or.inr (Or.inl h5))))))))))))) (fun g5 => (Or.inr (Or.inr (Or.inr (Or.inr (Or.inr (Or.inr (Or.inr (Or.inr (Or.inr (Or.inr (Or.inr (Or.inr g5))))))))))))))))))))))))))
          by_cases hc13z : r12.1 = (-1)
          · rw [if_pos hc13z] at h
            obtain rfl := Option.some.inj h
            exact z6
          · rw [if_neg hc13z] at h
            obtain ⟨r14, h_r14, h⟩ := Option.bind_eq_some_iff.mp h
            have z7 : mx_out (WSX5_readLink a p0) m r14 := mx_out.tr z6 (mx_out.sub (ZX4_addLink h_r14) (fun b j hb => (Or.elim hb (fun h0 => (Or.inl h0)) (fun g0 => (Or.elim g0 (fun h1 => (Or.inr (Or.inl h1))) (fun g1 => (Or.elim g1 (fun h2 => (Or.inr (Or.inr (Or.inl h2)))) (fun g2 => (Or.elim g2 (fun h3 => (Or.inr (Or.inr (Or.inr (Or.inl h3))))) (fun g3 => (Or.elim g3 (fun h4 => (Or.inr (Or.inr (Or.inr (Or.inr (Or.inl h4)))))) (fun g4 => (Or.inr (Or.inr (Or.inr (Or.inr (Or.inr (Or.inl g4))))))))))))))))))
            obtain rfl := Option.some.inj h
            exact z7
        · rw [if_neg hc10z] at h
          obtain ⟨r15, h_r15, h⟩ := Option.bind_eq_some_iff.mp h
          have z8 : mx_out (WSX5_readLink a p0) m r15.2 := mx_out.tr z3 (mx_out.sub (ZX10_fail h_r15) (fun b j hb => (Or.elim hb (fun h0 => (Or.inr (Or.inr (Or.inr (Or.inr (Or.inr (Or.inr (Or.inl h0)))))))) (fun g0 => (Or.inr (Or.inr (Or.inr (Or.inr (Or.inr (Or.inr (Or.inr (Or.inl g0))))))))))))
          obtain ⟨-, h⟩ := mx_chkE h
          obtain rfl := Option.some.inj h
          exact z8
set_option maxRecDepth 20000 in
theorem ZX5_readPair {a : Nat} {p0 : Nat} {m : mB} {r : (Int32 × mB)} (h : FX5_readPair a p0 m = some r) : mx_out (WSX5_readPair a p0) m r.2 := by
  unfold FX5_readPair at h
  have z0 : mx_out (WSX5_readPair a p0) m m := mx_out.rf
  obtain ⟨r1, h_r1, h⟩ := Option.bind_eq_some_iff.mp h
  have z1 : mx_out (WSX5_readPair a p0) m r1 := mx_out.tr z0 (mx_out.sub (ZX10_advance h_r1) (fun b j hb => (Or.elim hb (fun h0 => (Or.inr (Or.inr (Or.inr (Or.inl h0))))) (fun g0 => (Or.elim g0 (fun h1 => (Or.inr (Or.inr (Or.inr (Or.inr (Or.inl h1)))))) (fun g1 => (Or.elim g1 (fun h2 => (Or.inr (Or.inr (Or.inr (Or.inr (Or.inr (Or.inl h2))))))) (fun g2 => (Or.elim g2 (fun h3 => (Or.inr (Or.inr (Or.inr (Or.inr (Or.inr (Or.inr (Or.inl h3)))))))) (fun g3 => (Or.inr (Or.inr (Or.inr (Or.inr (Or.inr (Or.inr (Or.inr g3)))))))))))))))))
  obtain ⟨r2, h_r2, h⟩ := Option.bind_eq_some_iff.mp h
  have z2 : mx_out (WSX5_readPair a p0) m r2.2 := mx_out.tr z1 (mx_out.sub (ZX10_takePoint h_r2) (fun b j hb => (Or.elim hb (fun h0 => (Or.inr (Or.inl h0))) (fun g0 => (Or.elim g0 (fun h1 => (Or.inr (Or.inr (Or.inl h1)))) (fun g1 => (Or.elim g1 (fun h2 => (Or.inr (Or.inr (Or.inr (Or.inl h2))))) (fun g2 => (Or.elim g2 (fun h3 => (Or.inr (Or.inr (Or.inr (Or.inr (Or.inl h3)))))) (fun g3 => (Or.elim g3 (fun h4 => (Or.inr (Or.inr (Or.inr (Or.inr (Or.inr (Or.inl h4))))))) (fun g4 => (Or.elim g4 (fun h5 => (Or.inr (Or.inr (Or.inr (Or.inr (Or.inr (Or.inr (Or.inl h5)))))))) (fun g5 => (Or.inr (Or.inr (Or.inr (Or.inr (Or.inr (Or.inr (Or.inr g5)))))))))))))))))))))
  by_cases hc3z : r2.1 = (-1)
  · rw [if_pos hc3z] at h
    obtain rfl := Option.some.inj h
    exact z2
  · rw [if_neg hc3z] at h
    obtain ⟨r4, h_r4, h⟩ := Option.bind_eq_some_iff.mp h
    have z3 : mx_out (WSX5_readPair a p0) m r4.2 := mx_out.tr z2 (mx_out.sub (ZX10_pointHere h_r4) (fun b j hb => (Or.elim hb (fun h0 => (Or.inr (Or.inl h0))) (fun g0 => (Or.inr (Or.inr (Or.inl g0)))))))
    by_cases hc5z : r4.1 = (-1)
    · rw [if_pos hc5z] at h
      obtain rfl := Option.some.inj h
      exact z3
    · rw [if_neg hc5z] at h
      obtain ⟨r6, h_r6, h⟩ := Option.bind_eq_some_iff.mp h
      have z4 : mx_out (WSX5_readPair a p0) m r6.2 := mx_out.tr z3 (mx_out.sub (ZX4_pairUp h_r6) (fun b j hb => (Or.inl hb)))
      by_cases hc7z : r6.1 = 0
      · rw [if_pos hc7z] at h
        obtain ⟨r8, h_r8, h⟩ := Option.bind_eq_some_iff.mp h
        have z5 : mx_out (WSX5_readPair a p0) m r8 := mx_out.tr z4 (mx_out.sub (ZX10_advance h_r8) (fun b j hb => (Or.elim hb (fun h0 => (Or.inr (Or.inr (Or.inr (Or.inl h0))))) (fun g0 => (Or.elim g0 (fun h1 => (Or.inr (Or.inr (Or.inr (Or.inr (Or.inl h1)))))) (fun g1 => (Or.elim g1 (fun h2 => (Or.inr (Or.inr (Or.inr (Or.inr (Or.inr (Or.inl h2))))))) (fun g2 => (Or.elim g2 (fun h3 => (Or.inr (Or.inr (Or.inr (Or.inr (Or.inr (Or.inr (Or.inl h3)))))))) (fun g3 => (Or.inr (Or.inr (Or.inr (Or.inr (Or.inr (Or.inr (Or.inr g3)))))))))))))))))
        obtain rfl := Option.some.inj h
        exact z5
      · rw [if_neg hc7z] at h
        obtain ⟨r9, h_r9, h⟩ := Option.bind_eq_some_iff.mp h
        have z6 : mx_out (WSX5_readPair a p0) m r9.2 := mx_out.tr z4 (mx_out.sub (ZX10_fail h_r9) (fun b j hb => (Or.elim hb (fun h0 => (Or.inr (Or.inl h0))) (fun g0 => (Or.inr (Or.inr (Or.inl g0)))))))
        obtain ⟨-, h⟩ := mx_chkE h
        obtain rfl := Option.some.inj h
        exact z6
set_option maxRecDepth 20000 in
theorem ZX5_readPrice {a : Nat} {p0 : Nat} {m : mB} {r : (Int32 × mB)} (h : FX5_readPrice a p0 m = some r) : mx_out (WSX5_readPrice a p0) m r.2 := by
  unfold FX5_readPrice at h
  have z0 : mx_out (WSX5_readPrice a p0) m m := mx_out.rf
  obtain ⟨r1, h_r1, h⟩ := Option.bind_eq_some_iff.mp h
  have z1 : mx_out (WSX5_readPrice a p0) m r1 := mx_out.tr z0 (mx_out.sub (ZX10_advance h_r1) (fun b j hb => (Or.elim hb (fun h0 => (Or.inr (Or.inr (Or.inr (Or.inr (Or.inl h0)))))) (fun g0 => (Or.elim g0 (fun h1 => (Or.inr (Or.inr (Or.inr (Or.inr (Or.inr (Or.inl h1))))))) (fun g1 => (Or.elim g1 (fun h2 => (Or.inr (Or.inr (Or.inr (Or.inr (Or.inr (Or.inr (Or.inl h2)))))))) (fun g2 => (Or.elim g2 (fun h3 => (Or.inr (Or.inr (Or.inr (Or.inr (Or.inr (Or.inr (Or.inr (Or.inl h3))))))))) (fun g3 => (Or.inr (Or.inr (Or.inr (Or.inr (Or.inr (Or.inr (Or.inr (Or.inr g3))))))))))))))))))
  obtain ⟨r2, h_r2, h⟩ := Option.bind_eq_some_iff.mp h
  have z2 : mx_out (WSX5_readPrice a p0) m r2.2 := mx_out.tr z1 (mx_out.sub (ZX10_pointHere h_r2) (fun b j hb => (Or.elim hb (fun h0 => (Or.inr (Or.inr (Or.inl h0)))) (fun g0 => (Or.inr (Or.inr (Or.inr (Or.inl g0))))))))
  by_cases hc3z : r2.1 = (-1)
  · rw [if_pos hc3z] at h
    obtain rfl := Option.some.inj h
    exact z2
  · rw [if_neg hc3z] at h
    by_cases hc4z : (((r2.2.1 a 2) >>> (r2.1 &&& 31)) &&& 1) = 0
    · rw [if_pos hc4z] at h
      obtain ⟨r5, h_r5, h⟩ := Option.bind_eq_some_iff.mp h
      have z3 : mx_out (WSX5_readPrice a p0) m r5 := mx_out.tr z2 (mx_out.sub (ZX10_advance h_r5) (fun b j hb => (Or.elim hb (fun h0 => (Or.inr (Or.inr (Or.inr (Or.inr (Or.inl h0)))))) (fun g0 => (Or.elim g0 (fun h1 => (Or.inr (Or.inr (Or.inr (Or.inr (Or.inr (Or.inl h1))))))) (fun g1 => (Or.elim g1 (fun h2 => (Or.inr (Or.inr (Or.inr (Or.inr (Or.inr (Or.inr (Or.inl h2)))))))) (fun g2 => (Or.elim g2 (fun h3 => (Or.inr (Or.inr (Or.inr (Or.inr (Or.inr (Or.inr (Or.inr (Or.inl h3))))))))) (fun g3 => (Or.inr (Or.inr (Or.inr (Or.inr (Or.inr (Or.inr (Or.inr (Or.inr g3))))))))))))))))))
      obtain ⟨r6, h_r6, h⟩ := Option.bind_eq_some_iff.mp h
      have z4 : mx_out (WSX5_readPrice a p0) m r6.2 := mx_out.tr z3 (mx_out.sub (ZX10_takeNumber h_r6) (fun b j hb => (Or.elim hb (fun h0 => (Or.inr (Or.inr (Or.inl h0)))) (fun g0 => (Or.elim g0 (fun h1 => (Or.inr (Or.inr (Or.inr (Or.inl h1))))) (fun g1 => (Or.elim g1 (fun h2 => (Or.inr (Or.inr (Or.inr (Or.inr (Or.inl h2)))))) (fun g2 => (Or.elim g2 (fun h3 => (Or.inr (Or.inr (Or.inr (Or.inr (Or.inr (Or.inl h3))))))) (fun g3 => (Or.elim g3 (fun h4 => (Or.inr (Or.inr (Or.inr (Or.inr (Or.inr (Or.inr (Or.inl h4)))))))) (fun g4 => (Or.elim g4 (fun h5 => (Or.inr (Or.inr (Or.inr (Or.inr (Or.inr (Or.inr (Or.inr (Or.inl h5))))))))) (fun g5 => (Or.inr (Or.inr (Or.inr (Or.inr (Or.inr (Or.inr (Or.inr (Or.inr g5))))))))))))))))))))))
      by_cases hc7z : r6.1 = (-1)
      · rw [if_pos hc7z] at h
        obtain rfl := Option.some.inj h
        exact z4
      · rw [if_neg hc7z] at h
        obtain ⟨m8, e_m8, h⟩ := mx_letE h
        have z5 : mx_out (WSX5_readPrice a p0) m m8 := by first | exact mx_out_up z4 e_m8 (Or.inl ⟨rfl, rfl⟩) | exact mx_out_ul z4 e_m8 (Or.inl ⟨rfl, rfl⟩) | exact mx_out_cp z4 e_m8 (fun j => (Or.inl ⟨rfl, rfl⟩)) | exact mx_out_cl z4 e_m8 (fun j => (Or.inl ⟨rfl, rfl⟩))
        obtain ⟨r9, h_r9, h⟩ := Option.bind_eq_some_iff.mp h
        have z6 : mx_out (WSX5_readPrice a p0) m r9.2 := mx_out.tr z5 (mx_out.sub (ZX4_priceAt h_r9) (fun b j hb => (Or.inr (Or.inl hb))))
        obtain rfl := Option.some.inj h
        exact z6
    · rw [if_neg hc4z] at h
      obtain ⟨r10, h_r10, h⟩ := Option.bind_eq_some_iff.mp h
      have z7 : mx_out (WSX5_readPrice a p0) m r10.2 := mx_out.tr z2 (mx_out.sub (ZX10_fail h_r10) (fun b j hb => (Or.elim hb (fun h0 => (Or.inr (Or.inr (Or.inl h0)))) (fun g0 => (Or.inr (Or.inr (Or.inr (Or.inl g0))))))))
      obtain ⟨-, h⟩ := mx_chkE h
      obtain rfl := Option.some.inj h
      exact z7
set_option maxRecDepth 20000 in
theorem ZX5_readSet_L25 {q0 : Nat} {q1 : Nat} {y2 : Int32} : ∀ (f : Nat) {y3 : Int32} {y4 : Int32} {m : mB} {q : ((Int32 × mB) ⊕ (Int32 × mB))}, FX5_readSet_L25 q0 q1 y2 f y3 y4 m = some q → mx_out (WSX5_readSet_L25 q0 q1) m (Sum.elim (fun rr => rr.2) (fun u => u.2) q) := by
  intro f
  induction f with
  | zero => intro _ _ _ _ h; cases h
  | succ f ih =>
    intro y3 y4 m q h
    rw [FX5_readSet_L25] at h
    have z0 : mx_out (WSX5_readSet_L25 q0 q1) m m := mx_out.rf
    by_cases hc4z : 9 ≤ y4
    · rw [if_pos hc4z] at h
      obtain rfl := Option.some.inj h
      exact z0
    · rw [if_neg hc4z] at h
      obtain ⟨r5, h_r5, h⟩ := Option.bind_eq_some_iff.mp h
      refine mx_letK (J := fun k7 => k7 = some q → mx_out (WSX5_readSet_L25 q0 q1) m (Sum.elim (fun rr => rr.2) (fun u => u.2) q)) h ?_ (fun k7 z_k7 h => ?_)
      · intro h
        obtain ⟨r8, h_r8, h⟩ := Option.bind_eq_some_iff.mp h
        have z2 : mx_out (WSX5_readSet_L25 q0 q1) m r8.2 := mx_out.tr z0 (mx_out.sub (ZX10_pointHere h_r8) (fun b j hb => (Or.elim hb (fun h0 => (Or.inl h0)) (fun g0 => (Or.inr (Or.inl g0))))))
        by_cases hc9z : r8.1 = (-1)
        · rw [if_pos hc9z] at h
          obtain rfl := Option.some.inj h
          exact z2
        · rw [if_neg hc9z] at h
          by_cases hc10z : ((y3 >>> (r8.1 &&& 31)) &&& 1) = 0
          · rw [if_pos hc10z] at h
            obtain ⟨v11, -, h⟩ := mx_letE h
            obtain ⟨r12, h_r12, h⟩ := Option.bind_eq_some_iff.mp h
            have z3 : mx_out (WSX5_readSet_L25 q0 q1) m r12 := mx_out.tr z2 (mx_out.sub (ZX10_advance h_r12) (fun b j hb => (Or.elim hb (fun h0 => (Or.inr (Or.inr (Or.inl h0)))) (fun g0 => (Or.elim g0 (fun h1 => (Or.inr (Or.inr (Or.inr (Or.inl h1))))) (fun g1 => (Or.elim g1 (fun h2 => (Or.inr (Or.inr (Or.inr (Or.inr (Or.inl h2)))))) (fun g2 => (Or.elim g2 (fun h3 => (Or.inr (Or.inr (Or.inr (Or.inr (Or.inr (Or.inl h3))))))) (fun g3 => (Or.inr (Or.inr (Or.inr (Or.inr (Or.inr (Or.inr g3))))))))))))))))
            obtain ⟨v13, -, h⟩ := mx_letE h
            exact mx_out.tr z3 (ih h)
          · rw [if_neg hc10z] at h
            obtain ⟨r14, h_r14, h⟩ := Option.bind_eq_some_iff.mp h
            have z4 : mx_out (WSX5_readSet_L25 q0 q1) m r14.2 := mx_out.tr z2 (mx_out.sub (ZX10_fail h_r14) (fun b j hb => (Or.elim hb (fun h0 => (Or.inl h0)) (fun g0 => (Or.inr (Or.inl g0))))))
            obtain ⟨-, h⟩ := mx_chkE h
            obtain rfl := Option.some.inj h
            exact z4
      by_cases hc6z : r5 = 59
      · rw [if_pos hc6z] at h
        by_cases hc16z : y4 < 3
        · rw [if_pos hc16z] at h
          exact z_k7 h
        · rw [if_neg hc16z] at h
          by_cases hc17z : (y4 - y4 / 2 * 2) = 1
          · rw [if_pos hc17z] at h
            obtain rfl := Option.some.inj h
            exact z0
          · rw [if_neg hc17z] at h
            exact z_k7 h
      · rw [if_neg hc6z] at h
        exact z_k7 h
set_option maxRecDepth 20000 in
theorem ZX5_readSet {a : Nat} {p0 : Nat} {m : mB} {r : (Int32 × mB)} (h : FX5_readSet a p0 m = some r) : mx_out (WSX5_readSet a p0) m r.2 := by
  unfold FX5_readSet at h
  have z0 : mx_out (WSX5_readSet a p0) m m := mx_out.rf
  obtain ⟨r1, h_r1, h⟩ := Option.bind_eq_some_iff.mp h
  have z5 : mx_out (WSX5_readSet a p0) m r1 := mx_out.tr z0 (mx_out.sub (ZX10_advance h_r1) (fun b j hb => (Or.elim hb (fun h0 => (Or.inr (Or.inr (Or.inr (Or.inr (Or.inr (Or.inl h0))))))) (fun g0 => (Or.elim g0 (fun h1 => (Or.inr (Or.inr (Or.inr (Or.inr (Or.inr (Or.inr (Or.inl h1)))))))) (fun g1 => (Or.elim g1 (fun h2 => (Or.inr (Or.inr (Or.inr (Or.inr (Or.inr (Or.inr (Or.inr (Or.inl h2))))))))) (fun g2 => (Or.elim g2 (fun h3 => (Or.inr (Or.inr (Or.inr (Or.inr (Or.inr (Or.inr (Or.inr (Or.inr (Or.inl h3)))))))))) (fun g3 => (Or.inr (Or.inr (Or.inr (Or.inr (Or.inr (Or.inr (Or.inr (Or.inr (Or.inr g3)))))))))))))))))))
  obtain ⟨r2, h_r2, h⟩ := Option.bind_eq_some_iff.mp h
  have z6 : mx_out (WSX5_readSet a p0) m r2.2 := mx_out.tr z5 (mx_out.sub (ZX10_takeNumber h_r2) (fun b j hb => (Or.elim hb (fun h0 => (Or.inr (Or.inr (Or.inr (Or.inl h0))))) (fun g0 => (Or.elim g0 (fun h1 => (Or.inr (Or.inr (Or.inr (Or.inr (Or.inl h1)))))) (fun g1 => (Or.elim g1 (fun h2 => (Or.inr (Or.inr (Or.inr (Or.inr (Or.inr (Or.inl h2))))))) (fun g2 => (Or.elim g2 (fun h3 => (Or.inr (Or.inr (Or.inr (Or.inr (Or.inr (Or.inr (Or.inl h3)))))))) (fun g3 => (Or.elim g3 (fun h4 => (Or.inr (Or.inr (Or.inr (Or.inr (Or.inr (Or.inr (Or.inr (Or.inl h4))))))))) (fun g4 => (Or.elim g4 (fun h5 => (Or.inr (Or.inr (Or.inr (Or.inr (Or.inr (Or.inr (Or.inr (Or.inr (Or.inl h5)))))))))) (fun g5 => (Or.inr (Or.inr (Or.inr (Or.inr (Or.inr (Or.inr (Or.inr (Or.inr (Or.inr g5)))))))))))))))))))))))
  by_cases hc3z : r2.1 = (-1)
  · rw [if_pos hc3z] at h
    obtain rfl := Option.some.inj h
    exact z6
  · rw [if_neg hc3z] at h
    obtain ⟨q18, h_q18, h⟩ := Option.bind_eq_some_iff.mp h
    have z7 := mx_out.tr z6 (mx_out.sub (S := (WSX5_readSet a p0)) (ZX5_readSet_L25 mx_FU h_q18) (fun b j hb => (Or.elim hb (fun h0 => (Or.inr (Or.inr (Or.inr (Or.inl h0))))) (fun g0 => (Or.elim g0 (fun h1 => (Or.inr (Or.inr (Or.inr (Or.inr (Or.inl h1)))))) (fun g1 => (Or.elim g1 (fun h2 => (Or.inr (Or.inr (Or.inr (Or.inr (Or.inr (Or.inl h2))))))) (fun g2 => (Or.elim g2 (fun h3 => (Or.inr (Or.inr (Or.inr (Or.inr (Or.inr (Or.inr (Or.inl h3)))))))) (fun g3 => (Or.elim g3 (fun h4 => (Or.inr (Or.inr (Or.inr (Or.inr (Or.inr (Or.inr (Or.inr (Or.inl h4))))))))) (fun g4 => (Or.elim g4 (fun h5 => (Or.inr (Or.inr (Or.inr (Or.inr (Or.inr (Or.inr (Or.inr (Or.inr (Or.inl h5)))))))))) (fun g5 => (Or.inr (Or.inr (Or.inr (Or.inr (Or.inr (Or.inr (Or.inr (Or.inr (Or.inr g5)))))))))))))))))))))))
    rcases q18 with rr20 | u19
    · rw [Sum.elim_inl] at h
      obtain rfl := Option.some.inj h
      exact z7
    · rw [Sum.elim_inr] at h
      obtain ⟨r21, h_r21, h⟩ := Option.bind_eq_some_iff.mp h
      by_cases hc22z : r21 = 59
      · rw [if_pos hc22z] at h
        obtain ⟨r24, h_r24, h⟩ := Option.bind_eq_some_iff.mp h
        by_cases hc25z : r24 = (-1)
        · rw [if_pos hc25z] at h
          obtain ⟨r26, h_r26, h⟩ := Option.bind_eq_some_iff.mp h
          have z8 : mx_out (WSX5_readSet a p0) m r26 := mx_out.tr z7 (mx_out.sub (ZX4_addSet h_r26) (fun b j hb => (Or.elim hb (fun h0 => (Or.inl h0)) (fun g0 => (Or.elim g0 (fun h1 => (Or.inr (Or.inr (Or.inl h1)))) (fun g1 => (Or.inr (Or.inl g1))))))))
          obtain rfl := Option.some.inj h
          exact z8
        · rw [if_neg hc25z] at h
          obtain ⟨r27, h_r27, h⟩ := Option.bind_eq_some_iff.mp h
          have z9 : mx_out (WSX5_readSet a p0) m r27.2 := mx_out.tr z7 (mx_out.sub (ZX10_fail h_r27) (fun b j hb => (Or.elim hb (fun h0 => (Or.inr (Or.inr (Or.inr (Or.inl h0))))) (fun g0 => (Or.inr (Or.inr (Or.inr (Or.inr (Or.inl g0)))))))))
          obtain ⟨-, h⟩ := mx_chkE h
          obtain rfl := Option.some.inj h
          exact z9
      · rw [if_neg hc22z] at h
        obtain ⟨r23, h_r23, h⟩ := Option.bind_eq_some_iff.mp h
        have z10 : mx_out (WSX5_readSet a p0) m r23 := mx_out.tr z7 (mx_out.sub (ZX4_addSet h_r23) (fun b j hb => (Or.elim hb (fun h0 => (Or.inl h0)) (fun g0 => (Or.elim g0 (fun h1 => (Or.inr (Or.inr (Or.inl h1)))) (fun g1 => (Or.inr (Or.inl g1))))))))
        obtain rfl := Option.some.inj h
        exact z10
set_option maxRecDepth 20000 in
theorem ZX5_readLine {a : Nat} {p0 : Nat} {m : mB} {r : (Int32 × mB)} (h : FX5_readLine a p0 m = some r) : mx_out (WSX5_readLine a p0) m r.2 := by
  unfold FX5_readLine at h
  have z0 : mx_out (WSX5_readLine a p0) m m := mx_out.rf
  obtain ⟨r1, h_r1, h⟩ := Option.bind_eq_some_iff.mp h
  by_cases hc2 : r1 = 100
  · rw [if_pos hc2] at h
    obtain ⟨r3, h_r3, h⟩ := Option.bind_eq_some_iff.mp h
    by_cases hc4z : 10 ≤ r3
    · rw [if_pos hc4z] at h
      obtain ⟨r5, h_r5, h⟩ := Option.bind_eq_some_iff.mp h
      have z1 : mx_out (WSX5_readLine a p0) m r5.2 := mx_out.tr z0 (mx_out.sub (ZX10_fail h_r5) (fun b j hb => (Or.elim hb (fun h0 => (Or.inr (Or.inr (Or.inr (Or.inr (Or.inr (Or.inr (Or.inr (Or.inr (Or.inr (Or.inr (Or.inr (Or.inr (Or.inr (Or.inr (Or.inl h0)))))))))))))))) (fun g0 => (Or.inr (Or.inr (Or.inr (Or.inr (Or.inr (Or.inr (Or.inr (Or.inr (Or.inr (Or.inr (Or.inr (Or.inr (Or.inr (Or.inr (Or.inr (Or.inl g0))))))))))))))))))))
      obtain ⟨-, h⟩ := mx_chkE h
      obtain rfl := Option.some.inj h
      exact z1
    · rw [if_neg hc4z] at h
      obtain ⟨r7, h_r7, h⟩ := Option.bind_eq_some_iff.mp h
      have z2 : mx_out (WSX5_readLine a p0) m r7.2 := mx_out.tr z0 (mx_out.sub (ZX5_readPoint h_r7) (fun b j hb => (Or.elim hb (fun h0 => (Or.inr (Or.inl h0))) (fun g0 => (Or.elim g0 (fun h1 => (Or.inr (Or.inr (Or.inr (Or.inr (Or.inr (Or.inr (Or.inl h1)))))))) (fun g1 => (Or.elim g1 (fun h2 => (Or.inr (Or.inr (Or.inr (Or.inr (Or.inr (Or.inr (Or.inr (Or.inl h2))))))))) (fun g2 => (Or.elim g2 (fun h3 => (Or.inr (Or.inr (Or.inr (Or.inr (Or.inr (Or.inr (Or.inr (Or.inr (Or.inl h3)))))))))) (fun g3 => (Or.elim g3 (fun h4 => (Or.inr (Or.inr (Or.inr (Or.inr (Or.inr (Or.inr (Or.inr (Or.inr (Or.inr (Or.inl h4))))))))))) (fun g4 => (Or.elim g4 (fun h5 => (Or.inr (Or.inr (Or.inr (Or.inr (Or.inr (Or.inr (Or.inr (Or.inr (Or.inr (Or.inr (Or.inr (Or.inr (Or.inr (Or.inr (Or.inl h5)))))))))))))))) (fun g5 => (Or.elim g5 (fun h6 => (Or.inr (Or.inr (Or.inr (Or.inr (Or.inr (Or.inr (Or.inr (Or.inr (Or.inr (Or.inr (Or.inr (Or.inr (Or.inr (Or.inr (Or.inr (Or.inl h6))))))))))))))))) (fun g6 => (Or.elim g6 (fun h7 => (Or.inr (Or.inr (Or.inr (Or.inr (Or.inr (Or.inr (Or.inr (Or.inr (Or.inr (Or.inr (Or.inr (Or.inr (Or.inr (Or.inr (Or.inr (Or.inr (Or.inl h7)))))))))))))))))) (fun g7 => (Or.elim g7 (fun h8 => (Or.inr (Or.inr (Or.inr (Or.inr (Or.inr (Or.inr (Or.inr (Or.inr (Or.inr (Or.inr (Or.inr (Or.inr (Or.inr (Or.inr (Or.inr (Or.inr (Or.inr (Or.inl h8))))))))))))))))))) (fun g8 => (Or.elim g8 (fun h9 => (Or.inr (Or.inr (Or.inr (Or.inr (Or.inr (Or.inr (Or.inr (Or.inr (Or.inr (Or.inr (Or.inr (Or.inr (Or.inr (Or.inr (Or.inr (Or.inr (Or.inr (Or.inr (Or.inl h9)))))))))))))))))))) (fun g9 => (Or.elim g9 (fun h10 => (Or.inr (Or.inr (Or.inr (Or.inr (Or.inr (Or.inr (Or.inr (Or.inr (Or.inr (Or.inr (Or.inr (Or.inr (Or.inr (Or.inr (Or.inr (Or.inr (Or.inr (Or.inr (Or.inr (Or.inl h10))))))))))))))))))))) (fun g10 => (Or.inr (Or.inr (Or.inr (Or.inr (Or.inr (Or.inr (Or.inr (Or.inr (Or.inr (Or.inr (Or.inr (Or.inr (Or.inr (Or.inr (Or.inr (Or.inr (Or.inr (Or.inr (Or.inr (Or.inr g10))))))))))))))))))))))))))))))))))))))))))))
      obtain ⟨-, h⟩ := mx_chkE h
      obtain rfl := Option.some.inj h
      exact z2
  · rw [if_neg hc2] at h
    by_cases hc9 : r1 = 101
    · rw [if_pos hc9] at h
      obtain ⟨r10, h_r10, h⟩ := Option.bind_eq_some_iff.mp h
      by_cases hc11z : 30 ≤ r10
      · rw [if_pos hc11z] at h
        obtain ⟨r12, h_r12, h⟩ := Option.bind_eq_some_iff.mp h
        have z3 : mx_out (WSX5_readLine a p0) m r12.2 := mx_out.tr z0 (mx_out.sub (ZX10_fail h_r12) (fun b j hb => (Or.elim hb (fun h0 => (Or.inr (Or.inr (Or.inr (Or.inr (Or.inr (Or.inr (Or.inr (Or.inr (Or.inr (Or.inr (Or.inr (Or.inr (Or.inr (Or.inr (Or.inl h0)))))))))))))))) (fun g0 => (Or.inr (Or.inr (Or.inr (Or.inr (Or.inr (Or.inr (Or.inr (Or.inr (Or.inr (Or.inr (Or.inr (Or.inr (Or.inr (Or.inr (Or.inr (Or.inl g0))))))))))))))))))))
        obtain ⟨-, h⟩ := mx_chkE h
        obtain rfl := Option.some.inj h
        exact z3
      · rw [if_neg hc11z] at h
        obtain ⟨r14, h_r14, h⟩ := Option.bind_eq_some_iff.mp h
        have z4 : mx_out (WSX5_readLine a p0) m r14.2 := mx_out.tr z0 (mx_out.sub (ZX5_readLink h_r14) (fun b j hb => (Or.elim hb (fun h0 => (Or.inr (Or.inr (Or.inl h0)))) (fun g0 => (Or.elim g0 (fun h1 => (Or.inr (Or.inr (Or.inr (Or.inr (Or.inr (Or.inr (Or.inr (Or.inl h1))))))))) (fun g1 => (Or.elim g1 (fun h2 => (Or.inr (Or.inr (Or.inr (Or.inr (Or.inr (Or.inr (Or.inr (Or.inr (Or.inr (Or.inr (Or.inl h2)))))))))))) (fun g2 => (Or.elim g2 (fun h3 => (Or.inr (Or.inr (Or.inr (Or.inr (Or.inr (Or.inr (Or.inr (Or.inr (Or.inr (Or.inr (Or.inr (Or.inl h3))))))))))))) (fun g3 => (Or.elim g3 (fun h4 => (Or.inr (Or.inr (Or.inr (Or.inr (Or.inr (Or.inr (Or.inr (Or.inr (Or.inr (Or.inr (Or.inr (Or.inr (Or.inl h4)))))))))))))) (fun g4 => (Or.elim g4 (fun h5 => (Or.inr (Or.inr (Or.inr (Or.inr (Or.inr (Or.inr (Or.inr (Or.inr (Or.inr (Or.inr (Or.inr (Or.inr (Or.inr (Or.inl h5))))))))))))))) (fun g5 => (Or.elim g5 (fun h6 => (Or.inr (Or.inr (Or.inr (Or.inr (Or.inr (Or.inr (Or.inr (Or.inr (Or.inr (Or.inr (Or.inr (Or.inr (Or.inr (Or.inr (Or.inl h6)))))))))))))))) (fun g6 => (Or.elim g6 (fun h7 => (Or.inr (Or.inr (Or.inr (Or.inr (Or.inr (Or.inr (Or.inr (Or.inr (Or.inr (Or.inr (Or.inr (Or.inr (Or.inr (Or.inr (Or.inr (Or.inl h7))))))))))))))))) (fun g7 => (Or.elim g7 (fun h8 => (Or.inr (Or.inr (Or.inr (Or.inr (Or.inr (Or.inr (Or.inr (Or.inr (Or.inr (Or.inr (Or.inr (Or.inr (Or.inr (Or.inr (Or.inr (Or.inr (Or.inl h8)))))))))))))))))) (fun g8 => (Or.elim g8 (fun h9 => (Or.inr (Or.inr (Or.inr (Or.inr (Or.inr (Or.inr (Or.inr (Or.inr (Or.inr (Or.inr (Or.inr (Or.inr (Or.inr (Or.inr (Or.inr (Or.inr (Or.inr (Or.inl h9))))))))))))))))))) (fun g9 => (Or.elim g9 (fun h10 => (Or.inr (Or.inr (Or.inr (Or.inr (Or.inr (Or.inr (Or.inr (Or.inr (Or.inr (Or.inr (Or.inr (Or.inr (Or.inr (Or.inr (Or.inr (Or.inr (Or.inr (Or.inr (Or.inl h10)))))))))))))))))))) (fun g10 => (Or.elim g10 (fun h11 => (Or.inr (Or.inr (Or.inr (Or.inr (Or.inr (Or.inr (Or.inr (Or.inr (Or.inr (Or.inr (Or.inr (Or.inr (Or.inr (Or.inr (Or.inr (Or.inr (Or.inr (Or.inr (Or.inr (Or.inl h11))))))))))))))))))))) (fun g11 => (Or.inr (Or.inr (Or.inr (Or.inr (Or.inr (Or.inr (Or.inr (Or.inr (Or.inr (Or.inr (Or.inr (Or.inr (Or.inr (Or.inr (Or.inr (Or.inr (Or.inr (Or.inr (Or.inr (Or.inr g11))))))))))))))))))))))))))))))))))))))))))))))
        obtain ⟨-, h⟩ := mx_chkE h
        obtain rfl := Option.some.inj h
        exact z4
    · rw [if_neg hc9] at h
      by_cases hc16 : r1 = 102
      · rw [if_pos hc16] at h
        obtain ⟨r17, h_r17, h⟩ := Option.bind_eq_some_iff.mp h
        have z5 : mx_out (WSX5_readLine a p0) m r17.2 := mx_out.tr z0 (mx_out.sub (ZX5_readPair h_r17) (fun b j hb => (Or.elim hb (fun h0 => (Or.inr (Or.inr (Or.inr (Or.inr (Or.inr (Or.inr (Or.inr (Or.inr (Or.inl h0)))))))))) (fun g0 => (Or.elim g0 (fun h1 => (Or.inr (Or.inr (Or.inr (Or.inr (Or.inr (Or.inr (Or.inr (Or.inr (Or.inr (Or.inr (Or.inr (Or.inr (Or.inr (Or.inr (Or.inl h1)))))))))))))))) (fun g1 => (Or.elim g1 (fun h2 => (Or.inr (Or.inr (Or.inr (Or.inr (Or.inr (Or.inr (Or.inr (Or.inr (Or.inr (Or.inr (Or.inr (Or.inr (Or.inr (Or.inr (Or.inr (Or.inl h2))))))))))))))))) (fun g2 => (Or.elim g2 (fun h3 => (Or.inr (Or.inr (Or.inr (Or.inr (Or.inr (Or.inr (Or.inr (Or.inr (Or.inr (Or.inr (Or.inr (Or.inr (Or.inr (Or.inr (Or.inr (Or.inr (Or.inl h3)))))))))))))))))) (fun g3 => (Or.elim g3 (fun h4 => (Or.inr (Or.inr (Or.inr (Or.inr (Or.inr (Or.inr (Or.inr (Or.inr (Or.inr (Or.inr (Or.inr (Or.inr (Or.inr (Or.inr (Or.inr (Or.inr (Or.inr (Or.inl h4))))))))))))))))))) (fun g4 => (Or.elim g4 (fun h5 => (Or.inr (Or.inr (Or.inr (Or.inr (Or.inr (Or.inr (Or.inr (Or.inr (Or.inr (Or.inr (Or.inr (Or.inr (Or.inr (Or.inr (Or.inr (Or.inr (Or.inr (Or.inr (Or.inl h5)))))))))))))))))))) (fun g5 => (Or.elim g5 (fun h6 => (Or.inr (Or.inr (Or.inr (Or.inr (Or.inr (Or.inr (Or.inr (Or.inr (Or.inr (Or.inr (Or.inr (Or.inr (Or.inr (Or.inr (Or.inr (Or.inr (Or.inr (Or.inr (Or.inr (Or.inl h6))))))))))))))))))))) (fun g6 => (Or.inr (Or.inr (Or.inr (Or.inr (Or.inr (Or.inr (Or.inr (Or.inr (Or.inr (Or.inr (Or.inr (Or.inr (Or.inr (Or.inr (Or.inr (Or.inr (Or.inr (Or.inr (Or.inr (Or.inr g6))))))))))))))))))))))))))))))))))))
        obtain ⟨-, h⟩ := mx_chkE h
        obtain rfl := Option.some.inj h
        exact z5
      · rw [if_neg hc16] at h
        by_cases hc19 : r1 = 103
        · rw [if_pos hc19] at h
          obtain ⟨r20, h_r20, h⟩ := Option.bind_eq_some_iff.mp h
          have z6 : mx_out (WSX5_readLine a p0) m r20.2 := mx_out.tr z0 (mx_out.sub (ZX5_readPrice h_r20) (fun b j hb => (Or.elim hb (fun h0 => (Or.inl h0)) (fun g0 => (Or.elim g0 (fun h1 => (Or.inr (Or.inr (Or.inr (Or.inr (Or.inr (Or.inr (Or.inr (Or.inr (Or.inr (Or.inl h1))))))))))) (fun g1 => (Or.elim g1 (fun h2 => (Or.inr (Or.inr (Or.inr (Or.inr (Or.inr (Or.inr (Or.inr (Or.inr (Or.inr (Or.inr (Or.inr (Or.inr (Or.inr (Or.inr (Or.inl h2)))))))))))))))) (fun g2 => (Or.elim g2 (fun h3 => (Or.inr (Or.inr (Or.inr (Or.inr (Or.inr (Or.inr (Or.inr (Or.inr (Or.inr (Or.inr (Or.inr (Or.inr (Or.inr (Or.inr (Or.inr (Or.inl h3))))))))))))))))) (fun g3 => (Or.elim g3 (fun h4 => (Or.inr (Or.inr (Or.inr (Or.inr (Or.inr (Or.inr (Or.inr (Or.inr (Or.inr (Or.inr (Or.inr (Or.inr (Or.inr (Or.inr (Or.inr (Or.inr (Or.inl h4)))))))))))))))))) (fun g4 => (Or.elim g4 (fun h5 => (Or.inr (Or.inr (Or.inr (Or.inr (Or.inr (Or.inr (Or.inr (Or.inr (Or.inr (Or.inr (Or.inr (Or.inr (Or.inr (Or.inr (Or.inr (Or.inr (Or.inr (Or.inl h5))))))))))))))))))) (fun g5 => (Or.elim g5 (fun h6 => (Or.inr (Or.inr (Or.inr (Or.inr (Or.inr (Or.inr (Or.inr (Or.inr (Or.inr (Or.inr (Or.inr (Or.inr (Or.inr (Or.inr (Or.inr (Or.inr (Or.inr (Or.inr (Or.inl h6)))))))))))))))))))) (fun g6 => (Or.elim g6 (fun h7 => (Or.inr (Or.inr (Or.inr (Or.inr (Or.inr (Or.inr (Or.inr (Or.inr (Or.inr (Or.inr (Or.inr (Or.inr (Or.inr (Or.inr (Or.inr (Or.inr (Or.inr (Or.inr (Or.inr (Or.inl h7))))))))))))))))))))) (fun g7 => (Or.inr (Or.inr (Or.inr (Or.inr (Or.inr (Or.inr (Or.inr (Or.inr (Or.inr (Or.inr (Or.inr (Or.inr (Or.inr (Or.inr (Or.inr (Or.inr (Or.inr (Or.inr (Or.inr (Or.inr g7))))))))))))))))))))))))))))))))))))))
          obtain ⟨-, h⟩ := mx_chkE h
          obtain rfl := Option.some.inj h
          exact z6
        · rw [if_neg hc19] at h
          by_cases hc22 : r1 = 104
          · rw [if_pos hc22] at h
            obtain ⟨r23, h_r23, h⟩ := Option.bind_eq_some_iff.mp h
            by_cases hc24z : 6 ≤ r23
            · rw [if_pos hc24z] at h
              obtain ⟨r25, h_r25, h⟩ := Option.bind_eq_some_iff.mp h
              have z7 : mx_out (WSX5_readLine a p0) m r25.2 := mx_out.tr z0 (mx_out.sub (ZX10_fail h_r25) (fun b j hb => (Or.elim hb (fun h0 => (Or.inr (Or.inr (Or.inr (Or.inr (Or.inr (Or.inr (Or.inr (Or.inr (Or.inr (Or.inr (Or.inr (Or.inr (Or.inr (Or.inr (Or.inl h0)))))))))))))))) (fun g0 => (Or.inr (Or.inr (Or.inr (Or.inr (Or.inr (Or.inr (Or.inr (Or.inr (Or.inr (Or.inr (Or.inr (Or.inr (Or.inr (Or.inr (Or.inr (Or.inl g0))))))))))))))))))))
              obtain ⟨-, h⟩ := mx_chkE h
              obtain rfl := Option.some.inj h
              exact z7
            · rw [if_neg hc24z] at h
              obtain ⟨r27, h_r27, h⟩ := Option.bind_eq_some_iff.mp h
              have z8 : mx_out (WSX5_readLine a p0) m r27.2 := mx_out.tr z0 (mx_out.sub (ZX5_readSet h_r27) (fun b j hb => (Or.elim hb (fun h0 => (Or.inr (Or.inr (Or.inr (Or.inl h0))))) (fun g0 => (Or.elim g0 (fun h1 => (Or.inr (Or.inr (Or.inr (Or.inr (Or.inl h1)))))) (fun g1 => (Or.elim g1 (fun h2 => (Or.inr (Or.inr (Or.inr (Or.inr (Or.inr (Or.inl h2))))))) (fun g2 => (Or.elim g2 (fun h3 => (Or.inr (Or.inr (Or.inr (Or.inr (Or.inr (Or.inr (Or.inr (Or.inr (Or.inr (Or.inr (Or.inr (Or.inr (Or.inr (Or.inr (Or.inl h3)))))))))))))))) (fun g3 => (Or.elim g3 (fun h4 => (Or.inr (Or.inr (Or.inr (Or.inr (Or.inr (Or.inr (Or.inr (Or.inr (Or.inr (Or.inr (Or.inr (Or.inr (Or.inr (Or.inr (Or.inr (Or.inl h4))))))))))))))))) (fun g4 => (Or.elim g4 (fun h5 => (Or.inr (Or.inr (Or.inr (Or.inr (Or.inr (Or.inr (Or.inr (Or.inr (Or.inr (Or.inr (Or.inr (Or.inr (Or.inr (Or.inr (Or.inr (Or.inr (Or.inl h5)))))))))))))))))) (fun g5 => (Or.elim g5 (fun h6 => (Or.inr (Or.inr (Or.inr (Or.inr (Or.inr (Or.inr (Or.inr (Or.inr (Or.inr (Or.inr (Or.inr (Or.inr (Or.inr (Or.inr (Or.inr (Or.inr (Or.inr (Or.inl h6))))))))))))))))))) (fun g6 => (Or.elim g6 (fun h7 => (Or.inr (Or.inr (Or.inr (Or.inr (Or.inr (Or.inr (Or.inr (Or.inr (Or.inr (Or.inr (Or.inr (Or.inr (Or.inr (Or.inr (Or.inr (Or.inr (Or.inr (Or.inr (Or.inl h7)))))))))))))))))))) (fun g7 => (Or.elim g7 (fun h8 => (Or.inr (Or.inr (Or.inr (Or.inr (Or.inr (Or.inr (Or.inr (Or.inr (Or.inr (Or.inr (Or.inr (Or.inr (Or.inr (Or.inr (Or.inr (Or.inr (Or.inr (Or.inr (Or.inr (Or.inl h8))))))))))))))))))))) (fun g8 => (Or.inr (Or.inr (Or.inr (Or.inr (Or.inr (Or.inr (Or.inr (Or.inr (Or.inr (Or.inr (Or.inr (Or.inr (Or.inr (Or.inr (Or.inr (Or.inr (Or.inr (Or.inr (Or.inr (Or.inr g8))))))))))))))))))))))))))))))))))))))))
              obtain ⟨-, h⟩ := mx_chkE h
              obtain rfl := Option.some.inj h
              exact z8
          · rw [if_neg hc22] at h
            obtain ⟨r29, h_r29, h⟩ := Option.bind_eq_some_iff.mp h
            have z9 : mx_out (WSX5_readLine a p0) m r29.2 := mx_out.tr z0 (mx_out.sub (ZX10_fail h_r29) (fun b j hb => (Or.elim hb (fun h0 => (Or.inr (Or.inr (Or.inr (Or.inr (Or.inr (Or.inr (Or.inr (Or.inr (Or.inr (Or.inr (Or.inr (Or.inr (Or.inr (Or.inr (Or.inl h0)))))))))))))))) (fun g0 => (Or.inr (Or.inr (Or.inr (Or.inr (Or.inr (Or.inr (Or.inr (Or.inr (Or.inr (Or.inr (Or.inr (Or.inr (Or.inr (Or.inr (Or.inr (Or.inl g0))))))))))))))))))))
            obtain ⟨-, h⟩ := mx_chkE h
            obtain rfl := Option.some.inj h
            exact z9
set_option maxRecDepth 20000 in
theorem ZX5_read_L24 {q0 : Nat} {q1 : Nat} : ∀ (f : Nat)  {m : mB} {q : ((Int32 × mB) ⊕ (mB))}, FX5_read_L24 q0 q1 f  m = some q → mx_out (WSX5_read_L24 q0 q1) m (Sum.elim (fun rr => rr.2) (fun u => u) q) := by
  intro f
  induction f with
  | zero => intro _ _ h; cases h
  | succ f ih =>
    intro m q h
    rw [FX5_read_L24] at h
    have z0 : mx_out (WSX5_read_L24 q0 q1) m m := mx_out.rf
    by_cases hc5z : 940 ≤ (m.1 q0 1)
    · rw [if_pos hc5z] at h
      obtain rfl := Option.some.inj h
      exact z0
    · rw [if_neg hc5z] at h
      obtain ⟨r6, h_r6, h⟩ := Option.bind_eq_some_iff.mp h
      by_cases hc7z : r6 = 0
      · rw [if_pos hc7z] at h
        obtain rfl := Option.some.inj h
        exact z0
      · rw [if_neg hc7z] at h
        obtain ⟨r8, h_r8, h⟩ := Option.bind_eq_some_iff.mp h
        have z1 : mx_out (WSX5_read_L24 q0 q1) m r8.2 := mx_out.tr z0 (mx_out.sub (ZX5_readLine h_r8) (fun b j hb => (Or.elim hb (fun h0 => (Or.inr (Or.inl h0))) (fun g0 => (Or.elim g0 (fun h1 => (Or.inr (Or.inr (Or.inl h1)))) (fun g1 => (Or.elim g1 (fun h2 => (Or.inr (Or.inr (Or.inr (Or.inl h2))))) (fun g2 => (Or.elim g2 (fun h3 => (Or.inr (Or.inr (Or.inr (Or.inr (Or.inl h3)))))) (fun g3 => (Or.elim g3 (fun h4 => (Or.inr (Or.inr (Or.inr (Or.inr (Or.inr (Or.inl h4))))))) (fun g4 => (Or.elim g4 (fun h5 => (Or.inr (Or.inr (Or.inr (Or.inr (Or.inr (Or.inr (Or.inl h5)))))))) (fun g5 => (Or.elim g5 (fun h6 => (Or.inr (Or.inr (Or.inr (Or.inr (Or.inr (Or.inr (Or.inr (Or.inl h6))))))))) (fun g6 => (Or.elim g6 (fun h7 => (Or.inr (Or.inr (Or.inr (Or.inr (Or.inr (Or.inr (Or.inr (Or.inr (Or.inl h7)))))))))) (fun g7 => (Or.elim g7 (fun h8 => (Or.inr (Or.inr (Or.inr (Or.inr (Or.inr (Or.inr (Or.inr (Or.inr (Or.inr (Or.inl h8))))))))))) (fun g8 => (Or.elim g8 (fun h9 => (Or.inr (Or.inr (Or.inr (Or.inr (Or.inr (Or.inr (Or.inr (Or.inr (Or.inr (Or.inr (Or.inl h9)))))))))))) (fun g9 => (Or.elim g9 (fun h10 => (Or.inr (Or.inr (Or.inr (Or.inr (Or.inr (Or.inr (Or.inr (Or.inr (Or.inr (Or.inr (Or.inr (Or.inl h10))))))))))))) (fun g10 => (Or.elim g10 (fun h11 => (Or.inr (Or.inr (Or.inr (Or.inr (Or.inr (Or.inr (Or.inr (Or.inr (Or.inr (Or.inr (Or.inr (Or.inr (Or.inl h11)))))))))))))) (fun g11 => (Or.elim g11 (fun h12 => (Or.inr (Or.inr (Or.inr (Or.inr (Or.inr (Or.inr (Or.inr (Or.inr (Or.inr (Or.inr (Or.inr (Or.inr (Or.inr (Or.inl h12))))))))))))))) (fun g12 => (Or.elim g12 (fun h13 => (Or.inr (Or.inr (Or.inr (Or.inr (Or.inr (Or.inr (Or.inr (Or.inr (Or.inr (Or.inr (Or.inr (Or.inr (Or.inr (Or.inr (Or.inl h13)))))))))))))))) (fun g13 => (Or.elim g13 (fun h14 => (Or.inr (Or.inr (Or.inr (Or.inr (Or.inr (Or.inr (Or.inr (Or.inr (Or.inr (Or.inr (Or.inr (Or.inr (Or.inr (Or.inr (Or.inr (Or.inl h14))))))))))))))))) (fun g14 => (Or.elim g14 (fun h15 => (Or.inr (Or.inr (Or.inr (Or.inr (Or.inr (Or.inr (Or.inr (Or.inr (Or.inr (Or.inr (Or.inr (Or.inr (Or.inr (Or.inr (Or.inr (Or.inr (Or.inl h15)))))))))))))))))) (fun g15 => (Or.elim g15 (fun h16 => (Or.inr (Or.inr (Or.inr (Or.inr (Or.inr (Or.inr (Or.inr (Or.inr (Or.inr (Or.inr (Or.inr (Or.inr (Or.inr (Or.inr (Or.inr (Or.inr (Or.inr (Or.inl h16))))))))))))))))))) (fun g16 => (Or.elim g16 (fun h17 => (Or.inr (Or.inr (Or.inr (Or.inr (Or.inr (Or.inr (Or.inr (Or.inr (Or.inr (Or.inr (Or.inr (Or.inr (Or.inr (Or.inr (Or.inr (Or.inr (Or.inr (Or.inr (Or.inl h17)))))))))))))))))))) (fun g17 => (Or.elim g17 (fun h18 => (Or.inr (Or.inr (Or.inr (Or.inr (Or.inr (Or.inr (Or.inr (Or.inr (Or.inr (Or.inr (Or.inr (Or.inr (Or.inr (Or.inr (Or.inr (Or.inr (Or.inr (Or.inr (Or.inr (Or.inl h18))))))))))))))))))))) (fun g18 => (Or.elim g18 (fun h19 => (Or.inr (Or.inr (Or.inr (Or.inr (Or.inr (Or.inr (Or.inr (Or.inr (Or.inr (Or.inr (Or.inr (Or.inr (Or.inr (Or.inr (Or.inr (Or.inr (Or.inr (Or.inr (Or.inr (Or.inr (Or.inl h19)))))))))))))))))))))) (fun g19 => (Or.inr (Or.inr (Or.inr (Or.inr (Or.inr (Or.inr (Or.inr (Or.inr (Or.inr (Or.inr (Or.inr (Or.inr (Or.inr (Or.inr (Or.inr (Or.inr (Or.inr (Or.inr (Or.inr (Or.inr (Or.inr g19)))))))))))))))))))))))))))))))))))))))))))))))))))))))))))))))
        by_cases hc9z : r8.1 = 0
        · rw [if_pos hc9z] at h
          obtain rfl := Option.some.inj h
          exact z1
        · rw [if_neg hc9z] at h
          obtain ⟨r10, h_r10, h⟩ := Option.bind_eq_some_iff.mp h
          have z2 : mx_out (WSX5_read_L24 q0 q1) m r10.2 := mx_out.tr z1 (mx_out.sub (ZX10_take h_r10) (fun b j hb => (Or.elim hb (fun h0 => (Or.inr (Or.inr (Or.inr (Or.inr (Or.inr (Or.inr (Or.inr (Or.inr (Or.inr (Or.inr (Or.inr (Or.inr (Or.inr (Or.inr (Or.inr (Or.inl h0))))))))))))))))) (fun g0 => (Or.elim g0 (fun h1 => (Or.inr (Or.inr (Or.inr (Or.inr (Or.inr (Or.inr (Or.inr (Or.inr (Or.inr (Or.inr (Or.inr (Or.inr (Or.inr (Or.inr (Or.inr (Or.inr (Or.inl h1)))))))))))))))))) (fun g1 => (Or.elim g1 (fun h2 => (Or.inr (Or.inr (Or.inr (Or.inr (Or.inr (Or.inr (Or.inr (Or.inr (Or.inr (Or.inr (Or.inr (Or.inr (Or.inr (Or.inr (Or.inr (Or.inr (Or.inr (Or.inl h2))))))))))))))))))) (fun g2 => (Or.elim g2 (fun h3 => (Or.inr (Or.inr (Or.inr (Or.inr (Or.inr (Or.inr (Or.inr (Or.inr (Or.inr (Or.inr (Or.inr (Or.inr (Or.inr (Or.inr (Or.inr (Or.inr (Or.inr (Or.inr (Or.inl h3)))))))))))))))))))) (fun g3 => (Or.elim g3 (fun h4 => (Or.inr (Or.inr (Or.inr (Or.inr (Or.inr (Or.inr (Or.inr (Or.inr (Or.inr (Or.inr (Or.inr (Or.inr (Or.inr (Or.inr (Or.inr (Or.inr (Or.inr (Or.inr (Or.inr (Or.inl h4))))))))))))))))))))) (fun g4 => (Or.elim g4 (fun h5 => (Or.inr (Or.inr (Or.inr (Or.inr (Or.inr (Or.inr (Or.inr (Or.inr (Or.inr (Or.inr (Or.inr (Or.inr (Or.inr (Or.inr (Or.inr (Or.inr (Or.inr (Or.inr (Or.inr (Or.inr (Or.inl h5)))))))))))))))))))))) (fun g5 => (Or.inr (Or.inr (Or.inr (Or.inr (Or.inr (Or.inr (Or.inr (Or.inr (Or.inr (Or.inr (Or.inr (Or.inr (Or.inr (Or.inr (Or.inr (Or.inr (Or.inr (Or.inr (Or.inr (Or.inr (Or.inr g5)))))))))))))))))))))))))))))))))))
          by_cases hc11z : r10.1 = 0
          · rw [if_pos hc11z] at h
            obtain rfl := Option.some.inj h
            exact z2
          · rw [if_neg hc11z] at h
            obtain ⟨m12, e_m12, h⟩ := mx_letE h
            have z3 : mx_out (WSX5_read_L24 q0 q1) m m12 := by first | exact mx_out_up z2 e_m12 (Or.inl ⟨rfl, rfl⟩) | exact mx_out_ul z2 e_m12 (Or.inl ⟨rfl, rfl⟩) | exact mx_out_cp z2 e_m12 (fun j => (Or.inl ⟨rfl, rfl⟩)) | exact mx_out_cl z2 e_m12 (fun j => (Or.inl ⟨rfl, rfl⟩))
            exact mx_out.tr z3 (ih h)
set_option maxRecDepth 20000 in
theorem ZX5_read {a : Nat} {p0 : Nat} {m : mB} {r : (Int32 × mB)} (h : FX5_read a p0 m = some r) : mx_out (WSX5_read a p0) m r.2 := by
  unfold FX5_read at h
  have z0 : mx_out (WSX5_read a p0) m m := mx_out.rf
  obtain ⟨r1, h_r1, h⟩ := Option.bind_eq_some_iff.mp h
  have z4 : mx_out (WSX5_read a p0) m r1 := mx_out.tr z0 (mx_out.sub (ZX4_clear h_r1) (fun b j hb => (Or.elim hb (fun h0 => (Or.inr (Or.inr (Or.inl h0)))) (fun g0 => (Or.elim g0 (fun h1 => (Or.inr (Or.inr (Or.inr (Or.inl h1))))) (fun g1 => (Or.elim g1 (fun h2 => (Or.inr (Or.inr (Or.inr (Or.inr (Or.inl h2)))))) (fun g2 => (Or.elim g2 (fun h3 => (Or.inr (Or.inr (Or.inr (Or.inr (Or.inr (Or.inl h3))))))) (fun g3 => (Or.elim g3 (fun h4 => (Or.inr (Or.inr (Or.inr (Or.inr (Or.inr (Or.inr (Or.inl h4)))))))) (fun g4 => (Or.inr (Or.inr (Or.inr (Or.inr (Or.inr (Or.inr (Or.inr (Or.inr (Or.inr (Or.inr (Or.inr (Or.inr (Or.inr (Or.inr (Or.inr (Or.inr (Or.inl g4)))))))))))))))))))))))))))))
  obtain ⟨m2, e_m2, h⟩ := mx_letE h
  have z5 : mx_out (WSX5_read a p0) m m2 := by first | exact mx_out_up z4 e_m2 (Or.inr (Or.inl ⟨rfl, rfl⟩)) | exact mx_out_ul z4 e_m2 (Or.inr (Or.inl ⟨rfl, rfl⟩)) | exact mx_out_cp z4 e_m2 (fun j => (Or.inr (Or.inl ⟨rfl, rfl⟩))) | exact mx_out_cl z4 e_m2 (fun j => (Or.inr (Or.inl ⟨rfl, rfl⟩)))
  obtain ⟨r3, h_r3, h⟩ := Option.bind_eq_some_iff.mp h
  have z6 : mx_out (WSX5_read a p0) m r3 := mx_out.tr z5 (mx_out.sub (ZX10_begin h_r3) (fun b j hb => (Or.elim hb (fun h0 => (Or.inr (Or.inr (Or.inr (Or.inr (Or.inr (Or.inr (Or.inr (Or.inr (Or.inr (Or.inr (Or.inr (Or.inr (Or.inr (Or.inr (Or.inr (Or.inr (Or.inr (Or.inl h0))))))))))))))))))) (fun g0 => (Or.elim g0 (fun h1 => (Or.inr (Or.inr (Or.inr (Or.inr (Or.inr (Or.inr (Or.inr (Or.inr (Or.inr (Or.inr (Or.inr (Or.inr (Or.inr (Or.inr (Or.inr (Or.inr (Or.inr (Or.inr (Or.inl h1)))))))))))))))))))) (fun g1 => (Or.elim g1 (fun h2 => (Or.inr (Or.inr (Or.inr (Or.inr (Or.inr (Or.inr (Or.inr (Or.inr (Or.inr (Or.inr (Or.inr (Or.inr (Or.inr (Or.inr (Or.inr (Or.inr (Or.inr (Or.inr (Or.inr (Or.inl h2))))))))))))))))))))) (fun g2 => (Or.elim g2 (fun h3 => (Or.inr (Or.inr (Or.inr (Or.inr (Or.inr (Or.inr (Or.inr (Or.inr (Or.inr (Or.inr (Or.inr (Or.inr (Or.inr (Or.inr (Or.inr (Or.inr (Or.inr (Or.inr (Or.inr (Or.inr (Or.inl h3)))))))))))))))))))))) (fun g3 => (Or.elim g3 (fun h4 => (Or.inr (Or.inr (Or.inr (Or.inr (Or.inr (Or.inr (Or.inr (Or.inr (Or.inr (Or.inr (Or.inr (Or.inr (Or.inr (Or.inr (Or.inr (Or.inr (Or.inr (Or.inr (Or.inr (Or.inr (Or.inr (Or.inl h4))))))))))))))))))))))) (fun g4 => (Or.elim g4 (fun h5 => (Or.inr (Or.inr (Or.inr (Or.inr (Or.inr (Or.inr (Or.inr (Or.inr (Or.inr (Or.inr (Or.inr (Or.inr (Or.inr (Or.inr (Or.inr (Or.inr (Or.inr (Or.inr (Or.inr (Or.inr (Or.inr (Or.inr (Or.inl h5)))))))))))))))))))))))) (fun g5 => (Or.elim g5 (fun h6 => (Or.inr (Or.inr (Or.inr (Or.inr (Or.inr (Or.inr (Or.inr (Or.inr (Or.inr (Or.inr (Or.inr (Or.inr (Or.inr (Or.inr (Or.inr (Or.inr (Or.inr (Or.inr (Or.inr (Or.inr (Or.inr (Or.inr (Or.inr (Or.inl h6))))))))))))))))))))))))) (fun g6 => (Or.elim g6 (fun h7 => (Or.inr (Or.inr (Or.inr (Or.inr (Or.inr (Or.inr (Or.inr (Or.inr (Or.inr (Or.inr (Or.inr (Or.inr (Or.inr (Or.inr (Or.inr (Or.inr (Or.inr (Or.inr (Or.inr (Or.inr (Or.inr (Or.inr (Or.inr (Or.inr (Or.inl h7)))))))))))))))))))))))))) (fun g7 => (Or.inr (Or.inr (Or.inr (Or.inr (Or.inr (Or.inr (Or.inr (Or.inr (Or.inr (Or.inr (Or.inr (Or.inr (Or.inr (Or.inr (Or.inr (Or.inr (Or.inr (Or.inr (Or.inr (Or.inr (Or.inr (Or.inr (Or.inr (Or.inr (Or.inr g7)))))))))))))))))))))))))))))))))))))))))))
  obtain ⟨m4, e_m4, h⟩ := mx_letE h
  have z7 : mx_out (WSX5_read a p0) m m4 := by first | exact mx_out_up z6 e_m4 (Or.inl ⟨rfl, rfl⟩) | exact mx_out_ul z6 e_m4 (Or.inl ⟨rfl, rfl⟩) | exact mx_out_cp z6 e_m4 (fun j => (Or.inl ⟨rfl, rfl⟩)) | exact mx_out_cl z6 e_m4 (fun j => (Or.inl ⟨rfl, rfl⟩))
  obtain ⟨q13, h_q13, h⟩ := Option.bind_eq_some_iff.mp h
  have z8 := mx_out.tr z7 (mx_out.sub (S := (WSX5_read a p0)) (ZX5_read_L24 mx_FU h_q13) (fun b j hb => (Or.elim hb (fun h0 => (Or.inl h0)) (fun g0 => (Or.elim g0 (fun h1 => (Or.inr (Or.inl h1))) (fun g1 => (Or.elim g1 (fun h2 => (Or.inr (Or.inr (Or.inl h2)))) (fun g2 => (Or.elim g2 (fun h3 => (Or.inr (Or.inr (Or.inr (Or.inl h3))))) (fun g3 => (Or.elim g3 (fun h4 => (Or.inr (Or.inr (Or.inr (Or.inr (Or.inl h4)))))) (fun g4 => (Or.elim g4 (fun h5 => (Or.inr (Or.inr (Or.inr (Or.inr (Or.inr (Or.inr (Or.inr (Or.inl h5))))))))) (fun g5 => (Or.elim g5 (fun h6 => (Or.inr (Or.inr (Or.inr (Or.inr (Or.inr (Or.inr (Or.inr (Or.inr (Or.inl h6)))))))))) (fun g6 => (Or.elim g6 (fun h7 => (Or.inr (Or.inr (Or.inr (Or.inr (Or.inr (Or.inr (Or.inr (Or.inr (Or.inr (Or.inl h7))))))))))) (fun g7 => (Or.elim g7 (fun h8 => (Or.inr (Or.inr (Or.inr (Or.inr (Or.inr (Or.inr (Or.inr (Or.inr (Or.inr (Or.inr (Or.inl h8)))))))))))) (fun g8 => (Or.elim g8 (fun h9 => (Or.inr (Or.inr (Or.inr (Or.inr (Or.inr (Or.inr (Or.inr (Or.inr (Or.inr (Or.inr (Or.inr (Or.inl h9))))))))))))) (fun g9 => (Or.elim g9 (fun h10 => (Or.inr (Or.inr (Or.inr (Or.inr (Or.inr (Or.inr (Or.inr (Or.inr (Or.inr (Or.inr (Or.inr (Or.inr (Or.inl h10)))))))))))))) (fun g10 => (Or.elim g10 (fun h11 => (Or.inr (Or.inr (Or.inr (Or.inr (Or.inr (Or.inr (Or.inr (Or.inr (Or.inr (Or.inr (Or.inr (Or.inr (Or.inr (Or.inl h11))))))))))))))) (fun g11 => (Or.elim g11 (fun h12 => (Or.inr (Or.inr (Or.inr (Or.inr (Or.inr (Or.inr (Or.inr (Or.inr (Or.inr (Or.inr (Or.inr (Or.inr (Or.inr (Or.inr (Or.inl h12)))))))))))))))) (fun g12 => (Or.elim g12 (fun h13 => (Or.inr (Or.inr (Or.inr (Or.inr (Or.inr (Or.inr (Or.inr (Or.inr (Or.inr (Or.inr (Or.inr (Or.inr (Or.inr (Or.inr (Or.inr (Or.inl h13))))))))))))))))) (fun g13 => (Or.elim g13 (fun h14 => (Or.inr (Or.inr (Or.inr (Or.inr (Or.inr (Or.inr (Or.inr (Or.inr (Or.inr (Or.inr (Or.inr (Or.inr (Or.inr (Or.inr (Or.inr (Or.inr (Or.inl h14)))))))))))))))))) (fun g14 => (Or.elim g14 (fun h15 => (Or.inr (Or.inr (Or.inr (Or.inr (Or.inr (Or.inr (Or.inr (Or.inr (Or.inr (Or.inr (Or.inr (Or.inr (Or.inr (Or.inr (Or.inr (Or.inr (Or.inr (Or.inl h15))))))))))))))))))) (fun g15 => (Or.elim g15 (fun h16 => (Or.inr (Or.inr (Or.inr (Or.inr (Or.inr (Or.inr (Or.inr (Or.inr (Or.inr (Or.inr (Or.inr (Or.inr (Or.inr (Or.inr (Or.inr (Or.inr (Or.inr (Or.inr (Or.inl h16)))))))))))))))))))) (fun g16 => (Or.elim g16 (fun h17 => (Or.inr (Or.inr (Or.inr (Or.inr (Or.inr (Or.inr (Or.inr (Or.inr (Or.inr (Or.inr (Or.inr (Or.inr (Or.inr (Or.inr (Or.inr (Or.inr (Or.inr (Or.inr (Or.inr (Or.inr (Or.inl h17)))))))))))))))))))))) (fun g17 => (Or.elim g17 (fun h18 => (Or.inr (Or.inr (Or.inr (Or.inr (Or.inr (Or.inr (Or.inr (Or.inr (Or.inr (Or.inr (Or.inr (Or.inr (Or.inr (Or.inr (Or.inr (Or.inr (Or.inr (Or.inr (Or.inr (Or.inr (Or.inr (Or.inr (Or.inl h18)))))))))))))))))))))))) (fun g18 => (Or.elim g18 (fun h19 => (Or.inr (Or.inr (Or.inr (Or.inr (Or.inr (Or.inr (Or.inr (Or.inr (Or.inr (Or.inr (Or.inr (Or.inr (Or.inr (Or.inr (Or.inr (Or.inr (Or.inr (Or.inr (Or.inr (Or.inr (Or.inr (Or.inr (Or.inr (Or.inl h19))))))))))))))))))))))))) (fun g19 => (Or.elim g19 (fun h20 => (Or.inr (Or.inr (Or.inr (Or.inr (Or.inr (Or.inr (Or.inr (Or.inr (Or.inr (Or.inr (Or.inr (Or.inr (Or.inr (Or.inr (Or.inr (Or.inr (Or.inr (Or.inr (Or.inr (Or.inr (Or.inr (Or.inr (Or.inr (Or.inr (Or.inl h20)))))))))))))))))))))))))) (fun g20 => (Or.inr (Or.inr (Or.inr (Or.inr (Or.inr (Or.inr (Or.inr (Or.inr (Or.inr (Or.inr (Or.inr (Or.inr (Or.inr (Or.inr (Or.inr (Or.inr (Or.inr (Or.inr (Or.inr (Or.inr (Or.inr (Or.inr (Or.inr (Or.inr (Or.inr g20)))))))))))))))))))))))))))))))))))))))))))))))))))))))))))))))))))))
  rcases q13 with rr15 | u14
  · rw [Sum.elim_inl] at h
    obtain rfl := Option.some.inj h
    exact z8
  · rw [Sum.elim_inr] at h
    obtain ⟨r16, h_r16, h⟩ := Option.bind_eq_some_iff.mp h
    have z9 : mx_out (WSX5_read a p0) m r16.2 := mx_out.tr z8 (mx_out.sub (ZX10_endsHere h_r16) (fun b j hb => (Or.elim hb (fun h0 => (Or.inr (Or.inr (Or.inr (Or.inr (Or.inr (Or.inr (Or.inr (Or.inr (Or.inr (Or.inr (Or.inr (Or.inr (Or.inr (Or.inr (Or.inr (Or.inr (Or.inr (Or.inl h0))))))))))))))))))) (fun g0 => (Or.inr (Or.inr (Or.inr (Or.inr (Or.inr (Or.inr (Or.inr (Or.inr (Or.inr (Or.inr (Or.inr (Or.inr (Or.inr (Or.inr (Or.inr (Or.inr (Or.inr (Or.inr (Or.inl g0)))))))))))))))))))))))
    obtain ⟨-, h⟩ := mx_chkE h
    obtain rfl := Option.some.inj h
    exact z9
set_option maxRecDepth 20000 in
theorem ZX8_copyFrom {a : Nat} {p0 : Nat} {m : mB} {r : mB} (h : FX8_copyFrom a p0 m = some r) : mx_out (WSX8_copyFrom a p0) m r := by
  unfold FX8_copyFrom at h
  have z0 : mx_out (WSX8_copyFrom a p0) m m := mx_out.rf
  obtain ⟨m1, e_m1, h⟩ := mx_letE h
  have z1 : mx_out (WSX8_copyFrom a p0) m m1 := by first | exact mx_out_up z0 e_m1 (Or.inl ⟨rfl, rfl⟩) | exact mx_out_ul z0 e_m1 (Or.inl ⟨rfl, rfl⟩) | exact mx_out_cp z0 e_m1 (fun j => (Or.inl ⟨rfl, rfl⟩)) | exact mx_out_cl z0 e_m1 (fun j => (Or.inl ⟨rfl, rfl⟩))
  obtain ⟨m2, e_m2, h⟩ := mx_letE h
  have z2 : mx_out (WSX8_copyFrom a p0) m m2 := by first | exact mx_out_up z1 e_m2 (Or.inr (Or.inl ⟨rfl, rfl⟩)) | exact mx_out_ul z1 e_m2 (Or.inr (Or.inl ⟨rfl, rfl⟩)) | exact mx_out_cp z1 e_m2 (fun j => (Or.inr (Or.inl ⟨rfl, rfl⟩))) | exact mx_out_cl z1 e_m2 (fun j => (Or.inr (Or.inl ⟨rfl, rfl⟩)))
  obtain ⟨-, h⟩ := mx_chkE h
  obtain ⟨m3, e_m3, h⟩ := mx_letE h
  have z3 : mx_out (WSX8_copyFrom a p0) m m3 := by first | exact mx_out_up z2 e_m3 (Or.inr (Or.inr (Or.inl ⟨rfl, rfl⟩))) | exact mx_out_ul z2 e_m3 (Or.inr (Or.inr (Or.inl ⟨rfl, rfl⟩))) | exact mx_out_cp z2 e_m3 (fun j => (Or.inr (Or.inr (Or.inl ⟨rfl, rfl⟩)))) | exact mx_out_cl z2 e_m3 (fun j => (Or.inr (Or.inr (Or.inl ⟨rfl, rfl⟩))))
  obtain ⟨m5, e_m5, h⟩ := mx_letE h
  have z4 : mx_out (WSX8_copyFrom a p0) m m5 := by first | exact mx_out_up z3 e_m5 (Or.inr (Or.inr (Or.inr (Or.inl rfl)))) | exact mx_out_ul z3 e_m5 (Or.inr (Or.inr (Or.inr (Or.inl rfl)))) | exact mx_out_cp z3 e_m5 (fun j => (Or.inr (Or.inr (Or.inr (Or.inl rfl))))) | exact mx_out_cl z3 e_m5 (fun j => (Or.inr (Or.inr (Or.inr (Or.inl rfl)))))
  obtain ⟨m6, e_m6, h⟩ := mx_letE h
  have z5 : mx_out (WSX8_copyFrom a p0) m m6 := by first | exact mx_out_up z4 e_m6 (Or.inr (Or.inr (Or.inr (Or.inr (Or.inl rfl))))) | exact mx_out_ul z4 e_m6 (Or.inr (Or.inr (Or.inr (Or.inr (Or.inl rfl))))) | exact mx_out_cp z4 e_m6 (fun j => (Or.inr (Or.inr (Or.inr (Or.inr (Or.inl rfl)))))) | exact mx_out_cl z4 e_m6 (fun j => (Or.inr (Or.inr (Or.inr (Or.inr (Or.inl rfl))))))
  obtain ⟨m7, e_m7, h⟩ := mx_letE h
  have z6 : mx_out (WSX8_copyFrom a p0) m m7 := by first | exact mx_out_up z5 e_m7 (Or.inr (Or.inr (Or.inr (Or.inr (Or.inr rfl))))) | exact mx_out_ul z5 e_m7 (Or.inr (Or.inr (Or.inr (Or.inr (Or.inr rfl))))) | exact mx_out_cp z5 e_m7 (fun j => (Or.inr (Or.inr (Or.inr (Or.inr (Or.inr rfl)))))) | exact mx_out_cl z5 e_m7 (fun j => (Or.inr (Or.inr (Or.inr (Or.inr (Or.inr rfl))))))
  obtain rfl := Option.some.inj h
  exact z6
set_option maxRecDepth 20000 in
theorem ZX6_take {a : Nat} {p0 : Nat} {p1 : Nat} {m : mB} {r : mB} (h : FX6_take a p0 p1 m = some r) : mx_out (WSX6_take a p0 p1) m r := by
  unfold FX6_take at h
  have z0 : mx_out (WSX6_take a p0 p1) m m := mx_out.rf
  obtain ⟨r1, h_r1, h⟩ := Option.bind_eq_some_iff.mp h
  have z1 : mx_out (WSX6_take a p0 p1) m r1 := mx_out.tr z0 (mx_out.sub (ZX4_copyFrom h_r1) (fun b j hb => (Or.elim hb (fun h0 => (Or.inr (Or.inl h0))) (fun g0 => (Or.elim g0 (fun h1 => (Or.inr (Or.inr (Or.inl h1)))) (fun g1 => (Or.elim g1 (fun h2 => (Or.inr (Or.inr (Or.inr (Or.inl h2))))) (fun g2 => (Or.elim g2 (fun h3 => (Or.inr (Or.inr (Or.inr (Or.inr (Or.inl h3)))))) (fun g3 => (Or.elim g3 (fun h4 => (Or.inr (Or.inr (Or.inr (Or.inr (Or.inr (Or.inl h4))))))) (fun g4 => (Or.elim g4 (fun h5 => (Or.inr (Or.inr (Or.inr (Or.inr (Or.inr (Or.inr (Or.inr (Or.inr (Or.inr (Or.inr (Or.inr (Or.inr (Or.inr (Or.inr (Or.inl h5)))))))))))))))) (fun g5 => (Or.elim g5 (fun h6 => (Or.inr (Or.inr (Or.inr (Or.inr (Or.inr (Or.inr (Or.inr (Or.inl h6))))))))) (fun g6 => (Or.elim g6 (fun h7 => (Or.inr (Or.inr (Or.inr (Or.inr (Or.inr (Or.inr (Or.inr (Or.inr (Or.inr (Or.inr (Or.inr (Or.inr (Or.inr (Or.inr (Or.inr (Or.inl h7))))))))))))))))) (fun g7 => (Or.elim g7 (fun h8 => (Or.inr (Or.inr (Or.inr (Or.inr (Or.inr (Or.inr (Or.inr (Or.inr (Or.inr (Or.inr (Or.inr (Or.inr (Or.inr (Or.inr (Or.inr (Or.inr (Or.inl h8)))))))))))))))))) (fun g8 => (Or.elim g8 (fun h9 => (Or.inr (Or.inr (Or.inr (Or.inr (Or.inr (Or.inr (Or.inr (Or.inr (Or.inr (Or.inr (Or.inr (Or.inr (Or.inr (Or.inr (Or.inr (Or.inr (Or.inr (Or.inl h9))))))))))))))))))) (fun g9 => (Or.elim g9 (fun h10 => (Or.inr (Or.inr (Or.inr (Or.inr (Or.inr (Or.inr (Or.inr (Or.inr (Or.inr (Or.inr (Or.inr (Or.inr (Or.inr (Or.inr (Or.inr (Or.inr (Or.inr (Or.inr (Or.inl h10)))))))))))))))))))) (fun g10 => (Or.elim g10 (fun h11 => (Or.inr (Or.inr (Or.inr (Or.inr (Or.inr (Or.inr (Or.inr (Or.inr (Or.inr (Or.inr (Or.inr (Or.inr (Or.inr (Or.inr (Or.inr (Or.inr (Or.inr (Or.inr (Or.inr (Or.inl h11))))))))))))))))))))) (fun g11 => (Or.elim g11 (fun h12 => (Or.inr (Or.inr (Or.inr (Or.inr (Or.inr (Or.inr (Or.inr (Or.inr (Or.inr (Or.inr (Or.inr (Or.inr (Or.inr (Or.inr (Or.inr (Or.inr (Or.inr (Or.inr (Or.inr (Or.inr (Or.inl h12)))))))))))))))))))))) (fun g12 => (Or.elim g12 (fun h13 => (Or.inr (Or.inr (Or.inr (Or.inr (Or.inr (Or.inr (Or.inr (Or.inr (Or.inr (Or.inr (Or.inr (Or.inr (Or.inr (Or.inr (Or.inr (Or.inr (Or.inr (Or.inr (Or.inr (Or.inr (Or.inr h13)))))))))))))))))))))) (fun g13 => (Or.inr (Or.inr (Or.inr (Or.inr (Or.inr (Or.inr (Or.inl g13)))))))))))))))))))))))))))))))))))))
  obtain ⟨r2, h_r2, h⟩ := Option.bind_eq_some_iff.mp h
  have z2 : mx_out (WSX6_take a p0 p1) m r2 := mx_out.tr z1 (mx_out.sub (ZX8_copyFrom h_r2) (fun b j hb => (Or.elim hb (fun h0 => (Or.inr (Or.inr (Or.inr (Or.inr (Or.inr (Or.inr (Or.inr (Or.inr (Or.inl h0)))))))))) (fun g0 => (Or.elim g0 (fun h1 => (Or.inr (Or.inr (Or.inr (Or.inr (Or.inr (Or.inr (Or.inr (Or.inr (Or.inr (Or.inl h1))))))))))) (fun g1 => (Or.elim g1 (fun h2 => (Or.inr (Or.inr (Or.inr (Or.inr (Or.inr (Or.inr (Or.inr (Or.inr (Or.inr (Or.inr (Or.inl h2)))))))))))) (fun g2 => (Or.elim g2 (fun h3 => (Or.inr (Or.inr (Or.inr (Or.inr (Or.inr (Or.inr (Or.inr (Or.inr (Or.inr (Or.inr (Or.inr (Or.inl h3))))))))))))) (fun g3 => (Or.elim g3 (fun h4 => (Or.inr (Or.inr (Or.inr (Or.inr (Or.inr (Or.inr (Or.inr (Or.inr (Or.inr (Or.inr (Or.inr (Or.inr (Or.inl h4)))))))))))))) (fun g4 => (Or.inr (Or.inr (Or.inr (Or.inr (Or.inr (Or.inr (Or.inr (Or.inr (Or.inr (Or.inr (Or.inr (Or.inr (Or.inr (Or.inl g4))))))))))))))))))))))))))
  obtain ⟨m3, e_m3, h⟩ := mx_letE h
  have z3 : mx_out (WSX6_take a p0 p1) m m3 := by first | exact mx_out_up z2 e_m3 (Or.inl ⟨rfl, rfl⟩) | exact mx_out_ul z2 e_m3 (Or.inl ⟨rfl, rfl⟩) | exact mx_out_cp z2 e_m3 (fun j => (Or.inl ⟨rfl, rfl⟩)) | exact mx_out_cl z2 e_m3 (fun j => (Or.inl ⟨rfl, rfl⟩))
  obtain rfl := Option.some.inj h
  exact z3
set_option maxRecDepth 20000 in
theorem ZX6_giveBack {a : Nat} {p0 : Nat} {p1 : Nat} {m : mB} {r : (Int32 × mB)} (h : FX6_giveBack a p0 p1 m = some r) : mx_out (WSX6_giveBack a p0 p1) m r.2 := by
  unfold FX6_giveBack at h
  have z0 : mx_out (WSX6_giveBack a p0 p1) m m := mx_out.rf
  by_cases hc1z : (m.1 a 2) = 0
  · rw [if_pos hc1z] at h
    obtain ⟨-, h⟩ := mx_chkE h
    obtain rfl := Option.some.inj h
    exact z0
  · rw [if_neg hc1z] at h
    obtain ⟨r3, h_r3, h⟩ := Option.bind_eq_some_iff.mp h
    have z1 : mx_out (WSX6_giveBack a p0 p1) m r3 := mx_out.tr z0 (mx_out.sub (ZX4_copyFrom h_r3) (fun b j hb => (Or.elim hb (fun h0 => (Or.inl h0)) (fun g0 => (Or.elim g0 (fun h1 => (Or.inr (Or.inl h1))) (fun g1 => (Or.elim g1 (fun h2 => (Or.inr (Or.inr (Or.inl h2)))) (fun g2 => (Or.elim g2 (fun h3 => (Or.inr (Or.inr (Or.inr (Or.inl h3))))) (fun g3 => (Or.elim g3 (fun h4 => (Or.inr (Or.inr (Or.inr (Or.inr (Or.inl h4)))))) (fun g4 => (Or.elim g4 (fun h5 => (Or.inr (Or.inr (Or.inr (Or.inr (Or.inr (Or.inl h5))))))) (fun g5 => (Or.elim g5 (fun h6 => (Or.inr (Or.inr (Or.inr (Or.inr (Or.inr (Or.inr (Or.inl h6)))))))) (fun g6 => (Or.elim g6 (fun h7 => (Or.inr (Or.inr (Or.inr (Or.inr (Or.inr (Or.inr (Or.inr (Or.inl h7))))))))) (fun g7 => (Or.elim g7 (fun h8 => (Or.inr (Or.inr (Or.inr (Or.inr (Or.inr (Or.inr (Or.inr (Or.inr (Or.inl h8)))))))))) (fun g8 => (Or.elim g8 (fun h9 => (Or.inr (Or.inr (Or.inr (Or.inr (Or.inr (Or.inr (Or.inr (Or.inr (Or.inr (Or.inl h9))))))))))) (fun g9 => (Or.elim g9 (fun h10 => (Or.inr (Or.inr (Or.inr (Or.inr (Or.inr (Or.inr (Or.inr (Or.inr (Or.inr (Or.inr (Or.inl h10)))))))))))) (fun g10 => (Or.elim g10 (fun h11 => (Or.inr (Or.inr (Or.inr (Or.inr (Or.inr (Or.inr (Or.inr (Or.inr (Or.inr (Or.inr (Or.inr (Or.inl h11))))))))))))) (fun g11 => (Or.elim g11 (fun h12 => (Or.inr (Or.inr (Or.inr (Or.inr (Or.inr (Or.inr (Or.inr (Or.inr (Or.inr (Or.inr (Or.inr (Or.inr (Or.inl h12)))))))))))))) (fun g12 => (Or.elim g12 (fun h13 => (Or.inr (Or.inr (Or.inr (Or.inr (Or.inr (Or.inr (Or.inr (Or.inr (Or.inr (Or.inr (Or.inr (Or.inr (Or.inr (Or.inl h13))))))))))))))) (fun g13 => (Or.inr (Or.inr (Or.inr (Or.inr (Or.inr (Or.inr (Or.inr (Or.inr (Or.inr (Or.inr (Or.inr (Or.inr (Or.inr (Or.inr (Or.inl g13)))))))))))))))))))))))))))))))))))))))))))))
    obtain ⟨r4, h_r4, h⟩ := Option.bind_eq_some_iff.mp h
    have z2 : mx_out (WSX6_giveBack a p0 p1) m r4 := mx_out.tr z1 (mx_out.sub (ZX8_copyFrom h_r4) (fun b j hb => (Or.elim hb (fun h0 => (Or.inr (Or.inr (Or.inr (Or.inr (Or.inr (Or.inr (Or.inr (Or.inr (Or.inr (Or.inr (Or.inr (Or.inr (Or.inr (Or.inr (Or.inr (Or.inl h0))))))))))))))))) (fun g0 => (Or.elim g0 (fun h1 => (Or.inr (Or.inr (Or.inr (Or.inr (Or.inr (Or.inr (Or.inr (Or.inr (Or.inr (Or.inr (Or.inr (Or.inr (Or.inr (Or.inr (Or.inr (Or.inr (Or.inl h1)))))))))))))))))) (fun g1 => (Or.elim g1 (fun h2 => (Or.inr (Or.inr (Or.inr (Or.inr (Or.inr (Or.inr (Or.inr (Or.inr (Or.inr (Or.inr (Or.inr (Or.inr (Or.inr (Or.inr (Or.inr (Or.inr (Or.inr (Or.inl h2))))))))))))))))))) (fun g2 => (Or.elim g2 (fun h3 => (Or.inr (Or.inr (Or.inr (Or.inr (Or.inr (Or.inr (Or.inr (Or.inr (Or.inr (Or.inr (Or.inr (Or.inr (Or.inr (Or.inr (Or.inr (Or.inr (Or.inr (Or.inr (Or.inl h3)))))))))))))))))))) (fun g3 => (Or.elim g3 (fun h4 => (Or.inr (Or.inr (Or.inr (Or.inr (Or.inr (Or.inr (Or.inr (Or.inr (Or.inr (Or.inr (Or.inr (Or.inr (Or.inr (Or.inr (Or.inr (Or.inr (Or.inr (Or.inr (Or.inr (Or.inl h4))))))))))))))))))))) (fun g4 => (Or.inr (Or.inr (Or.inr (Or.inr (Or.inr (Or.inr (Or.inr (Or.inr (Or.inr (Or.inr (Or.inr (Or.inr (Or.inr (Or.inr (Or.inr (Or.inr (Or.inr (Or.inr (Or.inr (Or.inr g4))))))))))))))))))))))))))))))))
    obtain ⟨-, h⟩ := mx_chkE h
    obtain rfl := Option.some.inj h
    exact z2
set_option maxRecDepth 20000 in
theorem ZX8_clear {a : Nat} {m : mB} {r : mB} (h : FX8_clear a m = some r) : mx_out (WSX8_clear a) m r := by
  unfold FX8_clear at h
  have z0 : mx_out (WSX8_clear a) m m := mx_out.rf
  obtain ⟨m1, e_m1, h⟩ := mx_letE h
  have z1 : mx_out (WSX8_clear a) m m1 := by first | exact mx_out_up z0 e_m1 (Or.inr (Or.inr ⟨rfl, rfl⟩)) | exact mx_out_ul z0 e_m1 (Or.inr (Or.inr ⟨rfl, rfl⟩)) | exact mx_out_cp z0 e_m1 (fun j => (Or.inr (Or.inr ⟨rfl, rfl⟩))) | exact mx_out_cl z0 e_m1 (fun j => (Or.inr (Or.inr ⟨rfl, rfl⟩)))
  obtain ⟨m2, e_m2, h⟩ := mx_letE h
  have z2 : mx_out (WSX8_clear a) m m2 := by first | exact mx_out_up z1 e_m2 (Or.inl ⟨rfl, rfl⟩) | exact mx_out_ul z1 e_m2 (Or.inl ⟨rfl, rfl⟩) | exact mx_out_cp z1 e_m2 (fun j => (Or.inl ⟨rfl, rfl⟩)) | exact mx_out_cl z1 e_m2 (fun j => (Or.inl ⟨rfl, rfl⟩))
  obtain ⟨m3, e_m3, h⟩ := mx_letE h
  have z3 : mx_out (WSX8_clear a) m m3 := by first | exact mx_out_up z2 e_m3 (Or.inr (Or.inl ⟨rfl, rfl⟩)) | exact mx_out_ul z2 e_m3 (Or.inr (Or.inl ⟨rfl, rfl⟩)) | exact mx_out_cp z2 e_m3 (fun j => (Or.inr (Or.inl ⟨rfl, rfl⟩))) | exact mx_out_cl z2 e_m3 (fun j => (Or.inr (Or.inl ⟨rfl, rfl⟩)))
  obtain rfl := Option.some.inj h
  exact z3
set_option maxRecDepth 20000 in
theorem ZX8_put {a : Nat} {x0 : Int32} {x1 : Int32} {x2 : Int32} {m : mB} {r : (Int32 × mB)} (h : FX8_put a x0 x1 x2 m = some r) : mx_out (WSX8_put a) m r.2 := by
  unfold FX8_put at h
  have z0 : mx_out (WSX8_put a) m m := mx_out.rf
  by_cases hc1z : (m.1 a 4) < 0
  · rw [if_pos hc1z] at h
    obtain rfl := Option.some.inj h
    exact z0
  · rw [if_neg hc1z] at h
    by_cases hc2z : (m.1 a 4) < 40
    · rw [if_pos hc2z] at h
      obtain ⟨-, h⟩ := mx_chkE h
      obtain ⟨m3, e_m3, h⟩ := mx_letE h
      have z1 : mx_out (WSX8_put a) m m3 := by first | exact mx_out_up z0 e_m3 (Or.inr (Or.inl rfl)) | exact mx_out_ul z0 e_m3 (Or.inr (Or.inl rfl)) | exact mx_out_cp z0 e_m3 (fun j => (Or.inr (Or.inl rfl))) | exact mx_out_cl z0 e_m3 (fun j => (Or.inr (Or.inl rfl)))
      obtain ⟨-, h⟩ := mx_chkE h
      obtain ⟨m5, e_m5, h⟩ := mx_letE h
      have z2 : mx_out (WSX8_put a) m m5 := by first | exact mx_out_up z1 e_m5 (Or.inr (Or.inr (Or.inl rfl))) | exact mx_out_ul z1 e_m5 (Or.inr (Or.inr (Or.inl rfl))) | exact mx_out_cp z1 e_m5 (fun j => (Or.inr (Or.inr (Or.inl rfl)))) | exact mx_out_cl z1 e_m5 (fun j => (Or.inr (Or.inr (Or.inl rfl))))
      obtain ⟨-, h⟩ := mx_chkE h
      obtain ⟨m7, e_m7, h⟩ := mx_letE h
      have z3 : mx_out (WSX8_put a) m m7 := by first | exact mx_out_up z2 e_m7 (Or.inr (Or.inr (Or.inr rfl))) | exact mx_out_ul z2 e_m7 (Or.inr (Or.inr (Or.inr rfl))) | exact mx_out_cp z2 e_m7 (fun j => (Or.inr (Or.inr (Or.inr rfl)))) | exact mx_out_cl z2 e_m7 (fun j => (Or.inr (Or.inr (Or.inr rfl))))
      obtain ⟨m9, e_m9, h⟩ := mx_letE h
      have z4 : mx_out (WSX8_put a) m m9 := by first | exact mx_out_up z3 e_m9 (Or.inl ⟨rfl, rfl⟩) | exact mx_out_ul z3 e_m9 (Or.inl ⟨rfl, rfl⟩) | exact mx_out_cp z3 e_m9 (fun j => (Or.inl ⟨rfl, rfl⟩)) | exact mx_out_cl z3 e_m9 (fun j => (Or.inl ⟨rfl, rfl⟩))
      obtain rfl := Option.some.inj h
      exact z4
    · rw [if_neg hc2z] at h
      obtain rfl := Option.some.inj h
      exact z0
set_option maxRecDepth 20000 in
theorem ZX8_readAll_L15 {rec : Nat → Nat → Nat → Int32 → mB → Option (Int32 × mB)} {q0 : Nat} {q1 : Nat} {q2 : Nat} {y3 : Int32} (zrec : ∀ {a : Nat} {p0 : Nat} {p1 : Nat} {x2 : Int32} {m : mB} {r : (Int32 × mB)}, rec a p0 p1 x2 m = some r → mx_out (WSX8_readOne a p0 p1) m r.2) : ∀ (f : Nat) {y4 : Int32} {m : mB} {q : ((Int32 × mB) ⊕ (mB))}, FX8_readAll_L15 rec q0 q1 q2 y3 f y4 m = some q → mx_out (WSX8_readAll_L15 q0 q1 q2) m (Sum.elim (fun rr => rr.2) (fun u => u) q) := by
  intro f
  induction f with
  | zero => intro _ _ _ h; cases h
  | succ f ih =>
    intro y4 m q h
    rw [FX8_readAll_L15] at h
    have z0 : mx_out (WSX8_readAll_L15 q0 q1 q2) m m := mx_out.rf
    by_cases hc3z : 40 ≤ y4
    · rw [if_pos hc3z] at h
      obtain rfl := Option.some.inj h
      exact z0
    · rw [if_neg hc3z] at h
      obtain ⟨r4, h_r4, h⟩ := Option.bind_eq_some_iff.mp h
      by_cases hc5z : r4 = 111
      · rw [if_pos hc5z] at h
        obtain ⟨r6, h_r6, h⟩ := Option.bind_eq_some_iff.mp h
        have z1 : mx_out (WSX8_readAll_L15 q0 q1 q2) m r6 := mx_out.tr z0 (mx_out.sub (ZX10_advance h_r6) (fun b j hb => (Or.elim hb (fun h0 => (Or.inr (Or.inr (Or.inr (Or.inr (Or.inr (Or.inr (Or.inr (Or.inl h0))))))))) (fun g0 => (Or.elim g0 (fun h1 => (Or.inr (Or.inr (Or.inr (Or.inr (Or.inr (Or.inr (Or.inr (Or.inr (Or.inl h1)))))))))) (fun g1 => (Or.elim g1 (fun h2 => (Or.inr (Or.inr (Or.inr (Or.inr (Or.inr (Or.inr (Or.inr (Or.inr (Or.inr (Or.inl h2))))))))))) (fun g2 => (Or.elim g2 (fun h3 => (Or.inr (Or.inr (Or.inr (Or.inr (Or.inr (Or.inr (Or.inr (Or.inr (Or.inr (Or.inr (Or.inl h3)))))))))))) (fun g3 => (Or.inr (Or.inr (Or.inr (Or.inr (Or.inr (Or.inr (Or.inr (Or.inr (Or.inr (Or.inr (Or.inr g3)))))))))))))))))))))
        obtain ⟨r7, h_r7, h⟩ := Option.bind_eq_some_iff.mp h
        have z2 : mx_out (WSX8_readAll_L15 q0 q1 q2) m r7.2 := mx_out.tr z1 (mx_out.sub (zrec h_r7) (fun b j hb => (Or.elim hb (fun h0 => (Or.inl h0)) (fun g0 => (Or.elim g0 (fun h1 => (Or.inr (Or.inl h1))) (fun g1 => (Or.elim g1 (fun h2 => (Or.inr (Or.inr (Or.inl h2)))) (fun g2 => (Or.elim g2 (fun h3 => (Or.inr (Or.inr (Or.inr (Or.inl h3))))) (fun g3 => (Or.elim g3 (fun h4 => (Or.inr (Or.inr (Or.inr (Or.inr (Or.inl h4)))))) (fun g4 => (Or.elim g4 (fun h5 => (Or.inr (Or.inr (Or.inr (Or.inr (Or.inr (Or.inl h5))))))) (fun g5 => (Or.elim g5 (fun h6 => (Or.inr (Or.inr (Or.inr (Or.inr (Or.inr (Or.inr (Or.inl h6)))))))) (fun g6 => (Or.elim g6 (fun h7 => (Or.inr (Or.inr (Or.inr (Or.inr (Or.inr (Or.inr (Or.inr (Or.inl h7))))))))) (fun g7 => (Or.elim g7 (fun h8 => (Or.inr (Or.inr (Or.inr (Or.inr (Or.inr (Or.inr (Or.inr (Or.inr (Or.inl h8)))))))))) (fun g8 => (Or.elim g8 (fun h9 => (Or.inr (Or.inr (Or.inr (Or.inr (Or.inr (Or.inr (Or.inr (Or.inr (Or.inr (Or.inl h9))))))))))) (fun g9 => (Or.elim g9 (fun h10 => (Or.inr (Or.inr (Or.inr (Or.inr (Or.inr (Or.inr (Or.inr (Or.inr (Or.inr (Or.inr (Or.inl h10)))))))))))) (fun g10 => (Or.inr (Or.inr (Or.inr (Or.inr (Or.inr (Or.inr (Or.inr (Or.inr (Or.inr (Or.inr (Or.inr g10)))))))))))))))))))))))))))))))))))
        by_cases hc8z : r7.1 = 0
        · rw [if_pos hc8z] at h
          obtain rfl := Option.some.inj h
          exact z2
        · rw [if_neg hc8z] at h
          obtain ⟨r9, h_r9, h⟩ := Option.bind_eq_some_iff.mp h
          have z3 : mx_out (WSX8_readAll_L15 q0 q1 q2) m r9.2 := mx_out.tr z2 (mx_out.sub (ZX8_put h_r9) (fun b j hb => (Or.elim hb (fun h0 => (Or.inl h0)) (fun g0 => (Or.elim g0 (fun h1 => (Or.inr (Or.inr (Or.inl h1)))) (fun g1 => (Or.elim g1 (fun h2 => (Or.inr (Or.inr (Or.inr (Or.inl h2))))) (fun g2 => (Or.inr (Or.inr (Or.inr (Or.inr (Or.inl g2)))))))))))))
          obtain ⟨v10, -, h⟩ := mx_letE h
          exact mx_out.tr z3 (ih h)
      · rw [if_neg hc5z] at h
        obtain rfl := Option.some.inj h
        exact z0
set_option maxRecDepth 20000 in
theorem ZX8_readAll {rec : Nat → Nat → Nat → Int32 → mB → Option (Int32 × mB)} {a : Nat} {p0 : Nat} {p1 : Nat} {x2 : Int32} {m : mB} {r : (Int32 × mB)} (zrec : ∀ {a : Nat} {p0 : Nat} {p1 : Nat} {x2 : Int32} {m : mB} {r : (Int32 × mB)}, rec a p0 p1 x2 m = some r → mx_out (WSX8_readOne a p0 p1) m r.2) (h : FX8_readAll rec a p0 p1 x2 m = some r) : mx_out (WSX8_readAll a p0 p1) m r.2 := by
  unfold FX8_readAll at h
  have z0 : mx_out (WSX8_readAll a p0 p1) m m := mx_out.rf
  obtain ⟨r1, h_r1, h⟩ := Option.bind_eq_some_iff.mp h
  have z4 : mx_out (WSX8_readAll a p0 p1) m r1.2 := mx_out.tr z0 (mx_out.sub (zrec h_r1) (fun b j hb => (Or.elim hb (fun h0 => (Or.inl h0)) (fun g0 => (Or.elim g0 (fun h1 => (Or.inr (Or.inl h1))) (fun g1 => (Or.elim g1 (fun h2 => (Or.inr (Or.inr (Or.inl h2)))) (fun g2 => (Or.elim g2 (fun h3 => (Or.inr (Or.inr (Or.inr (Or.inl h3))))) (fun g3 => (Or.elim g3 (fun h4 => (Or.inr (Or.inr (Or.inr (Or.inr (Or.inl h4)))))) (fun g4 => (Or.elim g4 (fun h5 => (Or.inr (Or.inr (Or.inr (Or.inr (Or.inr (Or.inl h5))))))) (fun g5 => (Or.elim g5 (fun h6 => (Or.inr (Or.inr (Or.inr (Or.inr (Or.inr (Or.inr (Or.inl h6)))))))) (fun g6 => (Or.elim g6 (fun h7 => (Or.inr (Or.inr (Or.inr (Or.inr (Or.inr (Or.inr (Or.inr (Or.inl h7))))))))) (fun g7 => (Or.elim g7 (fun h8 => (Or.inr (Or.inr (Or.inr (Or.inr (Or.inr (Or.inr (Or.inr (Or.inr (Or.inl h8)))))))))) (fun g8 => (Or.elim g8 (fun h9 => (Or.inr (Or.inr (Or.inr (Or.inr (Or.inr (Or.inr (Or.inr (Or.inr (Or.inr (Or.inl h9))))))))))) (fun g9 => (Or.elim g9 (fun h10 => (Or.inr (Or.inr (Or.inr (Or.inr (Or.inr (Or.inr (Or.inr (Or.inr (Or.inr (Or.inr (Or.inl h10)))))))))))) (fun g10 => (Or.inr (Or.inr (Or.inr (Or.inr (Or.inr (Or.inr (Or.inr (Or.inr (Or.inr (Or.inr (Or.inr g10)))))))))))))))))))))))))))))))))))
  by_cases hc2z : r1.1 = 0
  · rw [if_pos hc2z] at h
    obtain rfl := Option.some.inj h
    exact z4
  · rw [if_neg hc2z] at h
    obtain ⟨q11, h_q11, h⟩ := Option.bind_eq_some_iff.mp h
    have z5 := mx_out.tr z4 (mx_out.sub (S := (WSX8_readAll a p0 p1)) (ZX8_readAll_L15 zrec mx_FU h_q11) (fun b j hb => (Or.elim hb (fun h0 => (Or.inl h0)) (fun g0 => (Or.elim g0 (fun h1 => (Or.inr (Or.inl h1))) (fun g1 => (Or.elim g1 (fun h2 => (Or.inr (Or.inr (Or.inl h2)))) (fun g2 => (Or.elim g2 (fun h3 => (Or.inr (Or.inr (Or.inr (Or.inl h3))))) (fun g3 => (Or.elim g3 (fun h4 => (Or.inr (Or.inr (Or.inr (Or.inr (Or.inl h4)))))) (fun g4 => (Or.elim g4 (fun h5 => (Or.inr (Or.inr (Or.inr (Or.inr (Or.inr (Or.inl h5))))))) (fun g5 => (Or.elim g5 (fun h6 => (Or.inr (Or.inr (Or.inr (Or.inr (Or.inr (Or.inr (Or.inl h6)))))))) (fun g6 => (Or.elim g6 (fun h7 => (Or.inr (Or.inr (Or.inr (Or.inr (Or.inr (Or.inr (Or.inr (Or.inl h7))))))))) (fun g7 => (Or.elim g7 (fun h8 => (Or.inr (Or.inr (Or.inr (Or.inr (Or.inr (Or.inr (Or.inr (Or.inr (Or.inl h8)))))))))) (fun g8 => (Or.elim g8 (fun h9 => (Or.inr (Or.inr (Or.inr (Or.inr (Or.inr (Or.inr (Or.inr (Or.inr (Or.inr (Or.inl h9))))))))))) (fun g9 => (Or.elim g9 (fun h10 => (Or.inr (Or.inr (Or.inr (Or.inr (Or.inr (Or.inr (Or.inr (Or.inr (Or.inr (Or.inr (Or.inl h10)))))))))))) (fun g10 => (Or.inr (Or.inr (Or.inr (Or.inr (Or.inr (Or.inr (Or.inr (Or.inr (Or.inr (Or.inr (Or.inr g10)))))))))))))))))))))))))))))))))))
    rcases q11 with rr13 | u12
    · rw [Sum.elim_inl] at h
      obtain rfl := Option.some.inj h
      exact z5
    · rw [Sum.elim_inr] at h
      obtain rfl := Option.some.inj h
      exact z5
set_option maxRecDepth 20000 in
theorem ZX8_readCond_L15 {rec : Nat → Nat → Nat → Int32 → mB → Option (Int32 × mB)} {q0 : Nat} {q1 : Nat} {q2 : Nat} {y3 : Int32} (zrec : ∀ {a : Nat} {p0 : Nat} {p1 : Nat} {x2 : Int32} {m : mB} {r : (Int32 × mB)}, rec a p0 p1 x2 m = some r → mx_out (WSX8_readOne a p0 p1) m r.2) : ∀ (f : Nat) {y4 : Int32} {m : mB} {q : ((Int32 × mB) ⊕ (mB))}, FX8_readCond_L15 rec q0 q1 q2 y3 f y4 m = some q → mx_out (WSX8_readCond_L15 q0 q1 q2) m (Sum.elim (fun rr => rr.2) (fun u => u) q) := by
  intro f
  induction f with
  | zero => intro _ _ _ h; cases h
  | succ f ih =>
    intro y4 m q h
    rw [FX8_readCond_L15] at h
    have z0 : mx_out (WSX8_readCond_L15 q0 q1 q2) m m := mx_out.rf
    by_cases hc3z : 40 ≤ y4
    · rw [if_pos hc3z] at h
      obtain rfl := Option.some.inj h
      exact z0
    · rw [if_neg hc3z] at h
      obtain ⟨r4, h_r4, h⟩ := Option.bind_eq_some_iff.mp h
      by_cases hc5z : r4 = 110
      · rw [if_pos hc5z] at h
        obtain ⟨r6, h_r6, h⟩ := Option.bind_eq_some_iff.mp h
        have z1 : mx_out (WSX8_readCond_L15 q0 q1 q2) m r6 := mx_out.tr z0 (mx_out.sub (ZX10_advance h_r6) (fun b j hb => (Or.elim hb (fun h0 => (Or.inr (Or.inr (Or.inr (Or.inr (Or.inr (Or.inr (Or.inr (Or.inl h0))))))))) (fun g0 => (Or.elim g0 (fun h1 => (Or.inr (Or.inr (Or.inr (Or.inr (Or.inr (Or.inr (Or.inr (Or.inr (Or.inl h1)))))))))) (fun g1 => (Or.elim g1 (fun h2 => (Or.inr (Or.inr (Or.inr (Or.inr (Or.inr (Or.inr (Or.inr (Or.inr (Or.inr (Or.inl h2))))))))))) (fun g2 => (Or.elim g2 (fun h3 => (Or.inr (Or.inr (Or.inr (Or.inr (Or.inr (Or.inr (Or.inr (Or.inr (Or.inr (Or.inr (Or.inl h3)))))))))))) (fun g3 => (Or.inr (Or.inr (Or.inr (Or.inr (Or.inr (Or.inr (Or.inr (Or.inr (Or.inr (Or.inr (Or.inr g3)))))))))))))))))))))
        obtain ⟨r7, h_r7, h⟩ := Option.bind_eq_some_iff.mp h
        have z2 : mx_out (WSX8_readCond_L15 q0 q1 q2) m r7.2 := mx_out.tr z1 (mx_out.sub (ZX8_readAll zrec h_r7) (fun b j hb => (Or.elim hb (fun h0 => (Or.inl h0)) (fun g0 => (Or.elim g0 (fun h1 => (Or.inr (Or.inl h1))) (fun g1 => (Or.elim g1 (fun h2 => (Or.inr (Or.inr (Or.inl h2)))) (fun g2 => (Or.elim g2 (fun h3 => (Or.inr (Or.inr (Or.inr (Or.inl h3))))) (fun g3 => (Or.elim g3 (fun h4 => (Or.inr (Or.inr (Or.inr (Or.inr (Or.inl h4)))))) (fun g4 => (Or.elim g4 (fun h5 => (Or.inr (Or.inr (Or.inr (Or.inr (Or.inr (Or.inl h5))))))) (fun g5 => (Or.elim g5 (fun h6 => (Or.inr (Or.inr (Or.inr (Or.inr (Or.inr (Or.inr (Or.inl h6)))))))) (fun g6 => (Or.elim g6 (fun h7 => (Or.inr (Or.inr (Or.inr (Or.inr (Or.inr (Or.inr (Or.inr (Or.inl h7))))))))) (fun g7 => (Or.elim g7 (fun h8 => (Or.inr (Or.inr (Or.inr (Or.inr (Or.inr (Or.inr (Or.inr (Or.inr (Or.inl h8)))))))))) (fun g8 => (Or.elim g8 (fun h9 => (Or.inr (Or.inr (Or.inr (Or.inr (Or.inr (Or.inr (Or.inr (Or.inr (Or.inr (Or.inl h9))))))))))) (fun g9 => (Or.elim g9 (fun h10 => (Or.inr (Or.inr (Or.inr (Or.inr (Or.inr (Or.inr (Or.inr (Or.inr (Or.inr (Or.inr (Or.inl h10)))))))))))) (fun g10 => (Or.inr (Or.inr (Or.inr (Or.inr (Or.inr (Or.inr (Or.inr (Or.inr (Or.inr (Or.inr (Or.inr g10)))))))))))))))))))))))))))))))))))
        by_cases hc8z : r7.1 = 0
        · rw [if_pos hc8z] at h
          obtain rfl := Option.some.inj h
          exact z2
        · rw [if_neg hc8z] at h
          obtain ⟨r9, h_r9, h⟩ := Option.bind_eq_some_iff.mp h
          have z3 : mx_out (WSX8_readCond_L15 q0 q1 q2) m r9.2 := mx_out.tr z2 (mx_out.sub (ZX8_put h_r9) (fun b j hb => (Or.elim hb (fun h0 => (Or.inl h0)) (fun g0 => (Or.elim g0 (fun h1 => (Or.inr (Or.inr (Or.inl h1)))) (fun g1 => (Or.elim g1 (fun h2 => (Or.inr (Or.inr (Or.inr (Or.inl h2))))) (fun g2 => (Or.inr (Or.inr (Or.inr (Or.inr (Or.inl g2)))))))))))))
          obtain ⟨v10, -, h⟩ := mx_letE h
          exact mx_out.tr z3 (ih h)
      · rw [if_neg hc5z] at h
        obtain rfl := Option.some.inj h
        exact z0
set_option maxRecDepth 20000 in
theorem ZX8_readCond {rec : Nat → Nat → Nat → Int32 → mB → Option (Int32 × mB)} {a : Nat} {p0 : Nat} {p1 : Nat} {x2 : Int32} {m : mB} {r : (Int32 × mB)} (zrec : ∀ {a : Nat} {p0 : Nat} {p1 : Nat} {x2 : Int32} {m : mB} {r : (Int32 × mB)}, rec a p0 p1 x2 m = some r → mx_out (WSX8_readOne a p0 p1) m r.2) (h : FX8_readCond rec a p0 p1 x2 m = some r) : mx_out (WSX8_readCond a p0 p1) m r.2 := by
  unfold FX8_readCond at h
  have z0 : mx_out (WSX8_readCond a p0 p1) m m := mx_out.rf
  obtain ⟨r1, h_r1, h⟩ := Option.bind_eq_some_iff.mp h
  have z4 : mx_out (WSX8_readCond a p0 p1) m r1.2 := mx_out.tr z0 (mx_out.sub (ZX8_readAll zrec h_r1) (fun b j hb => (Or.elim hb (fun h0 => (Or.inl h0)) (fun g0 => (Or.elim g0 (fun h1 => (Or.inr (Or.inl h1))) (fun g1 => (Or.elim g1 (fun h2 => (Or.inr (Or.inr (Or.inl h2)))) (fun g2 => (Or.elim g2 (fun h3 => (Or.inr (Or.inr (Or.inr (Or.inl h3))))) (fun g3 => (Or.elim g3 (fun h4 => (Or.inr (Or.inr (Or.inr (Or.inr (Or.inl h4)))))) (fun g4 => (Or.elim g4 (fun h5 => (Or.inr (Or.inr (Or.inr (Or.inr (Or.inr (Or.inl h5))))))) (fun g5 => (Or.elim g5 (fun h6 => (Or.inr (Or.inr (Or.inr (Or.inr (Or.inr (Or.inr (Or.inl h6)))))))) (fun g6 => (Or.elim g6 (fun h7 => (Or.inr (Or.inr (Or.inr (Or.inr (Or.inr (Or.inr (Or.inr (Or.inl h7))))))))) (fun g7 => (Or.elim g7 (fun h8 => (Or.inr (Or.inr (Or.inr (Or.inr (Or.inr (Or.inr (Or.inr (Or.inr (Or.inl h8)))))))))) (fun g8 => (Or.elim g8 (fun h9 => (Or.inr (Or.inr (Or.inr (Or.inr (Or.inr (Or.inr (Or.inr (Or.inr (Or.inr (Or.inl h9))))))))))) (fun g9 => (Or.elim g9 (fun h10 => (Or.inr (Or.inr (Or.inr (Or.inr (Or.inr (Or.inr (Or.inr (Or.inr (Or.inr (Or.inr (Or.inl h10)))))))))))) (fun g10 => (Or.inr (Or.inr (Or.inr (Or.inr (Or.inr (Or.inr (Or.inr (Or.inr (Or.inr (Or.inr (Or.inr g10)))))))))))))))))))))))))))))))))))
  by_cases hc2z : r1.1 = 0
  · rw [if_pos hc2z] at h
    obtain rfl := Option.some.inj h
    exact z4
  · rw [if_neg hc2z] at h
    obtain ⟨q11, h_q11, h⟩ := Option.bind_eq_some_iff.mp h
    have z5 := mx_out.tr z4 (mx_out.sub (S := (WSX8_readCond a p0 p1)) (ZX8_readCond_L15 zrec mx_FU h_q11) (fun b j hb => (Or.elim hb (fun h0 => (Or.inl h0)) (fun g0 => (Or.elim g0 (fun h1 => (Or.inr (Or.inl h1))) (fun g1 => (Or.elim g1 (fun h2 => (Or.inr (Or.inr (Or.inl h2)))) (fun g2 => (Or.elim g2 (fun h3 => (Or.inr (Or.inr (Or.inr (Or.inl h3))))) (fun g3 => (Or.elim g3 (fun h4 => (Or.inr (Or.inr (Or.inr (Or.inr (Or.inl h4)))))) (fun g4 => (Or.elim g4 (fun h5 => (Or.inr (Or.inr (Or.inr (Or.inr (Or.inr (Or.inl h5))))))) (fun g5 => (Or.elim g5 (fun h6 => (Or.inr (Or.inr (Or.inr (Or.inr (Or.inr (Or.inr (Or.inl h6)))))))) (fun g6 => (Or.elim g6 (fun h7 => (Or.inr (Or.inr (Or.inr (Or.inr (Or.inr (Or.inr (Or.inr (Or.inl h7))))))))) (fun g7 => (Or.elim g7 (fun h8 => (Or.inr (Or.inr (Or.inr (Or.inr (Or.inr (Or.inr (Or.inr (Or.inr (Or.inl h8)))))))))) (fun g8 => (Or.elim g8 (fun h9 => (Or.inr (Or.inr (Or.inr (Or.inr (Or.inr (Or.inr (Or.inr (Or.inr (Or.inr (Or.inl h9))))))))))) (fun g9 => (Or.elim g9 (fun h10 => (Or.inr (Or.inr (Or.inr (Or.inr (Or.inr (Or.inr (Or.inr (Or.inr (Or.inr (Or.inr (Or.inl h10)))))))))))) (fun g10 => (Or.inr (Or.inr (Or.inr (Or.inr (Or.inr (Or.inr (Or.inr (Or.inr (Or.inr (Or.inr (Or.inr g10)))))))))))))))))))))))))))))))))))
    rcases q11 with rr13 | u12
    · rw [Sum.elim_inl] at h
      obtain rfl := Option.some.inj h
      exact z5
    · rw [Sum.elim_inr] at h
      obtain rfl := Option.some.inj h
      exact z5
set_option maxRecDepth 20000 in
theorem ZX8_putIfRead {a : Nat} {x0 : Int32} {x1 : Int32} {x2 : Int32} {m : mB} {r : (Int32 × mB)} (h : FX8_putIfRead a x0 x1 x2 m = some r) : mx_out (WSX8_putIfRead a) m r.2 := by
  unfold FX8_putIfRead at h
  have z0 : mx_out (WSX8_putIfRead a) m m := mx_out.rf
  by_cases hc1z : x2 = (-1)
  · rw [if_pos hc1z] at h
    obtain rfl := Option.some.inj h
    exact z0
  · rw [if_neg hc1z] at h
    obtain ⟨r2, h_r2, h⟩ := Option.bind_eq_some_iff.mp h
    have z1 : mx_out (WSX8_putIfRead a) m r2.2 := mx_out.tr z0 (mx_out.sub (ZX8_put h_r2) (fun b j hb => (Or.elim hb (fun h0 => (Or.inl h0)) (fun g0 => (Or.elim g0 (fun h1 => (Or.inr (Or.inl h1))) (fun g1 => (Or.elim g1 (fun h2 => (Or.inr (Or.inr (Or.inl h2)))) (fun g2 => (Or.inr (Or.inr (Or.inr g2)))))))))))
    by_cases hc3z : r2.1 = 0
    · rw [if_pos hc3z] at h
      obtain rfl := Option.some.inj h
      exact z1
    · rw [if_neg hc3z] at h
      obtain rfl := Option.some.inj h
      exact z1
set_option maxRecDepth 20000 in
theorem ZX8_readOne_B {rec : Nat → Nat → Nat → Int32 → mB → Option (Int32 × mB)} {a : Nat} {p0 : Nat} {p1 : Nat} {x2 : Int32} {m : mB} {r : (Int32 × mB)} (zrec : ∀ {a : Nat} {p0 : Nat} {p1 : Nat} {x2 : Int32} {m : mB} {r : (Int32 × mB)}, rec a p0 p1 x2 m = some r → mx_out (WSX8_readOne a p0 p1) m r.2) (h : FX8_readOne_B rec a p0 p1 x2 m = some r) : mx_out (WSX8_readOne a p0 p1) m r.2 := by
  unfold FX8_readOne_B at h
  have z0 : mx_out (WSX8_readOne a p0 p1) m m := mx_out.rf
  obtain ⟨r1, h_r1, h⟩ := Option.bind_eq_some_iff.mp h
  refine mx_letK (J := fun k4 => ∀ {m3 : mB}, k4 m3 = some r → mx_out (WSX8_readOne a p0 p1) m m3 → mx_out (WSX8_readOne a p0 p1) m r.2) h ?_ (fun k4 z_k4 h => ?_)
  · intro m3 h z1
    dsimp only at h
    by_cases hc5z : 20 ≤ (m3.1 a 5)
    · rw [if_pos hc5z] at h
      obtain ⟨r6, h_r6, h⟩ := Option.bind_eq_some_iff.mp h
      have z2 : mx_out (WSX8_readOne a p0 p1) m r6.2 := mx_out.tr z1 (mx_out.sub (ZX10_fail h_r6) (fun b j hb => (Or.elim hb (fun h0 => (Or.inr (Or.inr (Or.inr (Or.inr (Or.inr (Or.inl h0))))))) (fun g0 => (Or.inr (Or.inr (Or.inr (Or.inr (Or.inr (Or.inr (Or.inl g0)))))))))))
      obtain ⟨-, h⟩ := mx_chkE h
      obtain rfl := Option.some.inj h
      exact z2
    · rw [if_neg hc5z] at h
      by_cases hc8z : x2 ≤ 8
      · rw [if_pos hc8z] at h
        obtain ⟨m9, e_m9, h⟩ := mx_letE h
        have z3 : mx_out (WSX8_readOne a p0 p1) m m9 := by first | exact mx_out_up z1 e_m9 (Or.inr (Or.inl ⟨rfl, rfl⟩)) | exact mx_out_ul z1 e_m9 (Or.inr (Or.inl ⟨rfl, rfl⟩)) | exact mx_out_cp z1 e_m9 (fun j => (Or.inr (Or.inl ⟨rfl, rfl⟩))) | exact mx_out_cl z1 e_m9 (fun j => (Or.inr (Or.inl ⟨rfl, rfl⟩)))
        obtain ⟨r10, h_r10, h⟩ := Option.bind_eq_some_iff.mp h
        have z4 : mx_out (WSX8_readOne a p0 p1) m r10 := mx_out.tr z3 (mx_out.sub (ZX10_advance h_r10) (fun b j hb => (Or.elim hb (fun h0 => (Or.inr (Or.inr (Or.inr (Or.inr (Or.inr (Or.inr (Or.inr (Or.inl h0))))))))) (fun g0 => (Or.elim g0 (fun h1 => (Or.inr (Or.inr (Or.inr (Or.inr (Or.inr (Or.inr (Or.inr (Or.inr (Or.inl h1)))))))))) (fun g1 => (Or.elim g1 (fun h2 => (Or.inr (Or.inr (Or.inr (Or.inr (Or.inr (Or.inr (Or.inr (Or.inr (Or.inr (Or.inl h2))))))))))) (fun g2 => (Or.elim g2 (fun h3 => (Or.inr (Or.inr (Or.inr (Or.inr (Or.inr (Or.inr (Or.inr (Or.inr (Or.inr (Or.inr (Or.inl h3)))))))))))) (fun g3 => (Or.inr (Or.inr (Or.inr (Or.inr (Or.inr (Or.inr (Or.inr (Or.inr (Or.inr (Or.inr (Or.inr g3)))))))))))))))))))))
        by_cases hc11 : r1 = 40
        · rw [if_pos hc11] at h
          obtain ⟨r12, h_r12, h⟩ := Option.bind_eq_some_iff.mp h
          have z5 : mx_out (WSX8_readOne a p0 p1) m r12.2 := mx_out.tr z4 (mx_out.sub (ZX8_readCond zrec h_r12) (fun b j hb => (Or.elim hb (fun h0 => (Or.inl h0)) (fun g0 => (Or.elim g0 (fun h1 => (Or.inr (Or.inl h1))) (fun g1 => (Or.elim g1 (fun h2 => (Or.inr (Or.inr (Or.inl h2)))) (fun g2 => (Or.elim g2 (fun h3 => (Or.inr (Or.inr (Or.inr (Or.inl h3))))) (fun g3 => (Or.elim g3 (fun h4 => (Or.inr (Or.inr (Or.inr (Or.inr (Or.inl h4)))))) (fun g4 => (Or.elim g4 (fun h5 => (Or.inr (Or.inr (Or.inr (Or.inr (Or.inr (Or.inl h5))))))) (fun g5 => (Or.elim g5 (fun h6 => (Or.inr (Or.inr (Or.inr (Or.inr (Or.inr (Or.inr (Or.inl h6)))))))) (fun g6 => (Or.elim g6 (fun h7 => (Or.inr (Or.inr (Or.inr (Or.inr (Or.inr (Or.inr (Or.inr (Or.inl h7))))))))) (fun g7 => (Or.elim g7 (fun h8 => (Or.inr (Or.inr (Or.inr (Or.inr (Or.inr (Or.inr (Or.inr (Or.inr (Or.inl h8)))))))))) (fun g8 => (Or.elim g8 (fun h9 => (Or.inr (Or.inr (Or.inr (Or.inr (Or.inr (Or.inr (Or.inr (Or.inr (Or.inr (Or.inl h9))))))))))) (fun g9 => (Or.elim g9 (fun h10 => (Or.inr (Or.inr (Or.inr (Or.inr (Or.inr (Or.inr (Or.inr (Or.inr (Or.inr (Or.inr (Or.inl h10)))))))))))) (fun g10 => (Or.inr (Or.inr (Or.inr (Or.inr (Or.inr (Or.inr (Or.inr (Or.inr (Or.inr (Or.inr (Or.inr g10)))))))))))))))))))))))))))))))))))
          by_cases hc13z : r12.1 = 0
          · rw [if_pos hc13z] at h
            obtain rfl := Option.some.inj h
            exact z5
          · rw [if_neg hc13z] at h
            obtain ⟨r14, h_r14, h⟩ := Option.bind_eq_some_iff.mp h
            have z6 : mx_out (WSX8_readOne a p0 p1) m r14.2 := mx_out.tr z5 (mx_out.sub (ZX10_take h_r14) (fun b j hb => (Or.elim hb (fun h0 => (Or.inr (Or.inr (Or.inr (Or.inr (Or.inr (Or.inl h0))))))) (fun g0 => (Or.elim g0 (fun h1 => (Or.inr (Or.inr (Or.inr (Or.inr (Or.inr (Or.inr (Or.inl h1)))))))) (fun g1 => (Or.elim g1 (fun h2 => (Or.inr (Or.inr (Or.inr (Or.inr (Or.inr (Or.inr (Or.inr (Or.inl h2))))))))) (fun g2 => (Or.elim g2 (fun h3 => (Or.inr (Or.inr (Or.inr (Or.inr (Or.inr (Or.inr (Or.inr (Or.inr (Or.inl h3)))))))))) (fun g3 => (Or.elim g3 (fun h4 => (Or.inr (Or.inr (Or.inr (Or.inr (Or.inr (Or.inr (Or.inr (Or.inr (Or.inr (Or.inl h4))))))))))) (fun g4 => (Or.elim g4 (fun h5 => (Or.inr (Or.inr (Or.inr (Or.inr (Or.inr (Or.inr (Or.inr (Or.inr (Or.inr (Or.inr (Or.inl h5)))))))))))) (fun g5 => (Or.inr (Or.inr (Or.inr (Or.inr (Or.inr (Or.inr (Or.inr (Or.inr (Or.inr (Or.inr (Or.inr g5)))))))))))))))))))))))))
            by_cases hc15z : r14.1 = 0
            · rw [if_pos hc15z] at h
              obtain rfl := Option.some.inj h
              exact z6
            · rw [if_neg hc15z] at h
              obtain rfl := Option.some.inj h
              exact z6
        · rw [if_neg hc11] at h
          by_cases hc16 : r1 = 112
          · rw [if_pos hc16] at h
            obtain ⟨r17, h_r17, h⟩ := Option.bind_eq_some_iff.mp h
            have z7 : mx_out (WSX8_readOne a p0 p1) m r17.2 := mx_out.tr z4 (mx_out.sub (zrec h_r17) (fun b j hb => (Or.elim hb (fun h0 => (Or.inl h0)) (fun g0 => (Or.elim g0 (fun h1 => (Or.inr (Or.inl h1))) (fun g1 => (Or.elim g1 (fun h2 => (Or.inr (Or.inr (Or.inl h2)))) (fun g2 => (Or.elim g2 (fun h3 => (Or.inr (Or.inr (Or.inr (Or.inl h3))))) (fun g3 => (Or.elim g3 (fun h4 => (Or.inr (Or.inr (Or.inr (Or.inr (Or.inl h4)))))) (fun g4 => (Or.elim g4 (fun h5 => (Or.inr (Or.inr (Or.inr (Or.inr (Or.inr (Or.inl h5))))))) (fun g5 => (Or.elim g5 (fun h6 => (Or.inr (Or.inr (Or.inr (Or.inr (Or.inr (Or.inr (Or.inl h6)))))))) (fun g6 => (Or.elim g6 (fun h7 => (Or.inr (Or.inr (Or.inr (Or.inr (Or.inr (Or.inr (Or.inr (Or.inl h7))))))))) (fun g7 => (Or.elim g7 (fun h8 => (Or.inr (Or.inr (Or.inr (Or.inr (Or.inr (Or.inr (Or.inr (Or.inr (Or.inl h8)))))))))) (fun g8 => (Or.elim g8 (fun h9 => (Or.inr (Or.inr (Or.inr (Or.inr (Or.inr (Or.inr (Or.inr (Or.inr (Or.inr (Or.inl h9))))))))))) (fun g9 => (Or.elim g9 (fun h10 => (Or.inr (Or.inr (Or.inr (Or.inr (Or.inr (Or.inr (Or.inr (Or.inr (Or.inr (Or.inr (Or.inl h10)))))))))))) (fun g10 => (Or.inr (Or.inr (Or.inr (Or.inr (Or.inr (Or.inr (Or.inr (Or.inr (Or.inr (Or.inr (Or.inr g10)))))))))))))))))))))))))))))))))))
            by_cases hc18z : r17.1 = 0
            · rw [if_pos hc18z] at h
              obtain rfl := Option.some.inj h
              exact z7
            · rw [if_neg hc18z] at h
              obtain ⟨r19, h_r19, h⟩ := Option.bind_eq_some_iff.mp h
              have z8 : mx_out (WSX8_readOne a p0 p1) m r19.2 := mx_out.tr z7 (mx_out.sub (ZX8_put h_r19) (fun b j hb => (Or.elim hb (fun h0 => (Or.inl h0)) (fun g0 => (Or.elim g0 (fun h1 => (Or.inr (Or.inr (Or.inl h1)))) (fun g1 => (Or.elim g1 (fun h2 => (Or.inr (Or.inr (Or.inr (Or.inl h2))))) (fun g2 => (Or.inr (Or.inr (Or.inr (Or.inr (Or.inl g2)))))))))))))
              by_cases hc20z : r19.1 = 0
              · rw [if_pos hc20z] at h
                obtain rfl := Option.some.inj h
                exact z8
              · rw [if_neg hc20z] at h
                obtain rfl := Option.some.inj h
                exact z8
          · rw [if_neg hc16] at h
            by_cases hc21 : r1 = 113
            · rw [if_pos hc21] at h
              obtain ⟨r22, h_r22, h⟩ := Option.bind_eq_some_iff.mp h
              have z9 : mx_out (WSX8_readOne a p0 p1) m r22.2 := mx_out.tr z4 (mx_out.sub (ZX8_put h_r22) (fun b j hb => (Or.elim hb (fun h0 => (Or.inl h0)) (fun g0 => (Or.elim g0 (fun h1 => (Or.inr (Or.inr (Or.inl h1)))) (fun g1 => (Or.elim g1 (fun h2 => (Or.inr (Or.inr (Or.inr (Or.inl h2))))) (fun g2 => (Or.inr (Or.inr (Or.inr (Or.inr (Or.inl g2)))))))))))))
              obtain ⟨-, h⟩ := mx_chkE h
              obtain rfl := Option.some.inj h
              exact z9
            · rw [if_neg hc21] at h
              by_cases hc24 : r1 = 114
              · rw [if_pos hc24] at h
                obtain ⟨r25, h_r25, h⟩ := Option.bind_eq_some_iff.mp h
                have z10 : mx_out (WSX8_readOne a p0 p1) m r25.2 := mx_out.tr z4 (mx_out.sub (ZX8_put h_r25) (fun b j hb => (Or.elim hb (fun h0 => (Or.inl h0)) (fun g0 => (Or.elim g0 (fun h1 => (Or.inr (Or.inr (Or.inl h1)))) (fun g1 => (Or.elim g1 (fun h2 => (Or.inr (Or.inr (Or.inr (Or.inl h2))))) (fun g2 => (Or.inr (Or.inr (Or.inr (Or.inr (Or.inl g2)))))))))))))
                obtain ⟨-, h⟩ := mx_chkE h
                obtain rfl := Option.some.inj h
                exact z10
              · rw [if_neg hc24] at h
                by_cases hc27 : r1 = 115
                · rw [if_pos hc27] at h
                  obtain ⟨r28, h_r28, h⟩ := Option.bind_eq_some_iff.mp h
                  have z11 : mx_out (WSX8_readOne a p0 p1) m r28.2 := mx_out.tr z4 (mx_out.sub (ZX10_takePoint h_r28) (fun b j hb => (Or.elim hb (fun h0 => (Or.inr (Or.inr (Or.inr (Or.inr (Or.inr (Or.inl h0))))))) (fun g0 => (Or.elim g0 (fun h1 => (Or.inr (Or.inr (Or.inr (Or.inr (Or.inr (Or.inr (Or.inl h1)))))))) (fun g1 => (Or.elim g1 (fun h2 => (Or.inr (Or.inr (Or.inr (Or.inr (Or.inr (Or.inr (Or.inr (Or.inl h2))))))))) (fun g2 => (Or.elim g2 (fun h3 => (Or.inr (Or.inr (Or.inr (Or.inr (Or.inr (Or.inr (Or.inr (Or.inr (Or.inl h3)))))))))) (fun g3 => (Or.elim g3 (fun h4 => (Or.inr (Or.inr (Or.inr (Or.inr (Or.inr (Or.inr (Or.inr (Or.inr (Or.inr (Or.inl h4))))))))))) (fun g4 => (Or.elim g4 (fun h5 => (Or.inr (Or.inr (Or.inr (Or.inr (Or.inr (Or.inr (Or.inr (Or.inr (Or.inr (Or.inr (Or.inl h5)))))))))))) (fun g5 => (Or.inr (Or.inr (Or.inr (Or.inr (Or.inr (Or.inr (Or.inr (Or.inr (Or.inr (Or.inr (Or.inr g5)))))))))))))))))))))))))
                  obtain ⟨r29, h_r29, h⟩ := Option.bind_eq_some_iff.mp h
                  have z12 : mx_out (WSX8_readOne a p0 p1) m r29.2 := mx_out.tr z11 (mx_out.sub (ZX8_putIfRead h_r29) (fun b j hb => (Or.elim hb (fun h0 => (Or.inl h0)) (fun g0 => (Or.elim g0 (fun h1 => (Or.inr (Or.inr (Or.inl h1)))) (fun g1 => (Or.elim g1 (fun h2 => (Or.inr (Or.inr (Or.inr (Or.inl h2))))) (fun g2 => (Or.inr (Or.inr (Or.inr (Or.inr (Or.inl g2)))))))))))))
                  obtain ⟨-, h⟩ := mx_chkE h
                  obtain rfl := Option.some.inj h
                  exact z12
                · rw [if_neg hc27] at h
                  by_cases hc31 : r1 = 116
                  · rw [if_pos hc31] at h
                    obtain ⟨r32, h_r32, h⟩ := Option.bind_eq_some_iff.mp h
                    have z13 : mx_out (WSX8_readOne a p0 p1) m r32.2 := mx_out.tr z4 (mx_out.sub (ZX10_takePoint h_r32) (fun b j hb => (Or.elim hb (fun h0 => (Or.inr (Or.inr (Or.inr (Or.inr (Or.inr (Or.inl h0))))))) (fun g0 => (Or.elim g0 (fun h1 => (Or.inr (Or.inr (Or.inr (Or.inr (Or.inr (Or.inr (Or.inl h1)))))))) (fun g1 => (Or.elim g1 (fun h2 => (Or.inr (Or.inr (Or.inr (Or.inr (Or.inr (Or.inr (Or.inr (Or.inl h2))))))))) (fun g2 => (Or.elim g2 (fun h3 => (Or.inr (Or.inr (Or.inr (Or.inr (Or.inr (Or.inr (Or.inr (Or.inr (Or.inl h3)))))))))) (fun g3 => (Or.elim g3 (fun h4 => (Or.inr (Or.inr (Or.inr (Or.inr (Or.inr (Or.inr (Or.inr (Or.inr (Or.inr (Or.inl h4))))))))))) (fun g4 => (Or.elim g4 (fun h5 => (Or.inr (Or.inr (Or.inr (Or.inr (Or.inr (Or.inr (Or.inr (Or.inr (Or.inr (Or.inr (Or.inl h5)))))))))))) (fun g5 => (Or.inr (Or.inr (Or.inr (Or.inr (Or.inr (Or.inr (Or.inr (Or.inr (Or.inr (Or.inr (Or.inr g5)))))))))))))))))))))))))
                    obtain ⟨r33, h_r33, h⟩ := Option.bind_eq_some_iff.mp h
                    have z14 : mx_out (WSX8_readOne a p0 p1) m r33.2 := mx_out.tr z13 (mx_out.sub (ZX8_putIfRead h_r33) (fun b j hb => (Or.elim hb (fun h0 => (Or.inl h0)) (fun g0 => (Or.elim g0 (fun h1 => (Or.inr (Or.inr (Or.inl h1)))) (fun g1 => (Or.elim g1 (fun h2 => (Or.inr (Or.inr (Or.inr (Or.inl h2))))) (fun g2 => (Or.inr (Or.inr (Or.inr (Or.inr (Or.inl g2)))))))))))))
                    obtain ⟨-, h⟩ := mx_chkE h
                    obtain rfl := Option.some.inj h
                    exact z14
                  · rw [if_neg hc31] at h
                    by_cases hc35 : r1 = 117
                    · rw [if_pos hc35] at h
                      obtain ⟨r36, h_r36, h⟩ := Option.bind_eq_some_iff.mp h
                      have z15 : mx_out (WSX8_readOne a p0 p1) m r36.2 := mx_out.tr z4 (mx_out.sub (ZX10_takeNumber h_r36) (fun b j hb => (Or.elim hb (fun h0 => (Or.inr (Or.inr (Or.inr (Or.inr (Or.inr (Or.inl h0))))))) (fun g0 => (Or.elim g0 (fun h1 => (Or.inr (Or.inr (Or.inr (Or.inr (Or.inr (Or.inr (Or.inl h1)))))))) (fun g1 => (Or.elim g1 (fun h2 => (Or.inr (Or.inr (Or.inr (Or.inr (Or.inr (Or.inr (Or.inr (Or.inl h2))))))))) (fun g2 => (Or.elim g2 (fun h3 => (Or.inr (Or.inr (Or.inr (Or.inr (Or.inr (Or.inr (Or.inr (Or.inr (Or.inl h3)))))))))) (fun g3 => (Or.elim g3 (fun h4 => (Or.inr (Or.inr (Or.inr (Or.inr (Or.inr (Or.inr (Or.inr (Or.inr (Or.inr (Or.inl h4))))))))))) (fun g4 => (Or.elim g4 (fun h5 => (Or.inr (Or.inr (Or.inr (Or.inr (Or.inr (Or.inr (Or.inr (Or.inr (Or.inr (Or.inr (Or.inl h5)))))))))))) (fun g5 => (Or.inr (Or.inr (Or.inr (Or.inr (Or.inr (Or.inr (Or.inr (Or.inr (Or.inr (Or.inr (Or.inr g5)))))))))))))))))))))))))
                      obtain ⟨r37, h_r37, h⟩ := Option.bind_eq_some_iff.mp h
                      have z16 : mx_out (WSX8_readOne a p0 p1) m r37.2 := mx_out.tr z15 (mx_out.sub (ZX8_putIfRead h_r37) (fun b j hb => (Or.elim hb (fun h0 => (Or.inl h0)) (fun g0 => (Or.elim g0 (fun h1 => (Or.inr (Or.inr (Or.inl h1)))) (fun g1 => (Or.elim g1 (fun h2 => (Or.inr (Or.inr (Or.inr (Or.inl h2))))) (fun g2 => (Or.inr (Or.inr (Or.inr (Or.inr (Or.inl g2)))))))))))))
                      obtain ⟨-, h⟩ := mx_chkE h
                      obtain rfl := Option.some.inj h
                      exact z16
                    · rw [if_neg hc35] at h
                      obtain ⟨r39, h_r39, h⟩ := Option.bind_eq_some_iff.mp h
                      refine mx_letK (J := fun k42 => ∀ {m41 : mB}, k42 m41 = some r → mx_out (WSX8_readOne a p0 p1) m m41 → mx_out (WSX8_readOne a p0 p1) m r.2) h ?_ (fun k42 z_k42 h => ?_)
                      · intro m41 h z17
                        dsimp only at h
                        obtain ⟨r43, h_r43, h⟩ := Option.bind_eq_some_iff.mp h
                        have z18 : mx_out (WSX8_readOne a p0 p1) m r43 := mx_out.tr z17 (mx_out.sub (ZX10_advance h_r43) (fun b j hb => (Or.elim hb (fun h0 => (Or.inr (Or.inr (Or.inr (Or.inr (Or.inr (Or.inr (Or.inr (Or.inl h0))))))))) (fun g0 => (Or.elim g0 (fun h1 => (Or.inr (Or.inr (Or.inr (Or.inr (Or.inr (Or.inr (Or.inr (Or.inr (Or.inl h1)))))))))) (fun g1 => (Or.elim g1 (fun h2 => (Or.inr (Or.inr (Or.inr (Or.inr (Or.inr (Or.inr (Or.inr (Or.inr (Or.inr (Or.inl h2))))))))))) (fun g2 => (Or.elim g2 (fun h3 => (Or.inr (Or.inr (Or.inr (Or.inr (Or.inr (Or.inr (Or.inr (Or.inr (Or.inr (Or.inr (Or.inl h3)))))))))))) (fun g3 => (Or.inr (Or.inr (Or.inr (Or.inr (Or.inr (Or.inr (Or.inr (Or.inr (Or.inr (Or.inr (Or.inr g3)))))))))))))))))))))
                        obtain ⟨r44, h_r44, h⟩ := Option.bind_eq_some_iff.mp h
                        have z19 : mx_out (WSX8_readOne a p0 p1) m r44.2 := mx_out.tr z18 (mx_out.sub (ZX10_takeNumber h_r44) (fun b j hb => (Or.elim hb (fun h0 => (Or.inr (Or.inr (Or.inr (Or.inr (Or.inr (Or.inl h0))))))) (fun g0 => (Or.elim g0 (fun h1 => (Or.inr (Or.inr (Or.inr (Or.inr (Or.inr (Or.inr (Or.inl h1)))))))) (fun g1 => (Or.elim g1 (fun h2 => (Or.inr (Or.inr (Or.inr (Or.inr (Or.inr (Or.inr (Or.inr (Or.inl h2))))))))) (fun g2 => (Or.elim g2 (fun h3 => (Or.inr (Or.inr (Or.inr (Or.inr (Or.inr (Or.inr (Or.inr (Or.inr (Or.inl h3)))))))))) (fun g3 => (Or.elim g3 (fun h4 => (Or.inr (Or.inr (Or.inr (Or.inr (Or.inr (Or.inr (Or.inr (Or.inr (Or.inr (Or.inl h4))))))))))) (fun g4 => (Or.elim g4 (fun h5 => (Or.inr (Or.inr (Or.inr (Or.inr (Or.inr (Or.inr (Or.inr (Or.inr (Or.inr (Or.inr (Or.inl h5)))))))))))) (fun g5 => (Or.inr (Or.inr (Or.inr (Or.inr (Or.inr (Or.inr (Or.inr (Or.inr (Or.inr (Or.inr (Or.inr g5)))))))))))))))))))))))))
                        obtain ⟨r45, h_r45, h⟩ := Option.bind_eq_some_iff.mp h
                        have z20 : mx_out (WSX8_readOne a p0 p1) m r45.2 := mx_out.tr z19 (mx_out.sub (ZX8_putIfRead h_r45) (fun b j hb => (Or.elim hb (fun h0 => (Or.inl h0)) (fun g0 => (Or.elim g0 (fun h1 => (Or.inr (Or.inr (Or.inl h1)))) (fun g1 => (Or.elim g1 (fun h2 => (Or.inr (Or.inr (Or.inr (Or.inl h2))))) (fun g2 => (Or.inr (Or.inr (Or.inr (Or.inr (Or.inl g2)))))))))))))
                        obtain ⟨-, h⟩ := mx_chkE h
                        obtain rfl := Option.some.inj h
                        exact z20
                      by_cases hc40z : r39 = 60
                      · rw [if_pos hc40z] at h
                        exact z_k42 h z4
                      · rw [if_neg hc40z] at h
                        by_cases hc47z : r39 = 61
                        · rw [if_pos hc47z] at h
                          exact z_k42 h z4
                        · rw [if_neg hc47z] at h
                          by_cases hc48z : r39 = 62
                          · rw [if_pos hc48z] at h
                            exact z_k42 h z4
                          · rw [if_neg hc48z] at h
                            obtain ⟨r49, h_r49, h⟩ := Option.bind_eq_some_iff.mp h
                            have z21 : mx_out (WSX8_readOne a p0 p1) m r49.2 := mx_out.tr z4 (mx_out.sub (ZX10_fail h_r49) (fun b j hb => (Or.elim hb (fun h0 => (Or.inr (Or.inr (Or.inr (Or.inr (Or.inr (Or.inl h0))))))) (fun g0 => (Or.inr (Or.inr (Or.inr (Or.inr (Or.inr (Or.inr (Or.inl g0)))))))))))
                            obtain ⟨-, h⟩ := mx_chkE h
                            obtain rfl := Option.some.inj h
                            exact z21
      · rw [if_neg hc8z] at h
        obtain ⟨r51, h_r51, h⟩ := Option.bind_eq_some_iff.mp h
        have z22 : mx_out (WSX8_readOne a p0 p1) m r51.2 := mx_out.tr z1 (mx_out.sub (ZX10_fail h_r51) (fun b j hb => (Or.elim hb (fun h0 => (Or.inr (Or.inr (Or.inr (Or.inr (Or.inr (Or.inl h0))))))) (fun g0 => (Or.inr (Or.inr (Or.inr (Or.inr (Or.inr (Or.inr (Or.inl g0)))))))))))
        obtain ⟨-, h⟩ := mx_chkE h
        obtain rfl := Option.some.inj h
        exact z22
  by_cases hc2z : r1 = 40
  · rw [if_pos hc2z] at h
    exact z_k4 h z0
  · rw [if_neg hc2z] at h
    by_cases hc53z : r1 < 112
    · rw [if_pos hc53z] at h
      obtain ⟨r54, h_r54, h⟩ := Option.bind_eq_some_iff.mp h
      have z23 : mx_out (WSX8_readOne a p0 p1) m r54.2 := mx_out.tr z0 (mx_out.sub (ZX10_fail h_r54) (fun b j hb => (Or.elim hb (fun h0 => (Or.inr (Or.inr (Or.inr (Or.inr (Or.inr (Or.inl h0))))))) (fun g0 => (Or.inr (Or.inr (Or.inr (Or.inr (Or.inr (Or.inr (Or.inl g0)))))))))))
      obtain ⟨-, h⟩ := mx_chkE h
      obtain rfl := Option.some.inj h
      exact z23
    · rw [if_neg hc53z] at h
      by_cases hc56z : r1 ≤ 121
      · rw [if_pos hc56z] at h
        exact z_k4 h z0
      · rw [if_neg hc56z] at h
        obtain ⟨r57, h_r57, h⟩ := Option.bind_eq_some_iff.mp h
        have z24 : mx_out (WSX8_readOne a p0 p1) m r57.2 := mx_out.tr z0 (mx_out.sub (ZX10_fail h_r57) (fun b j hb => (Or.elim hb (fun h0 => (Or.inr (Or.inr (Or.inr (Or.inr (Or.inr (Or.inl h0))))))) (fun g0 => (Or.inr (Or.inr (Or.inr (Or.inr (Or.inr (Or.inr (Or.inl g0)))))))))))
        obtain ⟨-, h⟩ := mx_chkE h
        obtain rfl := Option.some.inj h
        exact z24
theorem ZX8_readOne : ∀ (D : Nat) {a : Nat} {p0 : Nat} {p1 : Nat} {x2 : Int32} {m : mB} {r : (Int32 × mB)}, FX8_readOne D a p0 p1 x2 m = some r → mx_out (WSX8_readOne a p0 p1) m r.2 := by
  intro D
  induction D with
  | zero => intro _ _ _ _ _ _ h; cases h
  | succ D ih =>
    intro a p0 p1 x2 m r h
    rw [FX8_readOne] at h
    exact ZX8_readOne_B (rec := FX8_readOne D) (fun {_ _ _ _} {_} {_} hz => ih hz) h
set_option maxRecDepth 20000 in
theorem ZX8_read {a : Nat} {p0 : Nat} {p1 : Nat} {m : mB} {r : (Int32 × mB)} (h : FX8_read a p0 p1 m = some r) : mx_out (WSX8_read a p0 p1) m r.2 := by
  unfold FX8_read at h
  have z0 : mx_out (WSX8_read a p0 p1) m m := mx_out.rf
  obtain ⟨r1, h_r1, h⟩ := Option.bind_eq_some_iff.mp h
  have z1 : mx_out (WSX8_read a p0 p1) m r1 := mx_out.tr z0 (mx_out.sub (ZX8_clear h_r1) (fun b j hb => (Or.elim hb (fun h0 => (Or.inl h0)) (fun g0 => (Or.elim g0 (fun h1 => (Or.inr (Or.inl h1))) (fun g1 => (Or.inr (Or.inr (Or.inl g1)))))))))
  obtain ⟨r2, h_r2, h⟩ := Option.bind_eq_some_iff.mp h
  have z2 : mx_out (WSX8_read a p0 p1) m r2 := mx_out.tr z1 (mx_out.sub (ZX10_begin h_r2) (fun b j hb => (Or.elim hb (fun h0 => (Or.inr (Or.inr (Or.inr (Or.inr (Or.inr (Or.inr (Or.inl h0)))))))) (fun g0 => (Or.elim g0 (fun h1 => (Or.inr (Or.inr (Or.inr (Or.inr (Or.inr (Or.inr (Or.inr (Or.inl h1))))))))) (fun g1 => (Or.elim g1 (fun h2 => (Or.inr (Or.inr (Or.inr (Or.inr (Or.inr (Or.inr (Or.inr (Or.inr (Or.inl h2)))))))))) (fun g2 => (Or.elim g2 (fun h3 => (Or.inr (Or.inr (Or.inr (Or.inr (Or.inr (Or.inr (Or.inr (Or.inr (Or.inr (Or.inl h3))))))))))) (fun g3 => (Or.elim g3 (fun h4 => (Or.inr (Or.inr (Or.inr (Or.inr (Or.inr (Or.inr (Or.inr (Or.inr (Or.inr (Or.inr (Or.inl h4)))))))))))) (fun g4 => (Or.elim g4 (fun h5 => (Or.inr (Or.inr (Or.inr (Or.inr (Or.inr (Or.inr (Or.inr (Or.inr (Or.inr (Or.inr (Or.inr (Or.inl h5))))))))))))) (fun g5 => (Or.elim g5 (fun h6 => (Or.inr (Or.inr (Or.inr (Or.inr (Or.inr (Or.inr (Or.inr (Or.inr (Or.inr (Or.inr (Or.inr (Or.inr (Or.inl h6)))))))))))))) (fun g6 => (Or.elim g6 (fun h7 => (Or.inr (Or.inr (Or.inr (Or.inr (Or.inr (Or.inr (Or.inr (Or.inr (Or.inr (Or.inr (Or.inr (Or.inr (Or.inr (Or.inl h7))))))))))))))) (fun g7 => (Or.inr (Or.inr (Or.inr (Or.inr (Or.inr (Or.inr (Or.inr (Or.inr (Or.inr (Or.inr (Or.inr (Or.inr (Or.inr (Or.inr g7))))))))))))))))))))))))))))))))
  obtain ⟨r3, h_r3, h⟩ := Option.bind_eq_some_iff.mp h
  have z3 : mx_out (WSX8_read a p0 p1) m r3.2 := mx_out.tr z2 (mx_out.sub (ZX8_readCond (ZX8_readOne 64) h_r3) (fun b j hb => (Or.elim hb (fun h0 => (Or.inl h0)) (fun g0 => (Or.elim g0 (fun h1 => (Or.inr (Or.inl h1))) (fun g1 => (Or.elim g1 (fun h2 => (Or.inr (Or.inr (Or.inr (Or.inl h2))))) (fun g2 => (Or.elim g2 (fun h3 => (Or.inr (Or.inr (Or.inr (Or.inr (Or.inl h3)))))) (fun g3 => (Or.elim g3 (fun h4 => (Or.inr (Or.inr (Or.inr (Or.inr (Or.inr (Or.inl h4))))))) (fun g4 => (Or.elim g4 (fun h5 => (Or.inr (Or.inr (Or.inr (Or.inr (Or.inr (Or.inr (Or.inl h5)))))))) (fun g5 => (Or.elim g5 (fun h6 => (Or.inr (Or.inr (Or.inr (Or.inr (Or.inr (Or.inr (Or.inr (Or.inl h6))))))))) (fun g6 => (Or.elim g6 (fun h7 => (Or.inr (Or.inr (Or.inr (Or.inr (Or.inr (Or.inr (Or.inr (Or.inr (Or.inr (Or.inl h7))))))))))) (fun g7 => (Or.elim g7 (fun h8 => (Or.inr (Or.inr (Or.inr (Or.inr (Or.inr (Or.inr (Or.inr (Or.inr (Or.inr (Or.inr (Or.inr (Or.inl h8))))))))))))) (fun g8 => (Or.elim g8 (fun h9 => (Or.inr (Or.inr (Or.inr (Or.inr (Or.inr (Or.inr (Or.inr (Or.inr (Or.inr (Or.inr (Or.inr (Or.inr (Or.inl h9)))))))))))))) (fun g9 => (Or.elim g9 (fun h10 => (Or.inr (Or.inr (Or.inr (Or.inr (Or.inr (Or.inr (Or.inr (Or.inr (Or.inr (Or.inr (Or.inr (Or.inr (Or.inr (Or.inl h10))))))))))))))) (fun g10 => (Or.inr (Or.inr (Or.inr (Or.inr (Or.inr (Or.inr (Or.inr (Or.inr (Or.inr (Or.inr (Or.inr (Or.inr (Or.inr (Or.inr g10))))))))))))))))))))))))))))))))))))))
  by_cases hc4z : r3.1 = 0
  · rw [if_pos hc4z] at h
    obtain ⟨m5, e_m5, h⟩ := mx_letE h
    have z4 : mx_out (WSX8_read a p0 p1) m m5 := by first | exact mx_out_up z3 e_m5 (Or.inr (Or.inr (Or.inl ⟨rfl, rfl⟩))) | exact mx_out_ul z3 e_m5 (Or.inr (Or.inr (Or.inl ⟨rfl, rfl⟩))) | exact mx_out_cp z3 e_m5 (fun j => (Or.inr (Or.inr (Or.inl ⟨rfl, rfl⟩)))) | exact mx_out_cl z3 e_m5 (fun j => (Or.inr (Or.inr (Or.inl ⟨rfl, rfl⟩))))
    obtain ⟨-, h⟩ := mx_chkE h
    obtain rfl := Option.some.inj h
    exact z4
  · rw [if_neg hc4z] at h
    obtain ⟨r7, h_r7, h⟩ := Option.bind_eq_some_iff.mp h
    have z5 : mx_out (WSX8_read a p0 p1) m r7.2 := mx_out.tr z3 (mx_out.sub (ZX10_endsHere h_r7) (fun b j hb => (Or.elim hb (fun h0 => (Or.inr (Or.inr (Or.inr (Or.inr (Or.inr (Or.inr (Or.inl h0)))))))) (fun g0 => (Or.inr (Or.inr (Or.inr (Or.inr (Or.inr (Or.inr (Or.inr (Or.inl g0))))))))))))
    by_cases hc8z : r7.1 = 0
    · rw [if_pos hc8z] at h
      obtain ⟨m9, e_m9, h⟩ := mx_letE h
      have z6 : mx_out (WSX8_read a p0 p1) m m9 := by first | exact mx_out_up z5 e_m9 (Or.inr (Or.inr (Or.inl ⟨rfl, rfl⟩))) | exact mx_out_ul z5 e_m9 (Or.inr (Or.inr (Or.inl ⟨rfl, rfl⟩))) | exact mx_out_cp z5 e_m9 (fun j => (Or.inr (Or.inr (Or.inl ⟨rfl, rfl⟩)))) | exact mx_out_cl z5 e_m9 (fun j => (Or.inr (Or.inr (Or.inl ⟨rfl, rfl⟩))))
      obtain ⟨-, h⟩ := mx_chkE h
      obtain rfl := Option.some.inj h
      exact z6
    · rw [if_neg hc8z] at h
      obtain ⟨m11, e_m11, h⟩ := mx_letE h
      have z7 : mx_out (WSX8_read a p0 p1) m m11 := by first | exact mx_out_up z5 e_m11 (Or.inr (Or.inr (Or.inl ⟨rfl, rfl⟩))) | exact mx_out_ul z5 e_m11 (Or.inr (Or.inr (Or.inl ⟨rfl, rfl⟩))) | exact mx_out_cp z5 e_m11 (fun j => (Or.inr (Or.inr (Or.inl ⟨rfl, rfl⟩)))) | exact mx_out_cl z5 e_m11 (fun j => (Or.inr (Or.inr (Or.inl ⟨rfl, rfl⟩))))
      obtain ⟨-, h⟩ := mx_chkE h
      obtain rfl := Option.some.inj h
      exact z7
set_option maxRecDepth 20000 in
theorem ZX8_pointsOf_L21 {q0 : Nat} {q1 : Nat} {y3 : Int32} : ∀ (f : Nat) {y2 : Int32} {y4 : Int32} {m : mB} {q : (mB)}, FX8_pointsOf_L21 q0 q1 y3 f y2 y4 m = some q → mx_out (WSX8_pointsOf_L21 q0 q1) m q := by
  intro f
  induction f with
  | zero => intro _ _ _ _ h; cases h
  | succ f ih =>
    intro y2 y4 m q h
    rw [FX8_pointsOf_L21] at h
    have z0 : mx_out (WSX8_pointsOf_L21 q0 q1) m m := mx_out.rf
    by_cases hc4z : (m.1 q0 4) ≤ y4
    · rw [if_pos hc4z] at h
      obtain rfl := Option.some.inj h
      exact z0
    · rw [if_neg hc4z] at h
      by_cases hc5z : 40 ≤ y4
      · rw [if_pos hc5z] at h
        obtain rfl := Option.some.inj h
        exact z0
      · rw [if_neg hc5z] at h
        obtain ⟨-, h⟩ := mx_chkE h
        obtain ⟨v7, -, h⟩ := mx_letE h
        refine mx_letK (J := fun k10 => ∀ {m9 : mB}, k10 m9 = some q → mx_out (WSX8_pointsOf_L21 q0 q1) m m9 → mx_out (WSX8_pointsOf_L21 q0 q1) m q) h ?_ (fun k10 z_k10 h => ?_)
        · intro m9 h z1
          dsimp only at h
          refine mx_letK (J := fun k14 => ∀ {y12 : Int32} {m13 : mB}, k14 y12 m13 = some q → mx_out (WSX8_pointsOf_L21 q0 q1) m m13 → mx_out (WSX8_pointsOf_L21 q0 q1) m q) h ?_ (fun k14 z_k14 h => ?_)
          · intro y12 m13 h z2
            dsimp only at h
            refine mx_letK (J := fun k18 => ∀ {y16 : Int32} {m17 : mB}, k18 y16 m17 = some q → mx_out (WSX8_pointsOf_L21 q0 q1) m m17 → mx_out (WSX8_pointsOf_L21 q0 q1) m q) h ?_ (fun k18 z_k18 h => ?_)
            · intro y16 m17 h z3
              dsimp only at h
              by_cases hc19z : y16 < 0
              · rw [if_pos hc19z] at h
                obtain ⟨v20, -, h⟩ := mx_letE h
                exact mx_out.tr z3 (ih h)
              · rw [if_neg hc19z] at h
                by_cases hc21z : 40 ≤ y16
                · rw [if_pos hc21z] at h
                  obtain ⟨v22, -, h⟩ := mx_letE h
                  exact mx_out.tr z3 (ih h)
                · rw [if_neg hc21z] at h
                  obtain ⟨r23, h_r23, h⟩ := Option.bind_eq_some_iff.mp h
                  obtain ⟨-, h⟩ := mx_chkE h
                  obtain ⟨m24, e_m24, h⟩ := mx_letE h
                  have z4 : mx_out (WSX8_pointsOf_L21 q0 q1) m m24 := by first | exact mx_out_up z3 e_m24 rfl | exact mx_out_ul z3 e_m24 rfl | exact mx_out_cp z3 e_m24 (fun j => rfl) | exact mx_out_cl z3 e_m24 (fun j => rfl)
                  obtain ⟨v26, -, h⟩ := mx_letE h
                  obtain ⟨v27, -, h⟩ := mx_letE h
                  exact mx_out.tr z4 (ih h)
            by_cases hc15z : v7 = 110
            · rw [if_pos hc15z] at h
              by_cases hc28z : y12 < 2
              · rw [if_pos hc28z] at h
                exact z_k18 h z2
              · rw [if_neg hc28z] at h
                by_cases hc29z : 40 < y12
                · rw [if_pos hc29z] at h
                  exact z_k18 h z2
                · rw [if_neg hc29z] at h
                  obtain ⟨-, h⟩ := mx_chkE h
                  obtain ⟨-, h⟩ := mx_chkE h
                  obtain ⟨m32, e_m32, h⟩ := mx_letE h
                  have z5 : mx_out (WSX8_pointsOf_L21 q0 q1) m m32 := by first | exact mx_out_up z2 e_m32 rfl | exact mx_out_ul z2 e_m32 rfl | exact mx_out_cp z2 e_m32 (fun j => rfl) | exact mx_out_cl z2 e_m32 (fun j => rfl)
                  obtain ⟨v33, -, h⟩ := mx_letE h
                  obtain ⟨v34, -, h⟩ := mx_letE h
                  exact mx_out.tr z5 (ih h)
            · rw [if_neg hc15z] at h
              exact z_k18 h z2
          by_cases hc11z : v7 = 111
          · rw [if_pos hc11z] at h
            by_cases hc35z : y2 < 2
            · rw [if_pos hc35z] at h
              exact z_k14 h z1
            · rw [if_neg hc35z] at h
              by_cases hc36z : 40 < y2
              · rw [if_pos hc36z] at h
                exact z_k14 h z1
              · rw [if_neg hc36z] at h
                obtain ⟨-, h⟩ := mx_chkE h
                obtain ⟨-, h⟩ := mx_chkE h
                obtain ⟨m39, e_m39, h⟩ := mx_letE h
                have z6 : mx_out (WSX8_pointsOf_L21 q0 q1) m m39 := by first | exact mx_out_up z1 e_m39 rfl | exact mx_out_ul z1 e_m39 rfl | exact mx_out_cp z1 e_m39 (fun j => rfl) | exact mx_out_cl z1 e_m39 (fun j => rfl)
                obtain ⟨v40, -, h⟩ := mx_letE h
                obtain ⟨v41, -, h⟩ := mx_letE h
                exact mx_out.tr z6 (ih h)
          · rw [if_neg hc11z] at h
            exact z_k14 h z1
        by_cases hc8z : v7 = 112
        · rw [if_pos hc8z] at h
          by_cases hc42z : y2 < 1
          · rw [if_pos hc42z] at h
            exact z_k10 h z0
          · rw [if_neg hc42z] at h
            by_cases hc43z : 40 < y2
            · rw [if_pos hc43z] at h
              exact z_k10 h z0
            · rw [if_neg hc43z] at h
              obtain ⟨-, h⟩ := mx_chkE h
              obtain ⟨m45, e_m45, h⟩ := mx_letE h
              have z7 : mx_out (WSX8_pointsOf_L21 q0 q1) m m45 := by first | exact mx_out_up z0 e_m45 rfl | exact mx_out_ul z0 e_m45 rfl | exact mx_out_cp z0 e_m45 (fun j => rfl) | exact mx_out_cl z0 e_m45 (fun j => rfl)
              obtain ⟨v46, -, h⟩ := mx_letE h
              exact mx_out.tr z7 (ih h)
        · rw [if_neg hc8z] at h
          exact z_k10 h z0
set_option maxRecDepth 20000 in
theorem ZX8_pointsOf {a : Nat} {p0 : Nat} {m : mB} {r : (Int32 × mB)} (h : FX8_pointsOf a p0 m = some r) : mx_out (WSX8_pointsOf a p0) m r.2 := by
  unfold FX8_pointsOf at h
  have z0 : mx_out (WSX8_pointsOf a p0) m m := mx_out.rf
  obtain ⟨r1, h_r1, h⟩ := Option.bind_eq_some_iff.mp h
  obtain ⟨v2, -, h⟩ := mx_letE h
  obtain ⟨m3, e_m3, h⟩ := mx_letE h
  have z8 : mx_out (WSX8_pointsOf a p0) m m3 := by first | exact mx_out_up z0 e_m3 rfl | exact mx_out_ul z0 e_m3 rfl | exact mx_out_cp z0 e_m3 (fun j => rfl) | exact mx_out_cl z0 e_m3 (fun j => rfl)
  obtain ⟨q47, h_q47, h⟩ := Option.bind_eq_some_iff.mp h
  have z9 := mx_out.tr z8 (mx_out.sub (S := (WSX8_pointsOf a p0)) (ZX8_pointsOf_L21 mx_FU h_q47) (fun b j hb => hb))
  obtain rfl := Option.some.inj h
  exact z9
set_option maxRecDepth 20000 in
theorem ZX9_findPath {a : Nat} {p0 : Nat} {x1 : Int32} {m : mB} {r : (Int32 × mB)} (h : FX9_findPath a p0 x1 m = some r) : mx_out (WSX9_findPath a p0) m r.2 := by
  unfold FX9_findPath at h
  have z0 : mx_out (WSX9_findPath a p0) m m := mx_out.rf
  obtain ⟨r1, h_r1, h⟩ := Option.bind_eq_some_iff.mp h
  by_cases hc2z : r1 = 0
  · rw [if_pos hc2z] at h
    obtain rfl := Option.some.inj h
    exact z0
  · rw [if_neg hc2z] at h
    obtain ⟨r3, h_r3, h⟩ := Option.bind_eq_some_iff.mp h
    have z1 : mx_out (WSX9_findPath a p0) m r3.2 := mx_out.tr z0 (mx_out.sub (ZX9_findRow h_r3) (fun b j hb => (Or.elim hb (fun h0 => (Or.inl h0)) (fun g0 => (Or.inr g0)))))
    by_cases hc4z : r3.1 = 0
    · rw [if_pos hc4z] at h
      obtain rfl := Option.some.inj h
      exact z1
    · rw [if_neg hc4z] at h
      obtain rfl := Option.some.inj h
      exact z1
set_option maxRecDepth 20000 in
theorem ZX9_findFlower {a : Nat} {p0 : Nat} {x1 : Int32} {m : mB} {r : (Int32 × mB)} (h : FX9_findFlower a p0 x1 m = some r) : mx_out (WSX9_findFlower a p0) m r.2 := by
  unfold FX9_findFlower at h
  have z0 : mx_out (WSX9_findFlower a p0) m m := mx_out.rf
  obtain ⟨r1, h_r1, h⟩ := Option.bind_eq_some_iff.mp h
  by_cases hc2z : r1 = 0
  · rw [if_pos hc2z] at h
    obtain rfl := Option.some.inj h
    exact z0
  · rw [if_neg hc2z] at h
    obtain ⟨r3, h_r3, h⟩ := Option.bind_eq_some_iff.mp h
    have z1 : mx_out (WSX9_findFlower a p0) m r3.2 := mx_out.tr z0 (mx_out.sub (ZX9_findRow h_r3) (fun b j hb => (Or.elim hb (fun h0 => (Or.inl h0)) (fun g0 => (Or.inr g0)))))
    by_cases hc4z : r3.1 = 0
    · rw [if_pos hc4z] at h
      obtain rfl := Option.some.inj h
      exact z1
    · rw [if_neg hc4z] at h
      obtain rfl := Option.some.inj h
      exact z1
set_option maxRecDepth 20000 in
theorem ZX9_strokeOn_L74 {rec : Nat → Nat → Int32 → Int32 → Int32 → Int32 → Int32 → mB → Option mB} {q0 : Nat} {q1 : Nat} {y2 : Int32} {y3 : Int32} {y4 : Int32} {y5 : Int32} {y6 : Int32} {y7 : Int32} (zrec : ∀ {a : Nat} {p0 : Nat} {x1 : Int32} {x2 : Int32} {x3 : Int32} {x4 : Int32} {x5 : Int32} {m : mB} {r : mB}, rec a p0 x1 x2 x3 x4 x5 m = some r → mx_out (WSX9_strokeOn a p0) m r) : ∀ (f : Nat) {y8 : Int32} {m : mB} {q : (mB)}, FX9_strokeOn_L74 rec q0 q1 y2 y3 y4 y5 y6 y7 f y8 m = some q → mx_out (WSX9_strokeOn_L74 q0 q1) m q := by
  intro f
  induction f with
  | zero => intro _ _ _ h; cases h
  | succ f ih =>
    intro y8 m q h
    rw [FX9_strokeOn_L74] at h
    have z0 : mx_out (WSX9_strokeOn_L74 q0 q1) m m := mx_out.rf
    by_cases hc9z : 10 ≤ y8
    · rw [if_pos hc9z] at h
      obtain rfl := Option.some.inj h
      exact z0
    · rw [if_neg hc9z] at h
      by_cases hc10z : ((y7 >>> (y8 &&& 31)) &&& 1) = 0
      · rw [if_pos hc10z] at h
        obtain ⟨v23, -, h⟩ := mx_letE h
        exact mx_out.tr z0 (ih h)
      · rw [if_neg hc10z] at h
        obtain ⟨r11, h_r11, h⟩ := Option.bind_eq_some_iff.mp h
        obtain ⟨v12, -, h⟩ := mx_letE h
        obtain ⟨r13, h_r13, h⟩ := Option.bind_eq_some_iff.mp h
        by_cases hc14z : r13 = (-1)
        · rw [if_pos hc14z] at h
          obtain ⟨r20, h_r20, h⟩ := Option.bind_eq_some_iff.mp h
          obtain ⟨m21, e_m21, h⟩ := mx_letE h
          have z1 : mx_out (WSX9_strokeOn_L74 q0 q1) m m21 := by first | exact mx_out_up z0 e_m21 ⟨rfl, rfl⟩ | exact mx_out_ul z0 e_m21 ⟨rfl, rfl⟩ | exact mx_out_cp z0 e_m21 (fun j => ⟨rfl, rfl⟩) | exact mx_out_cl z0 e_m21 (fun j => ⟨rfl, rfl⟩)
          obtain ⟨v22, -, h⟩ := mx_letE h
          exact mx_out.tr z1 (ih h)
        · rw [if_neg hc14z] at h
          by_cases hc15z : y6 ≤ 0
          · rw [if_pos hc15z] at h
            obtain ⟨v16, -, h⟩ := mx_letE h
            exact mx_out.tr z0 (ih h)
          · rw [if_neg hc15z] at h
            obtain ⟨r17, h_r17, h⟩ := Option.bind_eq_some_iff.mp h
            obtain ⟨r18, h_r18, h⟩ := Option.bind_eq_some_iff.mp h
            have z2 : mx_out (WSX9_strokeOn_L74 q0 q1) m r18 := mx_out.tr z0 (mx_out.sub (zrec h_r18) (fun b j hb => hb))
            obtain ⟨v19, -, h⟩ := mx_letE h
            exact mx_out.tr z2 (ih h)
set_option maxRecDepth 20000 in
theorem ZX9_strokeOn_B {rec : Nat → Nat → Int32 → Int32 → Int32 → Int32 → Int32 → mB → Option mB} {a : Nat} {p0 : Nat} {x1 : Int32} {x2 : Int32} {x3 : Int32} {x4 : Int32} {x5 : Int32} {m : mB} {r : mB} (zrec : ∀ {a : Nat} {p0 : Nat} {x1 : Int32} {x2 : Int32} {x3 : Int32} {x4 : Int32} {x5 : Int32} {m : mB} {r : mB}, rec a p0 x1 x2 x3 x4 x5 m = some r → mx_out (WSX9_strokeOn a p0) m r) (h : FX9_strokeOn_B rec a p0 x1 x2 x3 x4 x5 m = some r) : mx_out (WSX9_strokeOn a p0) m r := by
  unfold FX9_strokeOn_B at h
  have z0 : mx_out (WSX9_strokeOn a p0) m m := mx_out.rf
  obtain ⟨r1, h_r1, h⟩ := Option.bind_eq_some_iff.mp h
  obtain ⟨m2, e_m2, h⟩ := mx_letE h
  have z3 : mx_out (WSX9_strokeOn a p0) m m2 := by first | exact mx_out_up z0 e_m2 ⟨rfl, rfl⟩ | exact mx_out_ul z0 e_m2 ⟨rfl, rfl⟩ | exact mx_out_cp z0 e_m2 (fun j => ⟨rfl, rfl⟩) | exact mx_out_cl z0 e_m2 (fun j => ⟨rfl, rfl⟩)
  obtain ⟨r3, h_r3, h⟩ := Option.bind_eq_some_iff.mp h
  refine mx_letK (J := fun k6 => ∀ {m5 : mB}, k6 m5 = some r → mx_out (WSX9_strokeOn a p0) m m5 → mx_out (WSX9_strokeOn a p0) m r) h ?_ (fun k6 z_k6 h => ?_)
  · intro m5 h z4
    dsimp only at h
    obtain ⟨r7, h_r7, h⟩ := Option.bind_eq_some_iff.mp h
    obtain ⟨v8, -, h⟩ := mx_letE h
    obtain ⟨q24, h_q24, h⟩ := Option.bind_eq_some_iff.mp h
    have z5 := mx_out.tr z4 (mx_out.sub (S := (WSX9_strokeOn a p0)) (ZX9_strokeOn_L74 zrec mx_FU h_q24) (fun b j hb => hb))
    obtain rfl := Option.some.inj h
    exact z5
  by_cases hc4z : r3 < 4
  · rw [if_pos hc4z] at h
    exact z_k6 h z3
  · rw [if_neg hc4z] at h
    obtain ⟨r25, h_r25, h⟩ := Option.bind_eq_some_iff.mp h
    by_cases hc26z : r25 = 0
    · rw [if_pos hc26z] at h
      obtain ⟨r27, h_r27, h⟩ := Option.bind_eq_some_iff.mp h
      by_cases hc28z : r27 = 0
      · rw [if_pos hc28z] at h
        exact z_k6 h z3
      · rw [if_neg hc28z] at h
        obtain ⟨r29, h_r29, h⟩ := Option.bind_eq_some_iff.mp h
        obtain ⟨r30, h_r30, h⟩ := Option.bind_eq_some_iff.mp h
        obtain ⟨m31, e_m31, h⟩ := mx_letE h
        have z6 : mx_out (WSX9_strokeOn a p0) m m31 := by first | exact mx_out_up z3 e_m31 ⟨rfl, rfl⟩ | exact mx_out_ul z3 e_m31 ⟨rfl, rfl⟩ | exact mx_out_cp z3 e_m31 (fun j => ⟨rfl, rfl⟩) | exact mx_out_cl z3 e_m31 (fun j => ⟨rfl, rfl⟩)
        exact z_k6 h z6
    · rw [if_neg hc26z] at h
      exact z_k6 h z3
theorem ZX9_strokeOn : ∀ (D : Nat) {a : Nat} {p0 : Nat} {x1 : Int32} {x2 : Int32} {x3 : Int32} {x4 : Int32} {x5 : Int32} {m : mB} {r : mB}, FX9_strokeOn D a p0 x1 x2 x3 x4 x5 m = some r → mx_out (WSX9_strokeOn a p0) m r := by
  intro D
  induction D with
  | zero => intro _ _ _ _ _ _ _ _ _ h; cases h
  | succ D ih =>
    intro a p0 x1 x2 x3 x4 x5 m r h
    rw [FX9_strokeOn] at h
    exact ZX9_strokeOn_B (rec := FX9_strokeOn D) (fun {_ _ _ _ _ _ _} {_} {_} hz => ih hz) h
set_option maxRecDepth 20000 in
theorem ZX9_greatestGain_L7 {q0 : Nat} {q1 : Nat} : ∀ (f : Nat) {y2 : Int32} {m : mB} {q : (mB)}, FX9_greatestGain_L7 q0 q1 f y2 m = some q → mx_out (WSX9_greatestGain_L7 q0 q1) m q := by
  intro f
  induction f with
  | zero => intro _ _ _ h; cases h
  | succ f ih =>
    intro y2 m q h
    rw [FX9_greatestGain_L7] at h
    have z0 : mx_out (WSX9_greatestGain_L7 q0 q1) m m := mx_out.rf
    obtain ⟨r2, h_r2, h⟩ := Option.bind_eq_some_iff.mp h
    by_cases hc3z : r2 ≤ y2
    · rw [if_pos hc3z] at h
      obtain rfl := Option.some.inj h
      exact z0
    · rw [if_neg hc3z] at h
      obtain ⟨r4, h_r4, h⟩ := Option.bind_eq_some_iff.mp h
      by_cases hc5z : r4 = (-1)
      · rw [if_pos hc5z] at h
        obtain ⟨r9, h_r9, h⟩ := Option.bind_eq_some_iff.mp h
        have z1 : mx_out (WSX9_greatestGain_L7 q0 q1) m r9 := mx_out.tr z0 (mx_out.sub (ZX9_strokeOn 64 h_r9) (fun b j hb => hb))
        obtain ⟨v10, -, h⟩ := mx_letE h
        exact mx_out.tr z1 (ih h)
      · rw [if_neg hc5z] at h
        obtain ⟨r6, h_r6, h⟩ := Option.bind_eq_some_iff.mp h
        obtain ⟨r7, h_r7, h⟩ := Option.bind_eq_some_iff.mp h
        have z2 : mx_out (WSX9_greatestGain_L7 q0 q1) m r7 := mx_out.tr z0 (mx_out.sub (ZX9_strokeOn 64 h_r7) (fun b j hb => hb))
        obtain ⟨v8, -, h⟩ := mx_letE h
        exact mx_out.tr z2 (ih h)
set_option maxRecDepth 20000 in
theorem ZX9_greatestGain {a : Nat} {p0 : Nat} {m : mB} {r : (Int32 × mB)} (h : FX9_greatestGain a p0 m = some r) : mx_out (WSX9_greatestGain a p0) m r.2 := by
  unfold FX9_greatestGain at h
  have z0 : mx_out (WSX9_greatestGain a p0) m m := mx_out.rf
  obtain ⟨m1, e_m1, h⟩ := mx_letE h
  have z3 : mx_out (WSX9_greatestGain a p0) m m1 := by first | exact mx_out_up z0 e_m1 ⟨rfl, rfl⟩ | exact mx_out_ul z0 e_m1 ⟨rfl, rfl⟩ | exact mx_out_cp z0 e_m1 (fun j => ⟨rfl, rfl⟩) | exact mx_out_cl z0 e_m1 (fun j => ⟨rfl, rfl⟩)
  obtain ⟨q11, h_q11, h⟩ := Option.bind_eq_some_iff.mp h
  have z4 := mx_out.tr z3 (mx_out.sub (S := (WSX9_greatestGain a p0)) (ZX9_greatestGain_L7 mx_FU h_q11) (fun b j hb => hb))
  obtain rfl := Option.some.inj h
  exact z4
set_option maxRecDepth 20000 in
theorem ZX10_putFour_L3 {q0 : Nat} {y1 : Int32} : ∀ (f : Nat) {y2 : Int32} {m : mB} {q : (mB)}, FX10_putFour_L3 q0 y1 f y2 m = some q → mx_out (WSX10_putFour_L3 q0) m q := by
  intro f
  induction f with
  | zero => intro _ _ _ h; cases h
  | succ f ih =>
    intro y2 m q h
    rw [FX10_putFour_L3] at h
    have z0 : mx_out (WSX10_putFour_L3 q0) m m := mx_out.rf
    by_cases hc1z : y2 < 0
    · rw [if_pos hc1z] at h
      obtain rfl := Option.some.inj h
      exact z0
    · rw [if_neg hc1z] at h
      by_cases hc2z : (m.1 q0 2) < 0
      · rw [if_pos hc2z] at h
        obtain ⟨v3, -, h⟩ := mx_letE h
        exact mx_out.tr z0 (ih h)
      · rw [if_neg hc2z] at h
        by_cases hc4z : 940 ≤ (m.1 q0 2)
        · rw [if_pos hc4z] at h
          obtain ⟨v5, -, h⟩ := mx_letE h
          exact mx_out.tr z0 (ih h)
        · rw [if_neg hc4z] at h
          obtain ⟨-, h⟩ := mx_chkE h
          obtain ⟨m6, e_m6, h⟩ := mx_letE h
          have z1 : mx_out (WSX10_putFour_L3 q0) m m6 := by first | exact mx_out_up z0 e_m6 (Or.inr rfl) | exact mx_out_ul z0 e_m6 (Or.inr rfl) | exact mx_out_cp z0 e_m6 (fun j => (Or.inr rfl)) | exact mx_out_cl z0 e_m6 (fun j => (Or.inr rfl))
          obtain ⟨m8, e_m8, h⟩ := mx_letE h
          have z2 : mx_out (WSX10_putFour_L3 q0) m m8 := by first | exact mx_out_up z1 e_m8 (Or.inl ⟨rfl, rfl⟩) | exact mx_out_ul z1 e_m8 (Or.inl ⟨rfl, rfl⟩) | exact mx_out_cp z1 e_m8 (fun j => (Or.inl ⟨rfl, rfl⟩)) | exact mx_out_cl z1 e_m8 (fun j => (Or.inl ⟨rfl, rfl⟩))
          obtain ⟨v9, -, h⟩ := mx_letE h
          exact mx_out.tr z2 (ih h)
set_option maxRecDepth 20000 in
theorem ZX10_putFour {a : Nat} {x0 : Int32} {m : mB} {r : mB} (h : FX10_putFour a x0 m = some r) : mx_out (WSX10_putFour a) m r := by
  unfold FX10_putFour at h
  have z0 : mx_out (WSX10_putFour a) m m := mx_out.rf
  obtain ⟨q10, h_q10, h⟩ := Option.bind_eq_some_iff.mp h
  have z3 := mx_out.tr z0 (mx_out.sub (S := (WSX10_putFour a)) (ZX10_putFour_L3 mx_FU h_q10) (fun b j hb => (Or.elim hb (fun h0 => (Or.inl h0)) (fun g0 => (Or.inr g0)))))
  obtain rfl := Option.some.inj h
  exact z3
set_option maxRecDepth 20000 in
theorem ZX10_cut {a : Nat} {x0 : Int32} {m : mB} {r : mB} (h : FX10_cut a x0 m = some r) : mx_out (WSX10_cut a) m r := by
  unfold FX10_cut at h
  have z0 : mx_out (WSX10_cut a) m m := mx_out.rf
  obtain ⟨m1, e_m1, h⟩ := mx_letE h
  have z1 : mx_out (WSX10_cut a) m m1 := by first | exact mx_out_up z0 e_m1 ⟨rfl, rfl⟩ | exact mx_out_ul z0 e_m1 ⟨rfl, rfl⟩ | exact mx_out_cp z0 e_m1 (fun j => ⟨rfl, rfl⟩) | exact mx_out_cl z0 e_m1 (fun j => ⟨rfl, rfl⟩)
  obtain rfl := Option.some.inj h
  exact z1
set_option maxRecDepth 20000 in
theorem ZX2_startSlot_L2 {q0 : Nat} {y1 : Int32} {y2 : Int32} : ∀ (f : Nat) {y3 : Int32} {m : mB} {q : (mB)}, FX2_startSlot_L2 q0 y1 y2 f y3 m = some q → mx_out (WSX2_startSlot_L2 q0) m q := by
  intro f
  induction f with
  | zero => intro _ _ _ h; cases h
  | succ f ih =>
    intro y3 m q h
    rw [FX2_startSlot_L2] at h
    have z0 : mx_out (WSX2_startSlot_L2 q0) m m := mx_out.rf
    by_cases hc1z : 6 ≤ y3
    · rw [if_pos hc1z] at h
      obtain rfl := Option.some.inj h
      exact z0
    · rw [if_neg hc1z] at h
      obtain ⟨-, h⟩ := mx_chkE h
      obtain ⟨m2, e_m2, h⟩ := mx_letE h
      have z1 : mx_out (WSX2_startSlot_L2 q0) m m2 := by first | exact mx_out_up z0 e_m2 (Or.inl rfl) | exact mx_out_ul z0 e_m2 (Or.inl rfl) | exact mx_out_cp z0 e_m2 (fun j => (Or.inl rfl)) | exact mx_out_cl z0 e_m2 (fun j => (Or.inl rfl))
      obtain ⟨m4, e_m4, h⟩ := mx_letE h
      have z2 : mx_out (WSX2_startSlot_L2 q0) m m4 := by first | exact mx_out_up z1 e_m4 (Or.inr rfl) | exact mx_out_ul z1 e_m4 (Or.inr rfl) | exact mx_out_cp z1 e_m4 (fun j => (Or.inr rfl)) | exact mx_out_cl z1 e_m4 (fun j => (Or.inr rfl))
      obtain ⟨v5, -, h⟩ := mx_letE h
      exact mx_out.tr z2 (ih h)
set_option maxRecDepth 20000 in
theorem ZX2_startSlot {a : Nat} {x0 : Int32} {x1 : Int32} {m : mB} {r : mB} (h : FX2_startSlot a x0 x1 m = some r) : mx_out (WSX2_startSlot a) m r := by
  unfold FX2_startSlot at h
  have z0 : mx_out (WSX2_startSlot a) m m := mx_out.rf
  obtain ⟨q6, h_q6, h⟩ := Option.bind_eq_some_iff.mp h
  have z3 := mx_out.tr z0 (mx_out.sub (S := (WSX2_startSlot a)) (ZX2_startSlot_L2 mx_FU h_q6) (fun b j hb => (Or.elim hb (fun h0 => (Or.inr (Or.inr (Or.inl h0)))) (fun g0 => (Or.inr (Or.inr (Or.inr g0)))))))
  obtain ⟨-, h⟩ := mx_chkE h
  obtain ⟨m7, e_m7, h⟩ := mx_letE h
  have z4 : mx_out (WSX2_startSlot a) m m7 := by first | exact mx_out_up z3 e_m7 (Or.inl rfl) | exact mx_out_ul z3 e_m7 (Or.inl rfl) | exact mx_out_cp z3 e_m7 (fun j => (Or.inl rfl)) | exact mx_out_cl z3 e_m7 (fun j => (Or.inl rfl))
  obtain ⟨m9, e_m9, h⟩ := mx_letE h
  have z5 : mx_out (WSX2_startSlot a) m m9 := by first | exact mx_out_up z4 e_m9 (Or.inr (Or.inl rfl)) | exact mx_out_ul z4 e_m9 (Or.inr (Or.inl rfl)) | exact mx_out_cp z4 e_m9 (fun j => (Or.inr (Or.inl rfl))) | exact mx_out_cl z4 e_m9 (fun j => (Or.inr (Or.inl rfl)))
  by_cases hc10z : x1 = 0
  · rw [if_pos hc10z] at h
    obtain rfl := Option.some.inj h
    exact z5
  · rw [if_neg hc10z] at h
    obtain ⟨-, h⟩ := mx_chkE h
    obtain ⟨m11, e_m11, h⟩ := mx_letE h
    have z6 : mx_out (WSX2_startSlot a) m m11 := by first | exact mx_out_up z5 e_m11 (Or.inr (Or.inr (Or.inl rfl))) | exact mx_out_ul z5 e_m11 (Or.inr (Or.inr (Or.inl rfl))) | exact mx_out_cp z5 e_m11 (fun j => (Or.inr (Or.inr (Or.inl rfl)))) | exact mx_out_cl z5 e_m11 (fun j => (Or.inr (Or.inr (Or.inl rfl))))
    obtain ⟨m13, e_m13, h⟩ := mx_letE h
    have z7 : mx_out (WSX2_startSlot a) m m13 := by first | exact mx_out_up z6 e_m13 (Or.inr (Or.inr (Or.inr rfl))) | exact mx_out_ul z6 e_m13 (Or.inr (Or.inr (Or.inr rfl))) | exact mx_out_cp z6 e_m13 (fun j => (Or.inr (Or.inr (Or.inr rfl)))) | exact mx_out_cl z6 e_m13 (fun j => (Or.inr (Or.inr (Or.inr rfl))))
    obtain ⟨m14, e_m14, h⟩ := mx_letE h
    have z8 : mx_out (WSX2_startSlot a) m m14 := by first | exact mx_out_up z7 e_m14 (Or.inl rfl) | exact mx_out_ul z7 e_m14 (Or.inl rfl) | exact mx_out_cp z7 e_m14 (fun j => (Or.inl rfl)) | exact mx_out_cl z7 e_m14 (fun j => (Or.inl rfl))
    obtain rfl := Option.some.inj h
    exact z8
set_option maxRecDepth 20000 in
theorem ZX2_addTotal {a : Nat} {x0 : Int32} {x1 : Int32} {m : mB} {r : mB} (h : FX2_addTotal a x0 x1 m = some r) : mx_out (WSX2_addTotal a) m r := by
  unfold FX2_addTotal at h
  have z0 : mx_out (WSX2_addTotal a) m m := mx_out.rf
  obtain ⟨-, h⟩ := mx_chkE h
  by_cases hc2z : x1 ≤ (m.1 (a + 13) (Int32.toNatClampNeg x0))
  · rw [if_pos hc2z] at h
    by_cases hc3z : (m.1 (a + 13) (Int32.toNatClampNeg x0)) ≤ x1
    · rw [if_pos hc3z] at h
      obtain rfl := Option.some.inj h
      exact z0
    · rw [if_neg hc3z] at h
      by_cases hc4z : x1 ≤ (m.1 (a + 14) (Int32.toNatClampNeg x0))
      · rw [if_pos hc4z] at h
        obtain rfl := Option.some.inj h
        exact z0
      · rw [if_neg hc4z] at h
        obtain ⟨m5, e_m5, h⟩ := mx_letE h
        have z1 : mx_out (WSX2_addTotal a) m m5 := by first | exact mx_out_up z0 e_m5 (Or.inr rfl) | exact mx_out_ul z0 e_m5 (Or.inr rfl) | exact mx_out_cp z0 e_m5 (fun j => (Or.inr rfl)) | exact mx_out_cl z0 e_m5 (fun j => (Or.inr rfl))
        obtain rfl := Option.some.inj h
        exact z1
  · rw [if_neg hc2z] at h
    obtain ⟨m6, e_m6, h⟩ := mx_letE h
    have z2 : mx_out (WSX2_addTotal a) m m6 := by first | exact mx_out_up z0 e_m6 (Or.inr rfl) | exact mx_out_ul z0 e_m6 (Or.inr rfl) | exact mx_out_cp z0 e_m6 (fun j => (Or.inr rfl)) | exact mx_out_cl z0 e_m6 (fun j => (Or.inr rfl))
    obtain ⟨m7, e_m7, h⟩ := mx_letE h
    have z3 : mx_out (WSX2_addTotal a) m m7 := by first | exact mx_out_up z2 e_m7 (Or.inl rfl) | exact mx_out_ul z2 e_m7 (Or.inl rfl) | exact mx_out_cp z2 e_m7 (fun j => (Or.inl rfl)) | exact mx_out_cl z2 e_m7 (fun j => (Or.inl rfl))
    obtain rfl := Option.some.inj h
    exact z3
set_option maxRecDepth 20000 in
theorem ZX2_addWays_L3 {q0 : Nat} {y1 : Int32} {y2 : Int32} {y3 : Int32} {y4 : Int32} : ∀ (f : Nat) {y5 : Int32} {m : mB} {q : (mB)}, FX2_addWays_L3 q0 y1 y2 y3 y4 f y5 m = some q → mx_out (WSX2_addWays_L3 q0) m q := by
  intro f
  induction f with
  | zero => intro _ _ _ h; cases h
  | succ f ih =>
    intro y5 m q h
    rw [FX2_addWays_L3] at h
    have z0 : mx_out (WSX2_addWays_L3 q0) m m := mx_out.rf
    by_cases hc1z : 6 ≤ (y5 + y4)
    · rw [if_pos hc1z] at h
      obtain rfl := Option.some.inj h
      exact z0
    · rw [if_neg hc1z] at h
      obtain ⟨v2, -, h⟩ := mx_letE h
      obtain ⟨v3, -, h⟩ := mx_letE h
      obtain ⟨-, h⟩ := mx_chkE h
      by_cases hc5z : (m.1 (q0 + 15) (Int32.toNatClampNeg v3)) ≤ 0
      · rw [if_pos hc5z] at h
        obtain ⟨v6, -, h⟩ := mx_letE h
        exact mx_out.tr z0 (ih h)
      · rw [if_neg hc5z] at h
        obtain ⟨-, h⟩ := mx_chkE h
        obtain ⟨m8, e_m8, h⟩ := mx_letE h
        have z1 : mx_out (WSX2_addWays_L3 q0) m m8 := by first | exact mx_out_up z0 e_m8 (Or.inl rfl) | exact mx_out_ul z0 e_m8 (Or.inl rfl) | exact mx_out_cp z0 e_m8 (fun j => (Or.inl rfl)) | exact mx_out_cl z0 e_m8 (fun j => (Or.inl rfl))
        obtain ⟨r9, h_r9, h⟩ := Option.bind_eq_some_iff.mp h
        obtain ⟨m10, e_m10, h⟩ := mx_letE h
        have z2 : mx_out (WSX2_addWays_L3 q0) m m10 := by first | exact mx_out_up z1 e_m10 (Or.inr rfl) | exact mx_out_ul z1 e_m10 (Or.inr rfl) | exact mx_out_cp z1 e_m10 (fun j => (Or.inr rfl)) | exact mx_out_cl z1 e_m10 (fun j => (Or.inr rfl))
        obtain ⟨v11, -, h⟩ := mx_letE h
        exact mx_out.tr z2 (ih h)
set_option maxRecDepth 20000 in
theorem ZX2_addWays {a : Nat} {x0 : Int32} {x1 : Int32} {x2 : Int32} {x3 : Int32} {m : mB} {r : mB} (h : FX2_addWays a x0 x1 x2 x3 m = some r) : mx_out (WSX2_addWays a) m r := by
  unfold FX2_addWays at h
  have z0 : mx_out (WSX2_addWays a) m m := mx_out.rf
  obtain ⟨q12, h_q12, h⟩ := Option.bind_eq_some_iff.mp h
  have z3 := mx_out.tr z0 (mx_out.sub (S := (WSX2_addWays a)) (ZX2_addWays_L3 mx_FU h_q12) (fun b j hb => (Or.elim hb (fun h0 => (Or.inr (Or.inr (Or.inl h0)))) (fun g0 => (Or.inr (Or.inr (Or.inr g0)))))))
  obtain ⟨-, h⟩ := mx_chkE h
  obtain ⟨r14, h_r14, h⟩ := Option.bind_eq_some_iff.mp h
  have z4 : mx_out (WSX2_addWays a) m r14 := mx_out.tr z3 (mx_out.sub (ZX2_addTotal h_r14) (fun b j hb => (Or.elim hb (fun h0 => (Or.inl h0)) (fun g0 => (Or.inr (Or.inl g0))))))
  by_cases hc15z : (r14.1 (a + 14) (Int32.toNatClampNeg x1)) = (-1)
  · rw [if_pos hc15z] at h
    obtain rfl := Option.some.inj h
    exact z4
  · rw [if_neg hc15z] at h
    obtain ⟨r16, h_r16, h⟩ := Option.bind_eq_some_iff.mp h
    have z5 : mx_out (WSX2_addWays a) m r16 := mx_out.tr z4 (mx_out.sub (ZX2_addTotal h_r16) (fun b j hb => (Or.elim hb (fun h0 => (Or.inl h0)) (fun g0 => (Or.inr (Or.inl g0))))))
    obtain rfl := Option.some.inj h
    exact z5
set_option maxRecDepth 20000 in
theorem ZX2_slotFor_L142 {rec : Nat → Int32 → Int32 → mB → Option (Int32 × mB)} {q0 : Nat} {y2 : Int32} {y3 : Int32} {y4 : Int32} {y5 : Int32} {y6 : Int32} (zrec : ∀ {a : Nat} {x0 : Int32} {x1 : Int32} {m : mB} {r : (Int32 × mB)}, rec a x0 x1 m = some r → mx_out (WSX2_slotFor a) m r.2) : ∀ (f : Nat) {y7 : Int32} {m : mB} {q : (mB)}, FX2_slotFor_L142 rec q0 y2 y3 y4 y5 y6 f y7 m = some q → mx_out (WSX2_slotFor_L142 q0) m q := by
  intro f
  induction f with
  | zero => intro _ _ _ h; cases h
  | succ f ih =>
    intro y7 m q h
    rw [FX2_slotFor_L142] at h
    have z0 : mx_out (WSX2_slotFor_L142 q0) m m := mx_out.rf
    by_cases hc21z : 10 ≤ y7
    · rw [if_pos hc21z] at h
      obtain rfl := Option.some.inj h
      exact z0
    · rw [if_neg hc21z] at h
      by_cases hc22z : ((y6 >>> (y7 &&& 31)) &&& 1) = 0
      · rw [if_pos hc22z] at h
        obtain ⟨v23, -, h⟩ := mx_letE h
        exact mx_out.tr z0 (ih h)
      · rw [if_neg hc22z] at h
        obtain ⟨r24, h_r24, h⟩ := Option.bind_eq_some_iff.mp h
        have z1 : mx_out (WSX2_slotFor_L142 q0) m r24.2 := mx_out.tr z0 (mx_out.sub (zrec h_r24) (fun b j hb => (Or.elim hb (fun h0 => (Or.inl h0)) (fun g0 => (Or.elim g0 (fun h1 => (Or.inr (Or.inl h1))) (fun g1 => (Or.elim g1 (fun h2 => (Or.inr (Or.inr (Or.inl h2)))) (fun g2 => (Or.elim g2 (fun h3 => (Or.inr (Or.inr (Or.inr (Or.inl h3))))) (fun g3 => (Or.elim g3 (fun h4 => (Or.inr (Or.inr (Or.inr (Or.inr (Or.inl h4)))))) (fun g4 => (Or.inr (Or.inr (Or.inr (Or.inr (Or.inr g4)))))))))))))))))
        obtain ⟨r25, h_r25, h⟩ := Option.bind_eq_some_iff.mp h
        obtain ⟨r26, h_r26, h⟩ := Option.bind_eq_some_iff.mp h
        have z2 : mx_out (WSX2_slotFor_L142 q0) m r26 := mx_out.tr z1 (mx_out.sub (ZX2_addWays h_r26) (fun b j hb => (Or.elim hb (fun h0 => (Or.inr (Or.inr (Or.inl h0)))) (fun g0 => (Or.elim g0 (fun h1 => (Or.inr (Or.inr (Or.inr (Or.inl h1))))) (fun g1 => (Or.elim g1 (fun h2 => (Or.inr (Or.inr (Or.inr (Or.inr (Or.inl h2)))))) (fun g2 => (Or.inr (Or.inr (Or.inr (Or.inr (Or.inr g2)))))))))))))
        obtain ⟨v27, -, h⟩ := mx_letE h
        exact mx_out.tr z2 (ih h)
set_option maxRecDepth 20000 in
theorem ZX2_slotFor_B {rec : Nat → Int32 → Int32 → mB → Option (Int32 × mB)} {a : Nat} {x0 : Int32} {x1 : Int32} {m : mB} {r : (Int32 × mB)} (zrec : ∀ {a : Nat} {x0 : Int32} {x1 : Int32} {m : mB} {r : (Int32 × mB)}, rec a x0 x1 m = some r → mx_out (WSX2_slotFor a) m r.2) (h : FX2_slotFor_B rec a x0 x1 m = some r) : mx_out (WSX2_slotFor a) m r.2 := by
  unfold FX2_slotFor_B at h
  have z0 : mx_out (WSX2_slotFor a) m m := mx_out.rf
  by_cases hc1z : x0 < 0
  · rw [if_pos hc1z] at h
    obtain rfl := Option.some.inj h
    exact z0
  · rw [if_neg hc1z] at h
    by_cases hc2z : 1024 ≤ x0
    · rw [if_pos hc2z] at h
      obtain rfl := Option.some.inj h
      exact z0
    · rw [if_neg hc2z] at h
      by_cases hc3z : x1 ≤ 10
      · rw [if_pos hc3z] at h
        obtain ⟨-, h⟩ := mx_chkE h
        by_cases hc5z : (m.1 (a + 12) (Int32.toNatClampNeg x0)) = (-1)
        · rw [if_pos hc5z] at h
          obtain ⟨v6, -, h⟩ := mx_letE h
          by_cases hc7z : v6 < 0
          · rw [if_pos hc7z] at h
            obtain rfl := Option.some.inj h
            exact z0
          · rw [if_neg hc7z] at h
            by_cases hc8z : v6 < 144
            · rw [if_pos hc8z] at h
              obtain ⟨m9, e_m9, h⟩ := mx_letE h
              have z3 : mx_out (WSX2_slotFor a) m m9 := by first | exact mx_out_up z0 e_m9 (Or.inl ⟨rfl, rfl⟩) | exact mx_out_ul z0 e_m9 (Or.inl ⟨rfl, rfl⟩) | exact mx_out_cp z0 e_m9 (fun j => (Or.inl ⟨rfl, rfl⟩)) | exact mx_out_cl z0 e_m9 (fun j => (Or.inl ⟨rfl, rfl⟩))
              obtain ⟨m10, e_m10, h⟩ := mx_letE h
              have z4 : mx_out (WSX2_slotFor a) m m10 := by first | exact mx_out_up z3 e_m10 (Or.inr (Or.inl rfl)) | exact mx_out_ul z3 e_m10 (Or.inr (Or.inl rfl)) | exact mx_out_cp z3 e_m10 (fun j => (Or.inr (Or.inl rfl))) | exact mx_out_cl z3 e_m10 (fun j => (Or.inr (Or.inl rfl)))
              by_cases hc11z : x0 = 0
              · rw [if_pos hc11z] at h
                obtain ⟨r29, h_r29, h⟩ := Option.bind_eq_some_iff.mp h
                have z5 : mx_out (WSX2_slotFor a) m r29 := mx_out.tr z4 (mx_out.sub (ZX2_startSlot h_r29) (fun b j hb => (Or.elim hb (fun h0 => (Or.inr (Or.inr (Or.inl h0)))) (fun g0 => (Or.elim g0 (fun h1 => (Or.inr (Or.inr (Or.inr (Or.inl h1))))) (fun g1 => (Or.elim g1 (fun h2 => (Or.inr (Or.inr (Or.inr (Or.inr (Or.inl h2)))))) (fun g2 => (Or.inr (Or.inr (Or.inr (Or.inr (Or.inr g2)))))))))))))
                by_cases hc30z : x0 = 0
                · rw [if_pos hc30z] at h
                  obtain rfl := Option.some.inj h
                  exact z5
                · rw [if_neg hc30z] at h
                  obtain ⟨r31, h_r31, h⟩ := Option.bind_eq_some_iff.mp h
                  obtain ⟨v32, -, h⟩ := mx_letE h
                  obtain ⟨r33, h_r33, h⟩ := Option.bind_eq_some_iff.mp h
                  have z6 : mx_out (WSX2_slotFor a) m r33.2 := mx_out.tr z5 (mx_out.sub (zrec h_r33) (fun b j hb => (Or.elim hb (fun h0 => (Or.inl h0)) (fun g0 => (Or.elim g0 (fun h1 => (Or.inr (Or.inl h1))) (fun g1 => (Or.elim g1 (fun h2 => (Or.inr (Or.inr (Or.inl h2)))) (fun g2 => (Or.elim g2 (fun h3 => (Or.inr (Or.inr (Or.inr (Or.inl h3))))) (fun g3 => (Or.elim g3 (fun h4 => (Or.inr (Or.inr (Or.inr (Or.inr (Or.inl h4)))))) (fun g4 => (Or.inr (Or.inr (Or.inr (Or.inr (Or.inr g4)))))))))))))))))
                  obtain ⟨r34, h_r34, h⟩ := Option.bind_eq_some_iff.mp h
                  have z7 : mx_out (WSX2_slotFor a) m r34 := mx_out.tr z6 (mx_out.sub (ZX2_addWays h_r34) (fun b j hb => (Or.elim hb (fun h0 => (Or.inr (Or.inr (Or.inl h0)))) (fun g0 => (Or.elim g0 (fun h1 => (Or.inr (Or.inr (Or.inr (Or.inl h1))))) (fun g1 => (Or.elim g1 (fun h2 => (Or.inr (Or.inr (Or.inr (Or.inr (Or.inl h2)))))) (fun g2 => (Or.inr (Or.inr (Or.inr (Or.inr (Or.inr g2)))))))))))))
                  obtain ⟨r35, h_r35, h⟩ := Option.bind_eq_some_iff.mp h
                  obtain ⟨v36, -, h⟩ := mx_letE h
                  obtain ⟨v37, -, h⟩ := mx_letE h
                  obtain ⟨q38, h_q38, h⟩ := Option.bind_eq_some_iff.mp h
                  have z8 := mx_out.tr z7 (mx_out.sub (S := (WSX2_slotFor a)) (ZX2_slotFor_L142 zrec mx_FU h_q38) (fun b j hb => (Or.elim hb (fun h0 => (Or.inl h0)) (fun g0 => (Or.elim g0 (fun h1 => (Or.inr (Or.inl h1))) (fun g1 => (Or.elim g1 (fun h2 => (Or.inr (Or.inr (Or.inl h2)))) (fun g2 => (Or.elim g2 (fun h3 => (Or.inr (Or.inr (Or.inr (Or.inl h3))))) (fun g3 => (Or.elim g3 (fun h4 => (Or.inr (Or.inr (Or.inr (Or.inr (Or.inl h4)))))) (fun g4 => (Or.inr (Or.inr (Or.inr (Or.inr (Or.inr g4)))))))))))))))))
                  obtain rfl := Option.some.inj h
                  exact z8
              · rw [if_neg hc11z] at h
                obtain ⟨r12, h_r12, h⟩ := Option.bind_eq_some_iff.mp h
                have z9 : mx_out (WSX2_slotFor a) m r12 := mx_out.tr z4 (mx_out.sub (ZX2_startSlot h_r12) (fun b j hb => (Or.elim hb (fun h0 => (Or.inr (Or.inr (Or.inl h0)))) (fun g0 => (Or.elim g0 (fun h1 => (Or.inr (Or.inr (Or.inr (Or.inl h1))))) (fun g1 => (Or.elim g1 (fun h2 => (Or.inr (Or.inr (Or.inr (Or.inr (Or.inl h2)))))) (fun g2 => (Or.inr (Or.inr (Or.inr (Or.inr (Or.inr g2)))))))))))))
                by_cases hc13z : x0 = 0
                · rw [if_pos hc13z] at h
                  obtain rfl := Option.some.inj h
                  exact z9
                · rw [if_neg hc13z] at h
                  obtain ⟨r14, h_r14, h⟩ := Option.bind_eq_some_iff.mp h
                  obtain ⟨v15, -, h⟩ := mx_letE h
                  obtain ⟨r16, h_r16, h⟩ := Option.bind_eq_some_iff.mp h
                  have z10 : mx_out (WSX2_slotFor a) m r16.2 := mx_out.tr z9 (mx_out.sub (zrec h_r16) (fun b j hb => (Or.elim hb (fun h0 => (Or.inl h0)) (fun g0 => (Or.elim g0 (fun h1 => (Or.inr (Or.inl h1))) (fun g1 => (Or.elim g1 (fun h2 => (Or.inr (Or.inr (Or.inl h2)))) (fun g2 => (Or.elim g2 (fun h3 => (Or.inr (Or.inr (Or.inr (Or.inl h3))))) (fun g3 => (Or.elim g3 (fun h4 => (Or.inr (Or.inr (Or.inr (Or.inr (Or.inl h4)))))) (fun g4 => (Or.inr (Or.inr (Or.inr (Or.inr (Or.inr g4)))))))))))))))))
                  obtain ⟨r17, h_r17, h⟩ := Option.bind_eq_some_iff.mp h
                  have z11 : mx_out (WSX2_slotFor a) m r17 := mx_out.tr z10 (mx_out.sub (ZX2_addWays h_r17) (fun b j hb => (Or.elim hb (fun h0 => (Or.inr (Or.inr (Or.inl h0)))) (fun g0 => (Or.elim g0 (fun h1 => (Or.inr (Or.inr (Or.inr (Or.inl h1))))) (fun g1 => (Or.elim g1 (fun h2 => (Or.inr (Or.inr (Or.inr (Or.inr (Or.inl h2)))))) (fun g2 => (Or.inr (Or.inr (Or.inr (Or.inr (Or.inr g2)))))))))))))
                  obtain ⟨r18, h_r18, h⟩ := Option.bind_eq_some_iff.mp h
                  obtain ⟨v19, -, h⟩ := mx_letE h
                  obtain ⟨v20, -, h⟩ := mx_letE h
                  obtain ⟨q28, h_q28, h⟩ := Option.bind_eq_some_iff.mp h
                  have z12 := mx_out.tr z11 (mx_out.sub (S := (WSX2_slotFor a)) (ZX2_slotFor_L142 zrec mx_FU h_q28) (fun b j hb => (Or.elim hb (fun h0 => (Or.inl h0)) (fun g0 => (Or.elim g0 (fun h1 => (Or.inr (Or.inl h1))) (fun g1 => (Or.elim g1 (fun h2 => (Or.inr (Or.inr (Or.inl h2)))) (fun g2 => (Or.elim g2 (fun h3 => (Or.inr (Or.inr (Or.inr (Or.inl h3))))) (fun g3 => (Or.elim g3 (fun h4 => (Or.inr (Or.inr (Or.inr (Or.inr (Or.inl h4)))))) (fun g4 => (Or.inr (Or.inr (Or.inr (Or.inr (Or.inr g4)))))))))))))))))
                  obtain rfl := Option.some.inj h
                  exact z12
            · rw [if_neg hc8z] at h
              obtain rfl := Option.some.inj h
              exact z0
        · rw [if_neg hc5z] at h
          obtain ⟨r39, h_r39, h⟩ := Option.bind_eq_some_iff.mp h
          obtain rfl := Option.some.inj h
          exact z0
      · rw [if_neg hc3z] at h
        obtain rfl := Option.some.inj h
        exact z0
theorem ZX2_slotFor : ∀ (D : Nat) {a : Nat} {x0 : Int32} {x1 : Int32} {m : mB} {r : (Int32 × mB)}, FX2_slotFor D a x0 x1 m = some r → mx_out (WSX2_slotFor a) m r.2 := by
  intro D
  induction D with
  | zero => intro _ _ _ _ _ h; cases h
  | succ D ih =>
    intro a x0 x1 m r h
    rw [FX2_slotFor] at h
    exact ZX2_slotFor_B (rec := FX2_slotFor D) (fun {_ _ _} {_} {_} hz => ih hz) h
set_option maxRecDepth 20000 in
theorem ZX2_lookAt_L44 {q0 : Nat} : ∀ (f : Nat) {y2 : Int32} {m : mB} {q : (mB)}, FX2_lookAt_L44 q0 f y2 m = some q → mx_out (WSX2_lookAt_L44 q0) m q := by
  intro f
  induction f with
  | zero => intro _ _ _ h; cases h
  | succ f ih =>
    intro y2 m q h
    rw [FX2_lookAt_L44] at h
    have z0 : mx_out (WSX2_lookAt_L44 q0) m m := mx_out.rf
    by_cases hc7z : 1024 ≤ y2
    · rw [if_pos hc7z] at h
      obtain rfl := Option.some.inj h
      exact z0
    · rw [if_neg hc7z] at h
      obtain ⟨-, h⟩ := mx_chkE h
      obtain ⟨m8, e_m8, h⟩ := mx_letE h
      have z1 : mx_out (WSX2_lookAt_L44 q0) m m8 := by first | exact mx_out_up z0 e_m8 rfl | exact mx_out_ul z0 e_m8 rfl | exact mx_out_cp z0 e_m8 (fun j => rfl) | exact mx_out_cl z0 e_m8 (fun j => rfl)
      obtain ⟨v10, -, h⟩ := mx_letE h
      exact mx_out.tr z1 (ih h)
set_option maxRecDepth 20000 in
theorem ZX2_lookAt {a : Nat} {p0 : Nat} {m : mB} {r : mB} (h : FX2_lookAt a p0 m = some r) : mx_out (WSX2_lookAt a p0) m r := by
  unfold FX2_lookAt at h
  have z0 : mx_out (WSX2_lookAt a p0) m m := mx_out.rf
  refine mx_letK (J := fun k2 => k2 = some r → mx_out (WSX2_lookAt a p0) m r) h ?_ (fun k2 z_k2 h => ?_)
  · intro h
    obtain ⟨r3, h_r3, h⟩ := Option.bind_eq_some_iff.mp h
    have z3 : mx_out (WSX2_lookAt a p0) m r3 := mx_out.tr z0 (mx_out.sub (ZX4_copyLinksFrom h_r3) (fun b j hb => (Or.elim hb (fun h0 => (Or.inr (Or.inr (Or.inr (Or.inr (Or.inl h0)))))) (fun g0 => (Or.elim g0 (fun h1 => (Or.inr (Or.inr (Or.inr (Or.inr (Or.inr (Or.inl h1))))))) (fun g1 => (Or.elim g1 (fun h2 => (Or.inr (Or.inr (Or.inr (Or.inr (Or.inr (Or.inr (Or.inr (Or.inr (Or.inr (Or.inr (Or.inr (Or.inl h2))))))))))))) (fun g2 => (Or.elim g2 (fun h3 => (Or.inr (Or.inr (Or.inr (Or.inr (Or.inr (Or.inr (Or.inr (Or.inr (Or.inr (Or.inr (Or.inr (Or.inr (Or.inl h3)))))))))))))) (fun g3 => (Or.elim g3 (fun h4 => (Or.inr (Or.inr (Or.inr (Or.inr (Or.inr (Or.inr (Or.inr (Or.inr (Or.inr (Or.inr (Or.inr (Or.inr (Or.inr (Or.inl h4))))))))))))))) (fun g4 => (Or.elim g4 (fun h5 => (Or.inr (Or.inr (Or.inr (Or.inr (Or.inr (Or.inr (Or.inr (Or.inr (Or.inr (Or.inr (Or.inr (Or.inr (Or.inr (Or.inr (Or.inl h5)))))))))))))))) (fun g5 => (Or.inr (Or.inr (Or.inr (Or.inr (Or.inr (Or.inr (Or.inr (Or.inr (Or.inr (Or.inr (Or.inr (Or.inr (Or.inr (Or.inr (Or.inr g5)))))))))))))))))))))))))))))
    obtain ⟨m4, e_m4, h⟩ := mx_letE h
    have z4 : mx_out (WSX2_lookAt a p0) m m4 := by first | exact mx_out_up z3 e_m4 (Or.inl ⟨rfl, rfl⟩) | exact mx_out_ul z3 e_m4 (Or.inl ⟨rfl, rfl⟩) | exact mx_out_cp z3 e_m4 (fun j => (Or.inl ⟨rfl, rfl⟩)) | exact mx_out_cl z3 e_m4 (fun j => (Or.inl ⟨rfl, rfl⟩))
    obtain ⟨m5, e_m5, h⟩ := mx_letE h
    have z5 : mx_out (WSX2_lookAt a p0) m m5 := by first | exact mx_out_up z4 e_m5 (Or.inr (Or.inl ⟨rfl, rfl⟩)) | exact mx_out_ul z4 e_m5 (Or.inr (Or.inl ⟨rfl, rfl⟩)) | exact mx_out_cp z4 e_m5 (fun j => (Or.inr (Or.inl ⟨rfl, rfl⟩))) | exact mx_out_cl z4 e_m5 (fun j => (Or.inr (Or.inl ⟨rfl, rfl⟩)))
    obtain ⟨m6, e_m6, h⟩ := mx_letE h
    have z6 : mx_out (WSX2_lookAt a p0) m m6 := by first | exact mx_out_up z5 e_m6 (Or.inr (Or.inr (Or.inr (Or.inl ⟨rfl, rfl⟩)))) | exact mx_out_ul z5 e_m6 (Or.inr (Or.inr (Or.inr (Or.inl ⟨rfl, rfl⟩)))) | exact mx_out_cp z5 e_m6 (fun j => (Or.inr (Or.inr (Or.inr (Or.inl ⟨rfl, rfl⟩))))) | exact mx_out_cl z5 e_m6 (fun j => (Or.inr (Or.inr (Or.inr (Or.inl ⟨rfl, rfl⟩)))))
    obtain ⟨q11, h_q11, h⟩ := Option.bind_eq_some_iff.mp h
    have z7 := mx_out.tr z6 (mx_out.sub (S := (WSX2_lookAt a p0)) (ZX2_lookAt_L44 mx_FU h_q11) (fun b j hb => (Or.inr (Or.inr (Or.inr (Or.inr (Or.inr (Or.inr (Or.inl hb)))))))))
    obtain ⟨r12, h_r12, h⟩ := Option.bind_eq_some_iff.mp h
    obtain ⟨m13, e_m13, h⟩ := mx_letE h
    have z8 : mx_out (WSX2_lookAt a p0) m m13 := by first | exact mx_out_up z7 e_m13 (Or.inr (Or.inr (Or.inl ⟨rfl, rfl⟩))) | exact mx_out_ul z7 e_m13 (Or.inr (Or.inr (Or.inl ⟨rfl, rfl⟩))) | exact mx_out_cp z7 e_m13 (fun j => (Or.inr (Or.inr (Or.inl ⟨rfl, rfl⟩)))) | exact mx_out_cl z7 e_m13 (fun j => (Or.inr (Or.inr (Or.inl ⟨rfl, rfl⟩))))
    obtain ⟨r14, h_r14, h⟩ := Option.bind_eq_some_iff.mp h
    have z9 : mx_out (WSX2_lookAt a p0) m r14.2 := mx_out.tr z8 (mx_out.sub (ZX2_slotFor 64 h_r14) (fun b j hb => (Or.elim hb (fun h0 => (Or.inr (Or.inr (Or.inr (Or.inl h0))))) (fun g0 => (Or.elim g0 (fun h1 => (Or.inr (Or.inr (Or.inr (Or.inr (Or.inr (Or.inr (Or.inl h1)))))))) (fun g1 => (Or.elim g1 (fun h2 => (Or.inr (Or.inr (Or.inr (Or.inr (Or.inr (Or.inr (Or.inr (Or.inl h2))))))))) (fun g2 => (Or.elim g2 (fun h3 => (Or.inr (Or.inr (Or.inr (Or.inr (Or.inr (Or.inr (Or.inr (Or.inr (Or.inl h3)))))))))) (fun g3 => (Or.elim g3 (fun h4 => (Or.inr (Or.inr (Or.inr (Or.inr (Or.inr (Or.inr (Or.inr (Or.inr (Or.inr (Or.inl h4))))))))))) (fun g4 => (Or.inr (Or.inr (Or.inr (Or.inr (Or.inr (Or.inr (Or.inr (Or.inr (Or.inr (Or.inr (Or.inl g4)))))))))))))))))))))))
    obtain rfl := Option.some.inj h
    exact z9
  by_cases hc1z : (m.1 a 1) = 0
  · rw [if_pos hc1z] at h
    exact z_k2 h
  · rw [if_neg hc1z] at h
    obtain ⟨r15, h_r15, h⟩ := Option.bind_eq_some_iff.mp h
    by_cases hc16z : r15 = 0
    · rw [if_pos hc16z] at h
      exact z_k2 h
    · rw [if_neg hc16z] at h
      obtain rfl := Option.some.inj h
      exact z0
set_option maxRecDepth 20000 in
theorem ZX2_choose {a : Nat} {x0 : Int32} {x1 : Int32} {m : mB} {r : mB} (h : FX2_choose a x0 x1 m = some r) : mx_out (WSX2_choose a) m r := by
  unfold FX2_choose at h
  have z0 : mx_out (WSX2_choose a) m m := mx_out.rf
  by_cases hc1z : x0 < 0
  · rw [if_pos hc1z] at h
    obtain rfl := Option.some.inj h
    exact z0
  · rw [if_neg hc1z] at h
    by_cases hc2z : 10 ≤ x0
    · rw [if_pos hc2z] at h
      obtain rfl := Option.some.inj h
      exact z0
    · rw [if_neg hc2z] at h
      by_cases hc3z : x1 < 0
      · rw [if_pos hc3z] at h
        obtain rfl := Option.some.inj h
        exact z0
      · rw [if_neg hc3z] at h
        by_cases hc4z : 10 ≤ x1
        · rw [if_pos hc4z] at h
          obtain rfl := Option.some.inj h
          exact z0
        · rw [if_neg hc4z] at h
          obtain ⟨-, h⟩ := mx_chkE h
          obtain ⟨m5, e_m5, h⟩ := mx_letE h
          have z1 : mx_out (WSX2_choose a) m m5 := by first | exact mx_out_up z0 e_m5 rfl | exact mx_out_ul z0 e_m5 rfl | exact mx_out_cp z0 e_m5 (fun j => rfl) | exact mx_out_cl z0 e_m5 (fun j => rfl)
          obtain ⟨-, h⟩ := mx_chkE h
          obtain ⟨m7, e_m7, h⟩ := mx_letE h
          have z2 : mx_out (WSX2_choose a) m m7 := by first | exact mx_out_up z1 e_m7 rfl | exact mx_out_ul z1 e_m7 rfl | exact mx_out_cp z1 e_m7 (fun j => rfl) | exact mx_out_cl z1 e_m7 (fun j => rfl)
          obtain rfl := Option.some.inj h
          exact z2
set_option maxRecDepth 20000 in
theorem ZX2_bestInto_L7 {q0 : Nat} {q1 : Nat} : ∀ (f : Nat) {y2 : Int32} {y3 : Int32} {m : mB} {q : (mB)}, FX2_bestInto_L7 q0 q1 f y2 y3 m = some q → mx_out (WSX2_bestInto_L7 q0 q1) m q := by
  intro f
  induction f with
  | zero => intro _ _ _ _ h; cases h
  | succ f ih =>
    intro y2 y3 m q h
    rw [FX2_bestInto_L7] at h
    have z0 : mx_out (WSX2_bestInto_L7 q0 q1) m m := mx_out.rf
    by_cases hc2z : 10 ≤ y3
    · rw [if_pos hc2z] at h
      obtain rfl := Option.some.inj h
      exact z0
    · rw [if_neg hc2z] at h
      by_cases hc3z : ((y2 >>> (y3 &&& 31)) &&& 1) = 0
      · rw [if_pos hc3z] at h
        obtain ⟨v15, -, h⟩ := mx_letE h
        exact mx_out.tr z0 (ih h)
      · rw [if_neg hc3z] at h
        obtain ⟨-, h⟩ := mx_chkE h
        obtain ⟨m4, e_m4, h⟩ := mx_letE h
        have z1 : mx_out (WSX2_bestInto_L7 q0 q1) m m4 := by first | exact mx_out_up z0 e_m4 rfl | exact mx_out_ul z0 e_m4 rfl | exact mx_out_cp z0 e_m4 (fun j => rfl) | exact mx_out_cl z0 e_m4 (fun j => rfl)
        obtain ⟨r6, h_r6, h⟩ := Option.bind_eq_some_iff.mp h
        refine mx_letK (J := fun k10 => ∀ {y8 : Int32} {m9 : mB}, k10 y8 m9 = some q → mx_out (WSX2_bestInto_L7 q0 q1) m m9 → mx_out (WSX2_bestInto_L7 q0 q1) m q) h ?_ (fun k10 z_k10 h => ?_)
        · intro y8 m9 h z2
          dsimp only at h
          obtain ⟨v11, -, h⟩ := mx_letE h
          obtain ⟨v12, -, h⟩ := mx_letE h
          exact mx_out.tr z2 (ih h)
        by_cases hc7z : r6 = (-1)
        · rw [if_pos hc7z] at h
          exact z_k10 h z1
        · rw [if_neg hc7z] at h
          obtain ⟨r13, h_r13, h⟩ := Option.bind_eq_some_iff.mp h
          have z3 : mx_out (WSX2_bestInto_L7 q0 q1) m r13 := mx_out.tr z1 (mx_out.sub (ZX2_choose h_r13) (fun b j hb => hb))
          obtain ⟨v14, -, h⟩ := mx_letE h
          exact z_k10 h z3
set_option maxRecDepth 20000 in
theorem ZX2_bestInto_L81 {q0 : Nat} {q1 : Nat} : ∀ (f : Nat) {y3 : Int32} {m : mB} {q : (mB)}, FX2_bestInto_L81 q0 q1 f y3 m = some q → mx_out (WSX2_bestInto_L81 q0 q1) m q := by
  intro f
  induction f with
  | zero => intro _ _ _ h; cases h
  | succ f ih =>
    intro y3 m q h
    rw [FX2_bestInto_L81] at h
    have z0 : mx_out (WSX2_bestInto_L81 q0 q1) m m := mx_out.rf
    obtain ⟨r18, h_r18, h⟩ := Option.bind_eq_some_iff.mp h
    by_cases hc19z : r18 ≤ y3
    · rw [if_pos hc19z] at h
      obtain rfl := Option.some.inj h
      exact z0
    · rw [if_neg hc19z] at h
      by_cases hc20z : 10 ≤ y3
      · rw [if_pos hc20z] at h
        obtain rfl := Option.some.inj h
        exact z0
      · rw [if_neg hc20z] at h
        obtain ⟨-, h⟩ := mx_chkE h
        obtain ⟨r22, h_r22, h⟩ := Option.bind_eq_some_iff.mp h
        have z4 : mx_out (WSX2_bestInto_L81 q0 q1) m r22 := mx_out.tr z0 (mx_out.sub (ZX7_add h_r22) (fun b j hb => (Or.elim hb (fun h0 => (Or.inl h0)) (fun g0 => (Or.inr g0)))))
        obtain ⟨v23, -, h⟩ := mx_letE h
        exact mx_out.tr z4 (ih h)
set_option maxRecDepth 20000 in
theorem ZX2_bestInto {a : Nat} {p0 : Nat} {m : mB} {r : mB} (h : FX2_bestInto a p0 m = some r) : mx_out (WSX2_bestInto a p0) m r := by
  unfold FX2_bestInto at h
  have z0 : mx_out (WSX2_bestInto a p0) m m := mx_out.rf
  obtain ⟨v1, -, h⟩ := mx_letE h
  obtain ⟨q16, h_q16, h⟩ := Option.bind_eq_some_iff.mp h
  have z5 := mx_out.tr z0 (mx_out.sub (S := (WSX2_bestInto a p0)) (ZX2_bestInto_L7 mx_FU h_q16) (fun b j hb => (Or.inl hb)))
  obtain ⟨r17, h_r17, h⟩ := Option.bind_eq_some_iff.mp h
  have z6 : mx_out (WSX2_bestInto a p0) m r17 := mx_out.tr z5 (mx_out.sub (ZX7_clear h_r17) (fun b j hb => (Or.inr (Or.inl hb))))
  obtain ⟨q24, h_q24, h⟩ := Option.bind_eq_some_iff.mp h
  have z7 := mx_out.tr z6 (mx_out.sub (S := (WSX2_bestInto a p0)) (ZX2_bestInto_L81 mx_FU h_q24) (fun b j hb => (Or.elim hb (fun h0 => (Or.inr (Or.inl h0))) (fun g0 => (Or.inr (Or.inr g0))))))
  obtain rfl := Option.some.inj h
  exact z7
set_option maxRecDepth 20000 in
theorem ZX2_wantNothing_L7 {q0 : Nat} : ∀ (f : Nat) {y1 : Int32} {m : mB} {q : (mB)}, FX2_wantNothing_L7 q0 f y1 m = some q → mx_out (WSX2_wantNothing_L7 q0) m q := by
  intro f
  induction f with
  | zero => intro _ _ _ h; cases h
  | succ f ih =>
    intro y1 m q h
    rw [FX2_wantNothing_L7] at h
    have z0 : mx_out (WSX2_wantNothing_L7 q0) m m := mx_out.rf
    by_cases hc2z : 10 ≤ y1
    · rw [if_pos hc2z] at h
      obtain rfl := Option.some.inj h
      exact z0
    · rw [if_neg hc2z] at h
      obtain ⟨-, h⟩ := mx_chkE h
      obtain ⟨m3, e_m3, h⟩ := mx_letE h
      have z1 : mx_out (WSX2_wantNothing_L7 q0) m m3 := by first | exact mx_out_up z0 e_m3 rfl | exact mx_out_ul z0 e_m3 rfl | exact mx_out_cp z0 e_m3 (fun j => rfl) | exact mx_out_cl z0 e_m3 (fun j => rfl)
      obtain ⟨v5, -, h⟩ := mx_letE h
      exact mx_out.tr z1 (ih h)
set_option maxRecDepth 20000 in
theorem ZX2_wantNothing {a : Nat} {m : mB} {r : mB} (h : FX2_wantNothing a m = some r) : mx_out (WSX2_wantNothing a) m r := by
  unfold FX2_wantNothing at h
  have z0 : mx_out (WSX2_wantNothing a) m m := mx_out.rf
  obtain ⟨m1, e_m1, h⟩ := mx_letE h
  have z2 : mx_out (WSX2_wantNothing a) m m1 := by first | exact mx_out_up z0 e_m1 (Or.inl ⟨rfl, rfl⟩) | exact mx_out_ul z0 e_m1 (Or.inl ⟨rfl, rfl⟩) | exact mx_out_cp z0 e_m1 (fun j => (Or.inl ⟨rfl, rfl⟩)) | exact mx_out_cl z0 e_m1 (fun j => (Or.inl ⟨rfl, rfl⟩))
  obtain ⟨q6, h_q6, h⟩ := Option.bind_eq_some_iff.mp h
  have z3 := mx_out.tr z2 (mx_out.sub (S := (WSX2_wantNothing a)) (ZX2_wantNothing_L7 mx_FU h_q6) (fun b j hb => (Or.inr hb)))
  obtain rfl := Option.some.inj h
  exact z3
set_option maxRecDepth 20000 in
theorem ZX2_tallyChosen_L12 {q0 : Nat} : ∀ (f : Nat) {y1 : Int32} {m : mB} {q : (mB)}, FX2_tallyChosen_L12 q0 f y1 m = some q → mx_out (WSX2_tallyChosen_L12 q0) m q := by
  intro f
  induction f with
  | zero => intro _ _ _ h; cases h
  | succ f ih =>
    intro y1 m q h
    rw [FX2_tallyChosen_L12] at h
    have z0 : mx_out (WSX2_tallyChosen_L12 q0) m m := mx_out.rf
    obtain ⟨r2, h_r2, h⟩ := Option.bind_eq_some_iff.mp h
    by_cases hc3z : r2 ≤ y1
    · rw [if_pos hc3z] at h
      obtain rfl := Option.some.inj h
      exact z0
    · rw [if_neg hc3z] at h
      by_cases hc4z : 10 ≤ y1
      · rw [if_pos hc4z] at h
        obtain rfl := Option.some.inj h
        exact z0
      · rw [if_neg hc4z] at h
        obtain ⟨-, h⟩ := mx_chkE h
        obtain ⟨v6, -, h⟩ := mx_letE h
        by_cases hc7z : v6 < 0
        · rw [if_pos hc7z] at h
          obtain ⟨v8, -, h⟩ := mx_letE h
          exact mx_out.tr z0 (ih h)
        · rw [if_neg hc7z] at h
          by_cases hc9z : 11 ≤ v6
          · rw [if_pos hc9z] at h
            obtain ⟨v10, -, h⟩ := mx_letE h
            exact mx_out.tr z0 (ih h)
          · rw [if_neg hc9z] at h
            obtain ⟨-, h⟩ := mx_chkE h
            obtain ⟨m12, e_m12, h⟩ := mx_letE h
            have z1 : mx_out (WSX2_tallyChosen_L12 q0) m m12 := by first | exact mx_out_up z0 e_m12 rfl | exact mx_out_ul z0 e_m12 rfl | exact mx_out_cp z0 e_m12 (fun j => rfl) | exact mx_out_cl z0 e_m12 (fun j => rfl)
            obtain ⟨v13, -, h⟩ := mx_letE h
            exact mx_out.tr z1 (ih h)
set_option maxRecDepth 20000 in
theorem ZX2_tallyChosen {a : Nat} {m : mB} {r : mB} (h : FX2_tallyChosen a m = some r) : mx_out (WSX2_tallyChosen a) m r := by
  unfold FX2_tallyChosen at h
  have z0 : mx_out (WSX2_tallyChosen a) m m := mx_out.rf
  obtain ⟨m1, e_m1, h⟩ := mx_letE h
  have z2 : mx_out (WSX2_tallyChosen a) m m1 := by first | exact mx_out_up z0 e_m1 (Or.inl ⟨rfl, rfl⟩) | exact mx_out_ul z0 e_m1 (Or.inl ⟨rfl, rfl⟩) | exact mx_out_cp z0 e_m1 (fun j => (Or.inl ⟨rfl, rfl⟩)) | exact mx_out_cl z0 e_m1 (fun j => (Or.inl ⟨rfl, rfl⟩))
  obtain ⟨q14, h_q14, h⟩ := Option.bind_eq_some_iff.mp h
  have z3 := mx_out.tr z2 (mx_out.sub (S := (WSX2_tallyChosen a)) (ZX2_tallyChosen_L12 mx_FU h_q14) (fun b j hb => (Or.inr hb)))
  obtain rfl := Option.some.inj h
  exact z3
set_option maxRecDepth 20000 in
theorem ZX2_walkBest_L48 {rec : Nat → Int32 → Int32 → mB → Option mB} {q0 : Nat} {y1 : Int32} {y2 : Int32} {y3 : Int32} {y4 : Int32} {y5 : Int32} (zrec : ∀ {a : Nat} {x0 : Int32} {x1 : Int32} {m : mB} {r : mB}, rec a x0 x1 m = some r → mx_out (WSX2_walkBest a) m r) : ∀ (f : Nat) {y6 : Int32} {m : mB} {q : (mB)}, FX2_walkBest_L48 rec q0 y1 y2 y3 y4 y5 f y6 m = some q → mx_out (WSX2_walkBest_L48 q0) m q := by
  intro f
  induction f with
  | zero => intro _ _ _ h; cases h
  | succ f ih =>
    intro y6 m q h
    rw [FX2_walkBest_L48] at h
    have z0 : mx_out (WSX2_walkBest_L48 q0) m m := mx_out.rf
    by_cases hc8z : 10 ≤ y6
    · rw [if_pos hc8z] at h
      obtain rfl := Option.some.inj h
      exact z0
    · rw [if_neg hc8z] at h
      by_cases hc9z : ((y5 >>> (y6 &&& 31)) &&& 1) = 0
      · rw [if_pos hc9z] at h
        obtain ⟨v10, -, h⟩ := mx_letE h
        exact mx_out.tr z0 (ih h)
      · rw [if_neg hc9z] at h
        obtain ⟨r11, h_r11, h⟩ := Option.bind_eq_some_iff.mp h
        by_cases hc12z : r11 = 0
        · rw [if_pos hc12z] at h
          obtain ⟨v13, -, h⟩ := mx_letE h
          exact mx_out.tr z0 (ih h)
        · rw [if_neg hc12z] at h
          obtain ⟨r14, h_r14, h⟩ := Option.bind_eq_some_iff.mp h
          by_cases hc15z : r14 = 0
          · rw [if_pos hc15z] at h
            obtain ⟨v16, -, h⟩ := mx_letE h
            exact mx_out.tr z0 (ih h)
          · rw [if_neg hc15z] at h
            obtain ⟨r17, h_r17, h⟩ := Option.bind_eq_some_iff.mp h
            by_cases hc18z : r17 = 0
            · rw [if_pos hc18z] at h
              obtain ⟨v19, -, h⟩ := mx_letE h
              exact mx_out.tr z0 (ih h)
            · rw [if_neg hc18z] at h
              obtain ⟨r20, h_r20, h⟩ := Option.bind_eq_some_iff.mp h
              have z1 : mx_out (WSX2_walkBest_L48 q0) m r20 := mx_out.tr z0 (mx_out.sub (ZX2_choose h_r20) (fun b j hb => (Or.inr (Or.inl hb))))
              obtain ⟨r21, h_r21, h⟩ := Option.bind_eq_some_iff.mp h
              have z2 : mx_out (WSX2_walkBest_L48 q0) m r21 := mx_out.tr z1 (mx_out.sub (zrec h_r21) (fun b j hb => (Or.elim hb (fun h0 => (Or.inl h0)) (fun g0 => (Or.elim g0 (fun h1 => (Or.inr (Or.inl h1))) (fun g1 => (Or.inr (Or.inr g1))))))))
              obtain ⟨v22, -, h⟩ := mx_letE h
              exact mx_out.tr z2 (ih h)
set_option maxRecDepth 20000 in
theorem ZX2_walkBest_B {rec : Nat → Int32 → Int32 → mB → Option mB} {a : Nat} {x0 : Int32} {x1 : Int32} {m : mB} {r : mB} (zrec : ∀ {a : Nat} {x0 : Int32} {x1 : Int32} {m : mB} {r : mB}, rec a x0 x1 m = some r → mx_out (WSX2_walkBest a) m r) (h : FX2_walkBest_B rec a x0 x1 m = some r) : mx_out (WSX2_walkBest a) m r := by
  unfold FX2_walkBest_B at h
  have z0 : mx_out (WSX2_walkBest a) m m := mx_out.rf
  by_cases hc1z : x0 = 0
  · rw [if_pos hc1z] at h
    obtain ⟨r32, h_r32, h⟩ := Option.bind_eq_some_iff.mp h
    have z3 : mx_out (WSX2_walkBest a) m r32 := mx_out.tr z0 (mx_out.sub (ZX2_tallyChosen h_r32) (fun b j hb => (Or.elim hb (fun h0 => (Or.inl h0)) (fun g0 => (Or.inr (Or.inr g0))))))
    obtain rfl := Option.some.inj h
    exact z3
  · rw [if_neg hc1z] at h
    by_cases hc2z : x1 < 10
    · rw [if_pos hc2z] at h
      obtain ⟨r3, h_r3, h⟩ := Option.bind_eq_some_iff.mp h
      obtain ⟨v4, -, h⟩ := mx_letE h
      obtain ⟨r5, h_r5, h⟩ := Option.bind_eq_some_iff.mp h
      obtain ⟨v6, -, h⟩ := mx_letE h
      obtain ⟨v7, -, h⟩ := mx_letE h
      obtain ⟨q23, h_q23, h⟩ := Option.bind_eq_some_iff.mp h
      have z4 := mx_out.tr z0 (mx_out.sub (S := (WSX2_walkBest a)) (ZX2_walkBest_L48 zrec mx_FU h_q23) (fun b j hb => (Or.elim hb (fun h0 => (Or.inl h0)) (fun g0 => (Or.elim g0 (fun h1 => (Or.inr (Or.inl h1))) (fun g1 => (Or.inr (Or.inr g1))))))))
      obtain ⟨r24, h_r24, h⟩ := Option.bind_eq_some_iff.mp h
      by_cases hc25z : r24 = 0
      · rw [if_pos hc25z] at h
        obtain rfl := Option.some.inj h
        exact z4
      · rw [if_neg hc25z] at h
        obtain ⟨r26, h_r26, h⟩ := Option.bind_eq_some_iff.mp h
        obtain ⟨r27, h_r27, h⟩ := Option.bind_eq_some_iff.mp h
        by_cases hc28z : r26 = r27
        · rw [if_pos hc28z] at h
          obtain ⟨-, h⟩ := mx_chkE h
          obtain ⟨m29, e_m29, h⟩ := mx_letE h
          have z5 : mx_out (WSX2_walkBest a) m m29 := by first | exact mx_out_up z4 e_m29 (Or.inr (Or.inl rfl)) | exact mx_out_ul z4 e_m29 (Or.inr (Or.inl rfl)) | exact mx_out_cp z4 e_m29 (fun j => (Or.inr (Or.inl rfl))) | exact mx_out_cl z4 e_m29 (fun j => (Or.inr (Or.inl rfl)))
          obtain ⟨r31, h_r31, h⟩ := Option.bind_eq_some_iff.mp h
          have z6 : mx_out (WSX2_walkBest a) m r31 := mx_out.tr z5 (mx_out.sub (zrec h_r31) (fun b j hb => (Or.elim hb (fun h0 => (Or.inl h0)) (fun g0 => (Or.elim g0 (fun h1 => (Or.inr (Or.inl h1))) (fun g1 => (Or.inr (Or.inr g1))))))))
          obtain rfl := Option.some.inj h
          exact z6
        · rw [if_neg hc28z] at h
          obtain rfl := Option.some.inj h
          exact z4
    · rw [if_neg hc2z] at h
      obtain rfl := Option.some.inj h
      exact z0
theorem ZX2_walkBest : ∀ (D : Nat) {a : Nat} {x0 : Int32} {x1 : Int32} {m : mB} {r : mB}, FX2_walkBest D a x0 x1 m = some r → mx_out (WSX2_walkBest a) m r := by
  intro D
  induction D with
  | zero => intro _ _ _ _ _ h; cases h
  | succ D ih =>
    intro a x0 x1 m r h
    rw [FX2_walkBest] at h
    exact ZX2_walkBest_B (rec := FX2_walkBest D) (fun {_ _ _} {_} {_} hz => ih hz) h
set_option maxRecDepth 20000 in
theorem ZX2_countWanted_L7 {q0 : Nat} : ∀ (f : Nat) {y1 : Int32} {m : mB} {q : (mB)}, FX2_countWanted_L7 q0 f y1 m = some q → mx_out (WSX2_countWanted_L7 q0) m q := by
  intro f
  induction f with
  | zero => intro _ _ _ h; cases h
  | succ f ih =>
    intro y1 m q h
    rw [FX2_countWanted_L7] at h
    have z0 : mx_out (WSX2_countWanted_L7 q0) m m := mx_out.rf
    by_cases hc2z : 110 ≤ y1
    · rw [if_pos hc2z] at h
      obtain rfl := Option.some.inj h
      exact z0
    · rw [if_neg hc2z] at h
      obtain ⟨-, h⟩ := mx_chkE h
      obtain ⟨m3, e_m3, h⟩ := mx_letE h
      have z1 : mx_out (WSX2_countWanted_L7 q0) m m3 := by first | exact mx_out_up z0 e_m3 rfl | exact mx_out_ul z0 e_m3 rfl | exact mx_out_cp z0 e_m3 (fun j => rfl) | exact mx_out_cl z0 e_m3 (fun j => rfl)
      obtain ⟨v5, -, h⟩ := mx_letE h
      exact mx_out.tr z1 (ih h)
set_option maxRecDepth 20000 in
theorem ZX2_countWanted {a : Nat} {m : mB} {r : (Int32 × mB)} (h : FX2_countWanted a m = some r) : mx_out (WSX2_countWanted a) m r.2 := by
  unfold FX2_countWanted at h
  have z0 : mx_out (WSX2_countWanted a) m m := mx_out.rf
  obtain ⟨m1, e_m1, h⟩ := mx_letE h
  have z2 : mx_out (WSX2_countWanted a) m m1 := by first | exact mx_out_up z0 e_m1 (Or.inl ⟨rfl, rfl⟩) | exact mx_out_ul z0 e_m1 (Or.inl ⟨rfl, rfl⟩) | exact mx_out_cp z0 e_m1 (fun j => (Or.inl ⟨rfl, rfl⟩)) | exact mx_out_cl z0 e_m1 (fun j => (Or.inl ⟨rfl, rfl⟩))
  obtain ⟨q6, h_q6, h⟩ := Option.bind_eq_some_iff.mp h
  have z3 := mx_out.tr z2 (mx_out.sub (S := (WSX2_countWanted a)) (ZX2_countWanted_L7 mx_FU h_q6) (fun b j hb => (Or.inr (Or.inr hb))))
  by_cases hc7z : (q6.1 a 11) = 0
  · rw [if_pos hc7z] at h
    obtain ⟨r8, h_r8, h⟩ := Option.bind_eq_some_iff.mp h
    have z4 : mx_out (WSX2_countWanted a) m r8 := mx_out.tr z3 (mx_out.sub (ZX2_walkBest 64 h_r8) (fun b j hb => (Or.elim hb (fun h0 => (Or.inl h0)) (fun g0 => (Or.elim g0 (fun h1 => (Or.inr (Or.inl h1))) (fun g1 => (Or.inr (Or.inr g1))))))))
    obtain rfl := Option.some.inj h
    exact z4
  · rw [if_neg hc7z] at h
    obtain rfl := Option.some.inj h
    exact z3
set_option maxRecDepth 20000 in
theorem ZX2_fateOf_L18 {q0 : Nat} {y1 : Int32} : ∀ (f : Nat) {y2 : Int32} {m : mB} {q : (mB)}, FX2_fateOf_L18 q0 y1 f y2 m = some q → mx_out (WSX2_fateOf_L18 q0) m q := by
  intro f
  induction f with
  | zero => intro _ _ _ h; cases h
  | succ f ih =>
    intro y2 m q h
    rw [FX2_fateOf_L18] at h
    have z0 : mx_out (WSX2_fateOf_L18 q0) m m := mx_out.rf
    by_cases hc9z : 30 ≤ y2
    · rw [if_pos hc9z] at h
      obtain rfl := Option.some.inj h
      exact z0
    · rw [if_neg hc9z] at h
      obtain ⟨r10, h_r10, h⟩ := Option.bind_eq_some_iff.mp h
      obtain ⟨r11, h_r11, h⟩ := Option.bind_eq_some_iff.mp h
      obtain ⟨r12, h_r12, h⟩ := Option.bind_eq_some_iff.mp h
      by_cases hc13z : r12 = 0
      · rw [if_pos hc13z] at h
        obtain ⟨-, h⟩ := mx_chkE h
        obtain ⟨m21, e_m21, h⟩ := mx_letE h
        have z1 : mx_out (WSX2_fateOf_L18 q0) m m21 := by first | exact mx_out_up z0 e_m21 rfl | exact mx_out_ul z0 e_m21 rfl | exact mx_out_cp z0 e_m21 (fun j => rfl) | exact mx_out_cl z0 e_m21 (fun j => rfl)
        obtain ⟨v23, -, h⟩ := mx_letE h
        exact mx_out.tr z1 (ih h)
      · rw [if_neg hc13z] at h
        by_cases hc14z : (m.1 q0 15) ≤ r12
        · rw [if_pos hc14z] at h
          obtain ⟨-, h⟩ := mx_chkE h
          obtain ⟨m15, e_m15, h⟩ := mx_letE h
          have z2 : mx_out (WSX2_fateOf_L18 q0) m m15 := by first | exact mx_out_up z0 e_m15 rfl | exact mx_out_ul z0 e_m15 rfl | exact mx_out_cp z0 e_m15 (fun j => rfl) | exact mx_out_cl z0 e_m15 (fun j => rfl)
          obtain ⟨v17, -, h⟩ := mx_letE h
          exact mx_out.tr z2 (ih h)
        · rw [if_neg hc14z] at h
          obtain ⟨-, h⟩ := mx_chkE h
          obtain ⟨m18, e_m18, h⟩ := mx_letE h
          have z3 : mx_out (WSX2_fateOf_L18 q0) m m18 := by first | exact mx_out_up z0 e_m18 rfl | exact mx_out_ul z0 e_m18 rfl | exact mx_out_cp z0 e_m18 (fun j => rfl) | exact mx_out_cl z0 e_m18 (fun j => rfl)
          obtain ⟨v20, -, h⟩ := mx_letE h
          exact mx_out.tr z3 (ih h)
set_option maxRecDepth 20000 in
theorem ZX2_fateOf {a : Nat} {x0 : Int32} {m : mB} {r : (Int32 × mB)} (h : FX2_fateOf a x0 m = some r) : mx_out (WSX2_fateOf a) m r.2 := by
  unfold FX2_fateOf at h
  have z0 : mx_out (WSX2_fateOf a) m m := mx_out.rf
  refine mx_letK (J := fun k3 => ∀ {m2 : mB}, k3 m2 = some r → mx_out (WSX2_fateOf a) m m2 → mx_out (WSX2_fateOf a) m r.2) h ?_ (fun k3 z_k3 h => ?_)
  · intro m2 h z4
    dsimp only at h
    by_cases hc4z : x0 < 0
    · rw [if_pos hc4z] at h
      obtain rfl := Option.some.inj h
      exact z4
    · rw [if_neg hc4z] at h
      by_cases hc5z : 30 ≤ x0
      · rw [if_pos hc5z] at h
        obtain rfl := Option.some.inj h
        exact z4
      · rw [if_neg hc5z] at h
        obtain ⟨-, h⟩ := mx_chkE h
        obtain rfl := Option.some.inj h
        exact z4
  by_cases hc1z : (m.1 a 2) = 0
  · rw [if_pos hc1z] at h
    obtain ⟨r7, h_r7, h⟩ := Option.bind_eq_some_iff.mp h
    have z5 : mx_out (WSX2_fateOf a) m r7 := mx_out.tr z0 (mx_out.sub (ZX2_wantNothing h_r7) (fun b j hb => (Or.elim hb (fun h0 => (Or.inl h0)) (fun g0 => (Or.inr (Or.inr (Or.inr (Or.inl g0))))))))
    obtain ⟨r8, h_r8, h⟩ := Option.bind_eq_some_iff.mp h
    have z6 : mx_out (WSX2_fateOf a) m r8.2 := mx_out.tr z5 (mx_out.sub (ZX2_countWanted h_r8) (fun b j hb => (Or.elim hb (fun h0 => (Or.inr (Or.inl h0))) (fun g0 => (Or.elim g0 (fun h1 => (Or.inr (Or.inr (Or.inr (Or.inr (Or.inl h1)))))) (fun g1 => (Or.inr (Or.inr (Or.inr (Or.inr (Or.inr (Or.inl g1))))))))))))
    obtain ⟨q24, h_q24, h⟩ := Option.bind_eq_some_iff.mp h
    have z7 := mx_out.tr z6 (mx_out.sub (S := (WSX2_fateOf a)) (ZX2_fateOf_L18 mx_FU h_q24) (fun b j hb => (Or.inr (Or.inr (Or.inr (Or.inr (Or.inr (Or.inr hb))))))))
    obtain ⟨m25, e_m25, h⟩ := mx_letE h
    have z8 : mx_out (WSX2_fateOf a) m m25 := by first | exact mx_out_up z7 e_m25 (Or.inr (Or.inr (Or.inl ⟨rfl, rfl⟩))) | exact mx_out_ul z7 e_m25 (Or.inr (Or.inr (Or.inl ⟨rfl, rfl⟩))) | exact mx_out_cp z7 e_m25 (fun j => (Or.inr (Or.inr (Or.inl ⟨rfl, rfl⟩)))) | exact mx_out_cl z7 e_m25 (fun j => (Or.inr (Or.inr (Or.inl ⟨rfl, rfl⟩))))
    exact z_k3 h z8
  · rw [if_neg hc1z] at h
    exact z_k3 h z0
set_option maxRecDepth 20000 in
theorem ZX2_want {a : Nat} {x0 : Int32} {x1 : Int32} {m : mB} {r : mB} (h : FX2_want a x0 x1 m = some r) : mx_out (WSX2_want a) m r := by
  unfold FX2_want at h
  have z0 : mx_out (WSX2_want a) m m := mx_out.rf
  by_cases hc1z : x1 = 255
  · rw [if_pos hc1z] at h
    by_cases hc12z : x0 < 0
    · rw [if_pos hc12z] at h
      obtain ⟨m13, e_m13, h⟩ := mx_letE h
      have z1 : mx_out (WSX2_want a) m m13 := by first | exact mx_out_up z0 e_m13 (Or.inl ⟨rfl, rfl⟩) | exact mx_out_ul z0 e_m13 (Or.inl ⟨rfl, rfl⟩) | exact mx_out_cp z0 e_m13 (fun j => (Or.inl ⟨rfl, rfl⟩)) | exact mx_out_cl z0 e_m13 (fun j => (Or.inl ⟨rfl, rfl⟩))
      obtain rfl := Option.some.inj h
      exact z1
    · rw [if_neg hc12z] at h
      by_cases hc14z : 10 ≤ x0
      · rw [if_pos hc14z] at h
        obtain ⟨m15, e_m15, h⟩ := mx_letE h
        have z2 : mx_out (WSX2_want a) m m15 := by first | exact mx_out_up z0 e_m15 (Or.inl ⟨rfl, rfl⟩) | exact mx_out_ul z0 e_m15 (Or.inl ⟨rfl, rfl⟩) | exact mx_out_cp z0 e_m15 (fun j => (Or.inl ⟨rfl, rfl⟩)) | exact mx_out_cl z0 e_m15 (fun j => (Or.inl ⟨rfl, rfl⟩))
        obtain rfl := Option.some.inj h
        exact z2
      · rw [if_neg hc14z] at h
        obtain ⟨-, h⟩ := mx_chkE h
        by_cases hc17z : (m.1 (a + 17) (Int32.toNatClampNeg x0)) = (-1)
        · rw [if_pos hc17z] at h
          obtain ⟨m18, e_m18, h⟩ := mx_letE h
          have z3 : mx_out (WSX2_want a) m m18 := by first | exact mx_out_up z0 e_m18 (Or.inr rfl) | exact mx_out_ul z0 e_m18 (Or.inr rfl) | exact mx_out_cp z0 e_m18 (fun j => (Or.inr rfl)) | exact mx_out_cl z0 e_m18 (fun j => (Or.inr rfl))
          obtain rfl := Option.some.inj h
          exact z3
        · rw [if_neg hc17z] at h
          by_cases hc19z : (m.1 (a + 17) (Int32.toNatClampNeg x0)) = 10
          · rw [if_pos hc19z] at h
            obtain ⟨m20, e_m20, h⟩ := mx_letE h
            have z4 : mx_out (WSX2_want a) m m20 := by first | exact mx_out_up z0 e_m20 (Or.inr rfl) | exact mx_out_ul z0 e_m20 (Or.inr rfl) | exact mx_out_cp z0 e_m20 (fun j => (Or.inr rfl)) | exact mx_out_cl z0 e_m20 (fun j => (Or.inr rfl))
            obtain rfl := Option.some.inj h
            exact z4
          · rw [if_neg hc19z] at h
            obtain ⟨m21, e_m21, h⟩ := mx_letE h
            have z5 : mx_out (WSX2_want a) m m21 := by first | exact mx_out_up z0 e_m21 (Or.inl ⟨rfl, rfl⟩) | exact mx_out_ul z0 e_m21 (Or.inl ⟨rfl, rfl⟩) | exact mx_out_cp z0 e_m21 (fun j => (Or.inl ⟨rfl, rfl⟩)) | exact mx_out_cl z0 e_m21 (fun j => (Or.inl ⟨rfl, rfl⟩))
            obtain rfl := Option.some.inj h
            exact z5
  · rw [if_neg hc1z] at h
    by_cases hc2z : x0 < 0
    · rw [if_pos hc2z] at h
      obtain ⟨m3, e_m3, h⟩ := mx_letE h
      have z6 : mx_out (WSX2_want a) m m3 := by first | exact mx_out_up z0 e_m3 (Or.inl ⟨rfl, rfl⟩) | exact mx_out_ul z0 e_m3 (Or.inl ⟨rfl, rfl⟩) | exact mx_out_cp z0 e_m3 (fun j => (Or.inl ⟨rfl, rfl⟩)) | exact mx_out_cl z0 e_m3 (fun j => (Or.inl ⟨rfl, rfl⟩))
      obtain rfl := Option.some.inj h
      exact z6
    · rw [if_neg hc2z] at h
      by_cases hc4z : 10 ≤ x0
      · rw [if_pos hc4z] at h
        obtain ⟨m5, e_m5, h⟩ := mx_letE h
        have z7 : mx_out (WSX2_want a) m m5 := by first | exact mx_out_up z0 e_m5 (Or.inl ⟨rfl, rfl⟩) | exact mx_out_ul z0 e_m5 (Or.inl ⟨rfl, rfl⟩) | exact mx_out_cp z0 e_m5 (fun j => (Or.inl ⟨rfl, rfl⟩)) | exact mx_out_cl z0 e_m5 (fun j => (Or.inl ⟨rfl, rfl⟩))
        obtain rfl := Option.some.inj h
        exact z7
      · rw [if_neg hc4z] at h
        obtain ⟨-, h⟩ := mx_chkE h
        by_cases hc7z : (m.1 (a + 17) (Int32.toNatClampNeg x0)) = (-1)
        · rw [if_pos hc7z] at h
          obtain ⟨m8, e_m8, h⟩ := mx_letE h
          have z8 : mx_out (WSX2_want a) m m8 := by first | exact mx_out_up z0 e_m8 (Or.inr rfl) | exact mx_out_ul z0 e_m8 (Or.inr rfl) | exact mx_out_cp z0 e_m8 (fun j => (Or.inr rfl)) | exact mx_out_cl z0 e_m8 (fun j => (Or.inr rfl))
          obtain rfl := Option.some.inj h
          exact z8
        · rw [if_neg hc7z] at h
          by_cases hc9z : (m.1 (a + 17) (Int32.toNatClampNeg x0)) = x1
          · rw [if_pos hc9z] at h
            obtain ⟨m10, e_m10, h⟩ := mx_letE h
            have z9 : mx_out (WSX2_want a) m m10 := by first | exact mx_out_up z0 e_m10 (Or.inr rfl) | exact mx_out_ul z0 e_m10 (Or.inr rfl) | exact mx_out_cp z0 e_m10 (fun j => (Or.inr rfl)) | exact mx_out_cl z0 e_m10 (fun j => (Or.inr rfl))
            obtain rfl := Option.some.inj h
            exact z9
          · rw [if_neg hc9z] at h
            obtain ⟨m11, e_m11, h⟩ := mx_letE h
            have z10 : mx_out (WSX2_want a) m m11 := by first | exact mx_out_up z0 e_m11 (Or.inl ⟨rfl, rfl⟩) | exact mx_out_ul z0 e_m11 (Or.inl ⟨rfl, rfl⟩) | exact mx_out_cp z0 e_m11 (fun j => (Or.inl ⟨rfl, rfl⟩)) | exact mx_out_cl z0 e_m11 (fun j => (Or.inl ⟨rfl, rfl⟩))
            obtain rfl := Option.some.inj h
            exact z10
set_option maxRecDepth 20000 in
theorem ZX11_feed {a : Nat} {x0 : Int32} {x1 : Int32} {x2 : Int32} {x3 : Int32} {x4 : Int32} {m : mB} {r : (Int32 × mB)} (h : FX11_feed a x0 x1 x2 x3 x4 m = some r) : mx_out (WSX11_feed a) m r.2 := by
  unfold FX11_feed at h
  have z0 : mx_out (WSX11_feed a) m m := mx_out.rf
  obtain ⟨r1, h_r1, h⟩ := Option.bind_eq_some_iff.mp h
  by_cases hc2z : (r1 + 20) ≤ 940
  · rw [if_pos hc2z] at h
    obtain ⟨r3, h_r3, h⟩ := Option.bind_eq_some_iff.mp h
    have z1 : mx_out (WSX11_feed a) m r3 := mx_out.tr z0 (mx_out.sub (ZX10_putFour h_r3) (fun b j hb => (Or.elim hb (fun h0 => (Or.inl h0)) (fun g0 => (Or.inr g0)))))
    obtain ⟨r4, h_r4, h⟩ := Option.bind_eq_some_iff.mp h
    have z2 : mx_out (WSX11_feed a) m r4 := mx_out.tr z1 (mx_out.sub (ZX10_putFour h_r4) (fun b j hb => (Or.elim hb (fun h0 => (Or.inl h0)) (fun g0 => (Or.inr g0)))))
    obtain ⟨r5, h_r5, h⟩ := Option.bind_eq_some_iff.mp h
    have z3 : mx_out (WSX11_feed a) m r5 := mx_out.tr z2 (mx_out.sub (ZX10_putFour h_r5) (fun b j hb => (Or.elim hb (fun h0 => (Or.inl h0)) (fun g0 => (Or.inr g0)))))
    obtain ⟨r6, h_r6, h⟩ := Option.bind_eq_some_iff.mp h
    have z4 : mx_out (WSX11_feed a) m r6 := mx_out.tr z3 (mx_out.sub (ZX10_putFour h_r6) (fun b j hb => (Or.elim hb (fun h0 => (Or.inl h0)) (fun g0 => (Or.inr g0)))))
    obtain ⟨r7, h_r7, h⟩ := Option.bind_eq_some_iff.mp h
    have z5 : mx_out (WSX11_feed a) m r7 := mx_out.tr z4 (mx_out.sub (ZX10_putFour h_r7) (fun b j hb => (Or.elim hb (fun h0 => (Or.inl h0)) (fun g0 => (Or.inr g0)))))
    obtain ⟨r8, h_r8, h⟩ := Option.bind_eq_some_iff.mp h
    obtain rfl := Option.some.inj h
    exact z5
  · rw [if_neg hc2z] at h
    obtain rfl := Option.some.inj h
    exact z0
set_option maxRecDepth 20000 in
theorem ZX11_end {a : Nat} {x0 : Int32} {m : mB} {r : (Int32 × mB)} (h : FX11_end a x0 m = some r) : mx_out (WSX11_end a) m r.2 := by
  unfold FX11_end at h
  have z0 : mx_out (WSX11_end a) m m := mx_out.rf
  by_cases hc1z : x0 < 0
  · rw [if_pos hc1z] at h
    obtain rfl := Option.some.inj h
    exact z0
  · rw [if_neg hc1z] at h
    obtain ⟨r2, h_r2, h⟩ := Option.bind_eq_some_iff.mp h
    by_cases hc3z : x0 ≤ r2
    · rw [if_pos hc3z] at h
      obtain ⟨r4, h_r4, h⟩ := Option.bind_eq_some_iff.mp h
      have z1 : mx_out (WSX11_end a) m r4 := mx_out.tr z0 (mx_out.sub (ZX10_cut h_r4) (fun b j hb => hb))
      obtain rfl := Option.some.inj h
      exact z1
    · rw [if_neg hc3z] at h
      obtain rfl := Option.some.inj h
      exact z0
set_option maxRecDepth 20000 in
theorem ZX11_network {a : Nat} {m : mB} {r : (Int32 × mB)} (h : FX11_network a m = some r) : mx_out (WSX11_network a) m r.2 := by
  unfold FX11_network at h
  have z0 : mx_out (WSX11_network a) m m := mx_out.rf
  obtain ⟨r1, h_r1, h⟩ := Option.bind_eq_some_iff.mp h
  have z1 : mx_out (WSX11_network a) m r1.2 := mx_out.tr z0 (mx_out.sub (ZX5_read h_r1) (fun b j hb => (Or.elim hb (fun h0 => (Or.inr (Or.inr (Or.inr (Or.inr (Or.inr (Or.inr (Or.inr (Or.inr (Or.inr (Or.inr (Or.inr (Or.inr (Or.inr (Or.inr (Or.inr (Or.inr (Or.inr (Or.inr (Or.inl h0)))))))))))))))))))) (fun g0 => (Or.elim g0 (fun h1 => (Or.inr (Or.inr (Or.inr (Or.inr (Or.inr (Or.inr (Or.inr (Or.inr (Or.inr (Or.inr (Or.inr (Or.inr (Or.inr (Or.inr (Or.inr (Or.inr (Or.inr (Or.inr (Or.inr (Or.inl h1))))))))))))))))))))) (fun g1 => (Or.elim g1 (fun h2 => (Or.inr (Or.inr (Or.inr (Or.inr (Or.inr (Or.inr (Or.inr (Or.inr (Or.inr (Or.inr (Or.inr (Or.inr (Or.inr (Or.inr (Or.inr (Or.inr (Or.inr (Or.inr (Or.inr (Or.inr (Or.inl h2)))))))))))))))))))))) (fun g2 => (Or.elim g2 (fun h3 => (Or.inr (Or.inr (Or.inr (Or.inr (Or.inr (Or.inr (Or.inr (Or.inr (Or.inr (Or.inr (Or.inr (Or.inr (Or.inr (Or.inr (Or.inr (Or.inr (Or.inr (Or.inr (Or.inr (Or.inr (Or.inr (Or.inl h3))))))))))))))))))))))) (fun g3 => (Or.elim g3 (fun h4 => (Or.inr (Or.inr (Or.inr (Or.inr (Or.inr (Or.inr (Or.inr (Or.inr (Or.inr (Or.inr (Or.inr (Or.inr (Or.inr (Or.inr (Or.inr (Or.inr (Or.inr (Or.inr (Or.inr (Or.inr (Or.inr (Or.inr (Or.inl h4)))))))))))))))))))))))) (fun g4 => (Or.elim g4 (fun h5 => (Or.inr (Or.inr (Or.inr (Or.inr (Or.inr (Or.inr (Or.inr (Or.inr (Or.inr (Or.inr (Or.inr (Or.inr (Or.inr (Or.inr (Or.inr (Or.inr (Or.inr (Or.inr (Or.inr (Or.inr (Or.inr (Or.inr (Or.inr (Or.inl h5))))))))))))))))))))))))) (fun g5 => (Or.elim g5 (fun h6 => (Or.inr (Or.inr (Or.inr (Or.inr (Or.inr (Or.inr (Or.inr (Or.inr (Or.inr (Or.inr (Or.inr (Or.inr (Or.inr (Or.inr (Or.inr (Or.inr (Or.inr (Or.inr (Or.inr (Or.inr (Or.inr (Or.inr (Or.inr (Or.inr (Or.inl h6)))))))))))))))))))))))))) (fun g6 => (Or.elim g6 (fun h7 => (Or.inr (Or.inr (Or.inr (Or.inr (Or.inr (Or.inr (Or.inr (Or.inr (Or.inr (Or.inr (Or.inr (Or.inr (Or.inr (Or.inr (Or.inr (Or.inr (Or.inr (Or.inr (Or.inr (Or.inr (Or.inr (Or.inr (Or.inr (Or.inr (Or.inr (Or.inr (Or.inr (Or.inr (Or.inr (Or.inr (Or.inr (Or.inr (Or.inr (Or.inl h7))))))))))))))))))))))))))))))))))) (fun g7 => (Or.elim g7 (fun h8 => (Or.inr (Or.inr (Or.inr (Or.inr (Or.inr (Or.inr (Or.inr (Or.inr (Or.inr (Or.inr (Or.inr (Or.inr (Or.inr (Or.inr (Or.inr (Or.inr (Or.inr (Or.inr (Or.inr (Or.inr (Or.inr (Or.inr (Or.inr (Or.inr (Or.inr (Or.inr (Or.inr (Or.inr (Or.inr (Or.inr (Or.inr (Or.inr (Or.inr (Or.inr (Or.inl h8)))))))))))))))))))))))))))))))))))) (fun g8 => (Or.elim g8 (fun h9 => (Or.inr (Or.inr (Or.inr (Or.inr (Or.inr (Or.inr (Or.inr (Or.inr (Or.inr (Or.inr (Or.inr (Or.inr (Or.inr (Or.inr (Or.inr (Or.inr (Or.inr (Or.inr (Or.inr (Or.inr (Or.inr (Or.inr (Or.inr (Or.inr (Or.inr (Or.inl h9))))))))))))))))))))))))))) (fun g9 => (Or.elim g9 (fun h10 => (Or.inr (Or.inr (Or.inr (Or.inr (Or.inr (Or.inr (Or.inr (Or.inr (Or.inr (Or.inr (Or.inr (Or.inr (Or.inr (Or.inr (Or.inr (Or.inr (Or.inr (Or.inr (Or.inr (Or.inr (Or.inr (Or.inr (Or.inr (Or.inr (Or.inr (Or.inr (Or.inl h10)))))))))))))))))))))))))))) (fun g10 => (Or.elim g10 (fun h11 => (Or.inr (Or.inr (Or.inr (Or.inr (Or.inr (Or.inr (Or.inr (Or.inr (Or.inr (Or.inr (Or.inr (Or.inr (Or.inr (Or.inr (Or.inr (Or.inr (Or.inr (Or.inr (Or.inr (Or.inr (Or.inr (Or.inr (Or.inr (Or.inr (Or.inr (Or.inr (Or.inr (Or.inl h11))))))))))))))))))))))))))))) (fun g11 => (Or.elim g11 (fun h12 => (Or.inr (Or.inr (Or.inr (Or.inr (Or.inr (Or.inr (Or.inr (Or.inr (Or.inr (Or.inr (Or.inr (Or.inr (Or.inr (Or.inr (Or.inr (Or.inr (Or.inr (Or.inr (Or.inr (Or.inr (Or.inr (Or.inr (Or.inr (Or.inr (Or.inr (Or.inr (Or.inr (Or.inr (Or.inl h12)))))))))))))))))))))))))))))) (fun g12 => (Or.elim g12 (fun h13 => (Or.inr (Or.inr (Or.inr (Or.inr (Or.inr (Or.inr (Or.inr (Or.inr (Or.inr (Or.inr (Or.inr (Or.inr (Or.inr (Or.inr (Or.inr (Or.inr (Or.inr (Or.inr (Or.inr (Or.inr (Or.inr (Or.inr (Or.inr (Or.inr (Or.inr (Or.inr (Or.inr (Or.inr (Or.inr (Or.inl h13))))))))))))))))))))))))))))))) (fun g13 => (Or.elim g13 (fun h14 => (Or.inr (Or.inr (Or.inr (Or.inr (Or.inr (Or.inr (Or.inr (Or.inr (Or.inr (Or.inr (Or.inr (Or.inr (Or.inr (Or.inr (Or.inr (Or.inr (Or.inr (Or.inr (Or.inr (Or.inr (Or.inr (Or.inr (Or.inr (Or.inr (Or.inr (Or.inr (Or.inr (Or.inr (Or.inr (Or.inr (Or.inl h14)))))))))))))))))))))))))))))))) (fun g14 => (Or.elim g14 (fun h15 => (Or.inr (Or.inr (Or.inr (Or.inr (Or.inr (Or.inr (Or.inr (Or.inr (Or.inr (Or.inr (Or.inr (Or.inr (Or.inr (Or.inr (Or.inr (Or.inr (Or.inr (Or.inr (Or.inr (Or.inr (Or.inr (Or.inr (Or.inr (Or.inr (Or.inr (Or.inr (Or.inr (Or.inr (Or.inr (Or.inr (Or.inr (Or.inl h15))))))))))))))))))))))))))))))))) (fun g15 => (Or.elim g15 (fun h16 => (Or.inr (Or.inr (Or.inr (Or.inr (Or.inr (Or.inr (Or.inr (Or.inr (Or.inr (Or.inr (Or.inr (Or.inr (Or.inr (Or.inr (Or.inr (Or.inr (Or.inr (Or.inr (Or.inr (Or.inr (Or.inr (Or.inr (Or.inr (Or.inr (Or.inr (Or.inr (Or.inr (Or.inr (Or.inr (Or.inr (Or.inr (Or.inr (Or.inl h16)))))))))))))))))))))))))))))))))) (fun g16 => (Or.elim g16 (fun h17 => (Or.inl h17)) (fun g17 => (Or.elim g17 (fun h18 => (Or.inr (Or.inl h18))) (fun g18 => (Or.elim g18 (fun h19 => (Or.inr (Or.inr (Or.inr (Or.inl h19))))) (fun g19 => (Or.elim g19 (fun h20 => (Or.inr (Or.inr (Or.inr (Or.inr (Or.inl h20)))))) (fun g20 => (Or.elim g20 (fun h21 => (Or.inr (Or.inr (Or.inr (Or.inr (Or.inr (Or.inl h21))))))) (fun g21 => (Or.elim g21 (fun h22 => (Or.inr (Or.inr (Or.inr (Or.inr (Or.inr (Or.inr (Or.inl h22)))))))) (fun g22 => (Or.elim g22 (fun h23 => (Or.inr (Or.inr (Or.inr (Or.inr (Or.inr (Or.inr (Or.inr (Or.inl h23))))))))) (fun g23 => (Or.elim g23 (fun h24 => (Or.inr (Or.inr (Or.inr (Or.inr (Or.inr (Or.inr (Or.inr (Or.inr (Or.inl h24)))))))))) (fun g24 => (Or.inr (Or.inr (Or.inr (Or.inr (Or.inr (Or.inr (Or.inr (Or.inr (Or.inr (Or.inl g24))))))))))))))))))))))))))))))))))))))))))))))))))))))))))))))
  obtain ⟨r2, h_r2, h⟩ := Option.bind_eq_some_iff.mp h
  have z2 : mx_out (WSX11_network a) m r2 := mx_out.tr z1 (mx_out.sub (ZX10_cut h_r2) (fun b j hb => (Or.inr (Or.inr (Or.inl hb)))))
  by_cases hc3z : r1.1 = 0
  · rw [if_pos hc3z] at h
    obtain ⟨r8, h_r8, h⟩ := Option.bind_eq_some_iff.mp h
    obtain rfl := Option.some.inj h
    exact z2
  · rw [if_neg hc3z] at h
    obtain ⟨r4, h_r4, h⟩ := Option.bind_eq_some_iff.mp h
    have z3 : mx_out (WSX11_network a) m r4 := mx_out.tr z2 (mx_out.sub (ZX4_copyFrom h_r4) (fun b j hb => (Or.elim hb (fun h0 => (Or.inr (Or.inr (Or.inr (Or.inr (Or.inr (Or.inr (Or.inr (Or.inr (Or.inr (Or.inr (Or.inr (Or.inr (Or.inr (Or.inr (Or.inr (Or.inr (Or.inr (Or.inr (Or.inr (Or.inr (Or.inr (Or.inr (Or.inr (Or.inr (Or.inr (Or.inr (Or.inr (Or.inr (Or.inr (Or.inr (Or.inr (Or.inr (Or.inr (Or.inr (Or.inr (Or.inl h0))))))))))))))))))))))))))))))))))))) (fun g0 => (Or.elim g0 (fun h1 => (Or.inr (Or.inr (Or.inr (Or.inr (Or.inr (Or.inr (Or.inr (Or.inr (Or.inr (Or.inr (Or.inr (Or.inr (Or.inr (Or.inr (Or.inr (Or.inr (Or.inr (Or.inr (Or.inr (Or.inr (Or.inr (Or.inr (Or.inr (Or.inr (Or.inr (Or.inr (Or.inr (Or.inr (Or.inr (Or.inr (Or.inr (Or.inr (Or.inr (Or.inr (Or.inr (Or.inr (Or.inl h1)))))))))))))))))))))))))))))))))))))) (fun g1 => (Or.elim g1 (fun h2 => (Or.inr (Or.inr (Or.inr (Or.inr (Or.inr (Or.inr (Or.inr (Or.inr (Or.inr (Or.inr (Or.inr (Or.inr (Or.inr (Or.inr (Or.inr (Or.inr (Or.inr (Or.inr (Or.inr (Or.inr (Or.inr (Or.inr (Or.inr (Or.inr (Or.inr (Or.inr (Or.inr (Or.inr (Or.inr (Or.inr (Or.inr (Or.inr (Or.inr (Or.inr (Or.inr (Or.inr (Or.inr (Or.inl h2))))))))))))))))))))))))))))))))))))))) (fun g2 => (Or.elim g2 (fun h3 => (Or.inr (Or.inr (Or.inr (Or.inr (Or.inr (Or.inr (Or.inr (Or.inr (Or.inr (Or.inr (Or.inr (Or.inr (Or.inr (Or.inr (Or.inr (Or.inr (Or.inr (Or.inr (Or.inr (Or.inr (Or.inr (Or.inr (Or.inr (Or.inr (Or.inr (Or.inr (Or.inr (Or.inr (Or.inr (Or.inr (Or.inr (Or.inr (Or.inr (Or.inr (Or.inr (Or.inr (Or.inr (Or.inr (Or.inl h3)))))))))))))))))))))))))))))))))))))))) (fun g3 => (Or.elim g3 (fun h4 => (Or.inr (Or.inr (Or.inr (Or.inr (Or.inr (Or.inr (Or.inr (Or.inr (Or.inr (Or.inr (Or.inr (Or.inr (Or.inr (Or.inr (Or.inr (Or.inr (Or.inr (Or.inr (Or.inr (Or.inr (Or.inr (Or.inr (Or.inr (Or.inr (Or.inr (Or.inr (Or.inr (Or.inr (Or.inr (Or.inr (Or.inr (Or.inr (Or.inr (Or.inr (Or.inr (Or.inr (Or.inr (Or.inr (Or.inr (Or.inl h4))))))))))))))))))))))))))))))))))))))))) (fun g4 => (Or.elim g4 (fun h5 => (Or.inr (Or.inr (Or.inr (Or.inr (Or.inr (Or.inr (Or.inr (Or.inr (Or.inr (Or.inr (Or.inr (Or.inr (Or.inr (Or.inr (Or.inr (Or.inr (Or.inr (Or.inr (Or.inr (Or.inr (Or.inr (Or.inr (Or.inr (Or.inr (Or.inr (Or.inr (Or.inr (Or.inr (Or.inr (Or.inr (Or.inr (Or.inr (Or.inr (Or.inr (Or.inr (Or.inr (Or.inr (Or.inr (Or.inr (Or.inr (Or.inl h5)))))))))))))))))))))))))))))))))))))))))) (fun g5 => (Or.elim g5 (fun h6 => (Or.inr (Or.inr (Or.inr (Or.inr (Or.inr (Or.inr (Or.inr (Or.inr (Or.inr (Or.inr (Or.inr (Or.inr (Or.inr (Or.inr (Or.inl h6)))))))))))))))) (fun g6 => (Or.elim g6 (fun h7 => (Or.inr (Or.inr (Or.inr (Or.inr (Or.inr (Or.inr (Or.inr (Or.inr (Or.inr (Or.inr (Or.inr (Or.inr (Or.inr (Or.inr (Or.inr (Or.inr (Or.inr (Or.inr (Or.inr (Or.inr (Or.inr (Or.inr (Or.inr (Or.inr (Or.inr (Or.inr (Or.inr (Or.inr (Or.inr (Or.inr (Or.inr (Or.inr (Or.inr (Or.inr (Or.inr (Or.inr (Or.inr (Or.inr (Or.inr (Or.inr (Or.inr (Or.inl h7))))))))))))))))))))))))))))))))))))))))))) (fun g7 => (Or.elim g7 (fun h8 => (Or.inr (Or.inr (Or.inr (Or.inr (Or.inr (Or.inr (Or.inr (Or.inr (Or.inr (Or.inr (Or.inr (Or.inr (Or.inr (Or.inr (Or.inr (Or.inr (Or.inr (Or.inr (Or.inr (Or.inr (Or.inr (Or.inr (Or.inr (Or.inr (Or.inr (Or.inr (Or.inr (Or.inr (Or.inr (Or.inr (Or.inr (Or.inr (Or.inr (Or.inr (Or.inr (Or.inr (Or.inr (Or.inr (Or.inr (Or.inr (Or.inr (Or.inr (Or.inr (Or.inl h8))))))))))))))))))))))))))))))))))))))))))))) (fun g8 => (Or.elim g8 (fun h9 => (Or.inr (Or.inr (Or.inr (Or.inr (Or.inr (Or.inr (Or.inr (Or.inr (Or.inr (Or.inr (Or.inr (Or.inr (Or.inr (Or.inr (Or.inr (Or.inr (Or.inr (Or.inr (Or.inr (Or.inr (Or.inr (Or.inr (Or.inr (Or.inr (Or.inr (Or.inr (Or.inr (Or.inr (Or.inr (Or.inr (Or.inr (Or.inr (Or.inr (Or.inr (Or.inr (Or.inr (Or.inr (Or.inr (Or.inr (Or.inr (Or.inr (Or.inr (Or.inr (Or.inr (Or.inl h9)))))))))))))))))))))))))))))))))))))))))))))) (fun g9 => (Or.elim g9 (fun h10 => (Or.inr (Or.inr (Or.inr (Or.inr (Or.inr (Or.inr (Or.inr (Or.inr (Or.inr (Or.inr (Or.inr (Or.inr (Or.inr (Or.inr (Or.inr (Or.inr (Or.inr (Or.inr (Or.inr (Or.inr (Or.inr (Or.inr (Or.inr (Or.inr (Or.inr (Or.inr (Or.inr (Or.inr (Or.inr (Or.inr (Or.inr (Or.inr (Or.inr (Or.inr (Or.inr (Or.inr (Or.inr (Or.inr (Or.inr (Or.inr (Or.inr (Or.inr (Or.inr (Or.inr (Or.inr h10)))))))))))))))))))))))))))))))))))))))))))))) (fun g10 => (Or.elim g10 (fun h11 => (Or.inr (Or.inr (Or.inr (Or.inr (Or.inr (Or.inr (Or.inr (Or.inr (Or.inr (Or.inr (Or.inl h11)))))))))))) (fun g11 => (Or.elim g11 (fun h12 => (Or.inr (Or.inr (Or.inr (Or.inr (Or.inr (Or.inr (Or.inr (Or.inr (Or.inr (Or.inr (Or.inr (Or.inl h12))))))))))))) (fun g12 => (Or.elim g12 (fun h13 => (Or.inr (Or.inr (Or.inr (Or.inr (Or.inr (Or.inr (Or.inr (Or.inr (Or.inr (Or.inr (Or.inr (Or.inr (Or.inl h13)))))))))))))) (fun g13 => (Or.inr (Or.inr (Or.inr (Or.inr (Or.inr (Or.inr (Or.inr (Or.inr (Or.inr (Or.inr (Or.inr (Or.inr (Or.inr (Or.inl g13))))))))))))))))))))))))))))))))))))))))))))
    obtain ⟨r5, h_r5, h⟩ := Option.bind_eq_some_iff.mp h
    have z4 : mx_out (WSX11_network a) m r5 := mx_out.tr z3 (mx_out.sub (ZX8_clear h_r5) (fun b j hb => (Or.elim hb (fun h0 => (Or.inr (Or.inr (Or.inr (Or.inr (Or.inr (Or.inr (Or.inr (Or.inr (Or.inr (Or.inr (Or.inr (Or.inr (Or.inr (Or.inr (Or.inr (Or.inl h0))))))))))))))))) (fun g0 => (Or.elim g0 (fun h1 => (Or.inr (Or.inr (Or.inr (Or.inr (Or.inr (Or.inr (Or.inr (Or.inr (Or.inr (Or.inr (Or.inr (Or.inr (Or.inr (Or.inr (Or.inr (Or.inr (Or.inl h1)))))))))))))))))) (fun g1 => (Or.inr (Or.inr (Or.inr (Or.inr (Or.inr (Or.inr (Or.inr (Or.inr (Or.inr (Or.inr (Or.inr (Or.inr (Or.inr (Or.inr (Or.inr (Or.inr (Or.inr (Or.inl g1))))))))))))))))))))))))
    obtain ⟨r6, h_r6, h⟩ := Option.bind_eq_some_iff.mp h
    have z5 : mx_out (WSX11_network a) m r6 := mx_out.tr z4 (mx_out.sub (ZX3_forget h_r6) (fun b j hb => (Or.inr (Or.inr (Or.inr (Or.inr (Or.inr (Or.inr (Or.inr (Or.inr (Or.inr (Or.inr (Or.inr (Or.inr (Or.inr (Or.inr (Or.inr (Or.inr (Or.inr (Or.inr (Or.inr (Or.inr (Or.inr (Or.inr (Or.inr (Or.inr (Or.inr (Or.inr (Or.inr (Or.inr (Or.inr (Or.inr (Or.inr (Or.inr (Or.inr (Or.inr (Or.inr (Or.inr (Or.inr (Or.inr (Or.inr (Or.inr (Or.inr (Or.inr (Or.inl hb)))))))))))))))))))))))))))))))))))))))))))))
    obtain ⟨r7, h_r7, h⟩ := Option.bind_eq_some_iff.mp h
    obtain rfl := Option.some.inj h
    exact z5
set_option maxRecDepth 20000 in
theorem ZX11_link {a : Nat} {x0 : Int32} {x1 : Int32} {m : mB} {r : (Int32 × mB)} (h : FX11_link a x0 x1 m = some r) : mx_out (WSX11_link a) m r.2 := by
  unfold FX11_link at h
  have z0 : mx_out (WSX11_link a) m m := mx_out.rf
  obtain ⟨r1, h_r1, h⟩ := Option.bind_eq_some_iff.mp h
  by_cases hc2z : r1 = 0
  · rw [if_pos hc2z] at h
    obtain rfl := Option.some.inj h
    exact z0
  · rw [if_neg hc2z] at h
    by_cases hc3 : x1 = 0
    · rw [if_pos hc3] at h
      obtain ⟨r4, h_r4, h⟩ := Option.bind_eq_some_iff.mp h
      obtain rfl := Option.some.inj h
      exact z0
    · rw [if_neg hc3] at h
      by_cases hc5 : x1 = 1
      · rw [if_pos hc5] at h
        obtain ⟨r6, h_r6, h⟩ := Option.bind_eq_some_iff.mp h
        obtain rfl := Option.some.inj h
        exact z0
      · rw [if_neg hc5] at h
        by_cases hc7 : x1 = 2
        · rw [if_pos hc7] at h
          obtain ⟨r8, h_r8, h⟩ := Option.bind_eq_some_iff.mp h
          obtain rfl := Option.some.inj h
          exact z0
        · rw [if_neg hc7] at h
          by_cases hc9 : x1 = 3
          · rw [if_pos hc9] at h
            obtain ⟨r10, h_r10, h⟩ := Option.bind_eq_some_iff.mp h
            by_cases hc11z : r10 = 0
            · rw [if_pos hc11z] at h
              obtain rfl := Option.some.inj h
              exact z0
            · rw [if_neg hc11z] at h
              obtain rfl := Option.some.inj h
              exact z0
          · rw [if_neg hc9] at h
            by_cases hc12 : x1 = 4
            · rw [if_pos hc12] at h
              obtain ⟨r13, h_r13, h⟩ := Option.bind_eq_some_iff.mp h
              have z1 : mx_out (WSX11_link a) m r13 := mx_out.tr z0 (mx_out.sub (ZX2_lookAt h_r13) (fun b j hb => (Or.elim hb (fun h0 => (Or.inl h0)) (fun g0 => (Or.elim g0 (fun h1 => (Or.inr (Or.inr (Or.inr (Or.inl h1))))) (fun g1 => (Or.elim g1 (fun h2 => (Or.inr (Or.inr (Or.inr (Or.inr (Or.inl h2)))))) (fun g2 => (Or.elim g2 (fun h3 => (Or.inr (Or.inr (Or.inr (Or.inr (Or.inr (Or.inl h3))))))) (fun g3 => (Or.elim g3 (fun h4 => (Or.inr (Or.inr (Or.inr (Or.inr (Or.inr (Or.inr (Or.inl h4)))))))) (fun g4 => (Or.elim g4 (fun h5 => (Or.inr (Or.inr (Or.inr (Or.inr (Or.inr (Or.inr (Or.inr (Or.inl h5))))))))) (fun g5 => (Or.elim g5 (fun h6 => (Or.inr (Or.inr (Or.inr (Or.inr (Or.inr (Or.inr (Or.inr (Or.inr (Or.inr (Or.inr (Or.inr (Or.inr (Or.inr (Or.inl h6))))))))))))))) (fun g6 => (Or.elim g6 (fun h7 => (Or.inr (Or.inr (Or.inr (Or.inr (Or.inr (Or.inr (Or.inr (Or.inr (Or.inr (Or.inr (Or.inr (Or.inr (Or.inr (Or.inr (Or.inl h7)))))))))))))))) (fun g7 => (Or.elim g7 (fun h8 => (Or.inr (Or.inr (Or.inr (Or.inr (Or.inr (Or.inr (Or.inr (Or.inr (Or.inr (Or.inr (Or.inr (Or.inr (Or.inr (Or.inr (Or.inr (Or.inl h8))))))))))))))))) (fun g8 => (Or.elim g8 (fun h9 => (Or.inr (Or.inr (Or.inr (Or.inr (Or.inr (Or.inr (Or.inr (Or.inr (Or.inr (Or.inr (Or.inr (Or.inr (Or.inr (Or.inr (Or.inr (Or.inr (Or.inl h9)))))))))))))))))) (fun g9 => (Or.elim g9 (fun h10 => (Or.inr (Or.inr (Or.inr (Or.inr (Or.inr (Or.inr (Or.inr (Or.inr (Or.inr (Or.inr (Or.inr (Or.inr (Or.inr (Or.inr (Or.inr (Or.inr (Or.inr (Or.inl h10))))))))))))))))))) (fun g10 => (Or.elim g10 (fun h11 => (Or.inr (Or.inr (Or.inr (Or.inr (Or.inr (Or.inr (Or.inr (Or.inr (Or.inl h11)))))))))) (fun g11 => (Or.elim g11 (fun h12 => (Or.inr (Or.inr (Or.inr (Or.inr (Or.inr (Or.inr (Or.inr (Or.inr (Or.inr (Or.inl h12))))))))))) (fun g12 => (Or.elim g12 (fun h13 => (Or.inr (Or.inr (Or.inr (Or.inr (Or.inr (Or.inr (Or.inr (Or.inr (Or.inr (Or.inr (Or.inl h13)))))))))))) (fun g13 => (Or.elim g13 (fun h14 => (Or.inr (Or.inr (Or.inr (Or.inr (Or.inr (Or.inr (Or.inr (Or.inr (Or.inr (Or.inr (Or.inr (Or.inl h14))))))))))))) (fun g14 => (Or.inr (Or.inr (Or.inr (Or.inr (Or.inr (Or.inr (Or.inr (Or.inr (Or.inr (Or.inr (Or.inr (Or.inr (Or.inl g14)))))))))))))))))))))))))))))))))))))))))))))
              obtain ⟨r14, h_r14, h⟩ := Option.bind_eq_some_iff.mp h
              have z2 : mx_out (WSX11_link a) m r14.2 := mx_out.tr z1 (mx_out.sub (ZX2_fateOf h_r14) (fun b j hb => (Or.elim hb (fun h0 => (Or.inr (Or.inl h0))) (fun g0 => (Or.elim g0 (fun h1 => (Or.inr (Or.inr (Or.inl h1)))) (fun g1 => (Or.elim g1 (fun h2 => (Or.inr (Or.inr (Or.inr (Or.inl h2))))) (fun g2 => (Or.elim g2 (fun h3 => (Or.inr (Or.inr (Or.inr (Or.inr (Or.inr (Or.inr (Or.inr (Or.inr (Or.inr (Or.inr (Or.inr (Or.inr (Or.inr (Or.inr (Or.inr (Or.inr (Or.inr (Or.inr (Or.inl h3)))))))))))))))))))) (fun g3 => (Or.elim g3 (fun h4 => (Or.inr (Or.inr (Or.inr (Or.inr (Or.inr (Or.inr (Or.inr (Or.inr (Or.inr (Or.inr (Or.inr (Or.inr (Or.inr (Or.inr (Or.inr (Or.inr (Or.inr (Or.inr (Or.inr (Or.inl h4))))))))))))))))))))) (fun g4 => (Or.elim g4 (fun h5 => (Or.inr (Or.inr (Or.inr (Or.inr (Or.inr (Or.inr (Or.inr (Or.inr (Or.inr (Or.inr (Or.inr (Or.inr (Or.inr (Or.inr (Or.inr (Or.inr (Or.inr (Or.inr (Or.inr (Or.inr (Or.inl h5)))))))))))))))))))))) (fun g5 => (Or.inr (Or.inr (Or.inr (Or.inr (Or.inr (Or.inr (Or.inr (Or.inr (Or.inr (Or.inr (Or.inr (Or.inr (Or.inr (Or.inr (Or.inr (Or.inr (Or.inr (Or.inr (Or.inr (Or.inr (Or.inr g5)))))))))))))))))))))))))))))))))))
              obtain rfl := Option.some.inj h
              exact z2
            · rw [if_neg hc12] at h
              obtain rfl := Option.some.inj h
              exact z0
set_option maxRecDepth 20000 in
theorem ZX11_keepIfDone {a : Nat} {x0 : Int32} {m : mB} {r : (Int32 × mB)} (h : FX11_keepIfDone a x0 m = some r) : mx_out (WSX11_keepIfDone a) m r.2 := by
  unfold FX11_keepIfDone at h
  have z0 : mx_out (WSX11_keepIfDone a) m m := mx_out.rf
  by_cases hc1z : x0 = 0
  · rw [if_pos hc1z] at h
    obtain ⟨r2, h_r2, h⟩ := Option.bind_eq_some_iff.mp h
    have z1 : mx_out (WSX11_keepIfDone a) m r2 := mx_out.tr z0 (mx_out.sub (ZX3_keep h_r2) (fun b j hb => (Or.elim hb (fun h0 => (Or.inl h0)) (fun g0 => (Or.inr g0)))))
    obtain rfl := Option.some.inj h
    exact z1
  · rw [if_neg hc1z] at h
    obtain rfl := Option.some.inj h
    exact z0
set_option maxRecDepth 20000 in
theorem ZX11_pair {a : Nat} {x0 : Int32} {x1 : Int32} {m : mB} {r : (Int32 × mB)} (h : FX11_pair a x0 x1 m = some r) : mx_out (WSX11_pair a) m r.2 := by
  unfold FX11_pair at h
  have z0 : mx_out (WSX11_pair a) m m := mx_out.rf
  obtain ⟨r1, h_r1, h⟩ := Option.bind_eq_some_iff.mp h
  by_cases hc2z : r1 = 0
  · rw [if_pos hc2z] at h
    obtain rfl := Option.some.inj h
    exact z0
  · rw [if_neg hc2z] at h
    obtain ⟨r3, h_r3, h⟩ := Option.bind_eq_some_iff.mp h
    have z1 : mx_out (WSX11_pair a) m r3 := mx_out.tr z0 (mx_out.sub (ZX3_mark h_r3) (fun b j hb => (Or.inl hb)))
    obtain ⟨r4, h_r4, h⟩ := Option.bind_eq_some_iff.mp h
    have z2 : mx_out (WSX11_pair a) m r4.2 := mx_out.tr z1 (mx_out.sub (ZX4_pairUp h_r4) (fun b j hb => (Or.inr (Or.inr (Or.inr hb)))))
    obtain ⟨r5, h_r5, h⟩ := Option.bind_eq_some_iff.mp h
    have z3 : mx_out (WSX11_pair a) m r5.2 := mx_out.tr z2 (mx_out.sub (ZX11_keepIfDone h_r5) (fun b j hb => (Or.elim hb (fun h0 => (Or.inr (Or.inl h0))) (fun g0 => (Or.inr (Or.inr (Or.inl g0)))))))
    obtain rfl := Option.some.inj h
    exact z3
set_option maxRecDepth 20000 in
theorem ZX11_part {a : Nat} {x0 : Int32} {m : mB} {r : (Int32 × mB)} (h : FX11_part a x0 m = some r) : mx_out (WSX11_part a) m r.2 := by
  unfold FX11_part at h
  have z0 : mx_out (WSX11_part a) m m := mx_out.rf
  obtain ⟨r1, h_r1, h⟩ := Option.bind_eq_some_iff.mp h
  by_cases hc2z : r1 = 0
  · rw [if_pos hc2z] at h
    obtain rfl := Option.some.inj h
    exact z0
  · rw [if_neg hc2z] at h
    obtain ⟨r3, h_r3, h⟩ := Option.bind_eq_some_iff.mp h
    have z1 : mx_out (WSX11_part a) m r3 := mx_out.tr z0 (mx_out.sub (ZX3_mark h_r3) (fun b j hb => (Or.inl hb)))
    obtain ⟨r4, h_r4, h⟩ := Option.bind_eq_some_iff.mp h
    have z2 : mx_out (WSX11_part a) m r4.2 := mx_out.tr z1 (mx_out.sub (ZX4_partFrom h_r4) (fun b j hb => (Or.inr (Or.inr (Or.inr hb)))))
    obtain ⟨r5, h_r5, h⟩ := Option.bind_eq_some_iff.mp h
    have z3 : mx_out (WSX11_part a) m r5.2 := mx_out.tr z2 (mx_out.sub (ZX11_keepIfDone h_r5) (fun b j hb => (Or.elim hb (fun h0 => (Or.inr (Or.inl h0))) (fun g0 => (Or.inr (Or.inr (Or.inl g0)))))))
    obtain rfl := Option.some.inj h
    exact z3
set_option maxRecDepth 20000 in
theorem ZX11_weigh {a : Nat} {x0 : Int32} {x1 : Int32} {x2 : Int32} {m : mB} {r : (Int32 × mB)} (h : FX11_weigh a x0 x1 x2 m = some r) : mx_out (WSX11_weigh a) m r.2 := by
  unfold FX11_weigh at h
  have z0 : mx_out (WSX11_weigh a) m m := mx_out.rf
  obtain ⟨r1, h_r1, h⟩ := Option.bind_eq_some_iff.mp h
  by_cases hc2z : r1 = 0
  · rw [if_pos hc2z] at h
    obtain rfl := Option.some.inj h
    exact z0
  · rw [if_neg hc2z] at h
    by_cases hc3z : x2 < 1
    · rw [if_pos hc3z] at h
      obtain rfl := Option.some.inj h
      exact z0
    · rw [if_neg hc3z] at h
      by_cases hc4z : x2 ≤ 99
      · rw [if_pos hc4z] at h
        obtain ⟨r5, h_r5, h⟩ := Option.bind_eq_some_iff.mp h
        have z1 : mx_out (WSX11_weigh a) m r5 := mx_out.tr z0 (mx_out.sub (ZX3_mark h_r5) (fun b j hb => (Or.inl hb)))
        obtain ⟨r6, h_r6, h⟩ := Option.bind_eq_some_iff.mp h
        have z2 : mx_out (WSX11_weigh a) m r6.2 := mx_out.tr z1 (mx_out.sub (ZX4_weighAnew h_r6) (fun b j hb => (Or.inr (Or.inl hb))))
        obtain ⟨r7, h_r7, h⟩ := Option.bind_eq_some_iff.mp h
        have z3 : mx_out (WSX11_weigh a) m r7.2 := mx_out.tr z2 (mx_out.sub (ZX11_keepIfDone h_r7) (fun b j hb => (Or.elim hb (fun h0 => (Or.inr (Or.inr (Or.inl h0)))) (fun g0 => (Or.inr (Or.inr (Or.inr g0)))))))
        obtain rfl := Option.some.inj h
        exact z3
      · rw [if_neg hc4z] at h
        obtain rfl := Option.some.inj h
        exact z0
set_option maxRecDepth 20000 in
theorem ZX11_price {a : Nat} {x0 : Int32} {x1 : Int32} {m : mB} {r : (Int32 × mB)} (h : FX11_price a x0 x1 m = some r) : mx_out (WSX11_price a) m r.2 := by
  unfold FX11_price at h
  have z0 : mx_out (WSX11_price a) m m := mx_out.rf
  obtain ⟨r1, h_r1, h⟩ := Option.bind_eq_some_iff.mp h
  by_cases hc2z : r1 = 0
  · rw [if_pos hc2z] at h
    obtain rfl := Option.some.inj h
    exact z0
  · rw [if_neg hc2z] at h
    obtain ⟨r3, h_r3, h⟩ := Option.bind_eq_some_iff.mp h
    by_cases hc4z : r3 = 0
    · rw [if_pos hc4z] at h
      obtain rfl := Option.some.inj h
      exact z0
    · rw [if_neg hc4z] at h
      obtain ⟨r5, h_r5, h⟩ := Option.bind_eq_some_iff.mp h
      have z1 : mx_out (WSX11_price a) m r5 := mx_out.tr z0 (mx_out.sub (ZX3_mark h_r5) (fun b j hb => (Or.inl hb)))
      obtain ⟨r6, h_r6, h⟩ := Option.bind_eq_some_iff.mp h
      have z2 : mx_out (WSX11_price a) m r6.2 := mx_out.tr z1 (mx_out.sub (ZX4_priceAt h_r6) (fun b j hb => (Or.inr (Or.inr (Or.inr hb)))))
      obtain ⟨r7, h_r7, h⟩ := Option.bind_eq_some_iff.mp h
      have z3 : mx_out (WSX11_price a) m r7.2 := mx_out.tr z2 (mx_out.sub (ZX11_keepIfDone h_r7) (fun b j hb => (Or.elim hb (fun h0 => (Or.inr (Or.inl h0))) (fun g0 => (Or.inr (Or.inr (Or.inl g0)))))))
      obtain rfl := Option.some.inj h
      exact z3
set_option maxRecDepth 20000 in
theorem ZX11_crown {a : Nat} {x0 : Int32} {x1 : Int32} {m : mB} {r : (Int32 × mB)} (h : FX11_crown a x0 x1 m = some r) : mx_out (WSX11_crown a) m r.2 := by
  unfold FX11_crown at h
  have z0 : mx_out (WSX11_crown a) m m := mx_out.rf
  obtain ⟨r1, h_r1, h⟩ := Option.bind_eq_some_iff.mp h
  by_cases hc2z : r1 = 0
  · rw [if_pos hc2z] at h
    obtain rfl := Option.some.inj h
    exact z0
  · rw [if_neg hc2z] at h
    obtain ⟨r3, h_r3, h⟩ := Option.bind_eq_some_iff.mp h
    by_cases hc4z : r3 = 0
    · rw [if_pos hc4z] at h
      obtain rfl := Option.some.inj h
      exact z0
    · rw [if_neg hc4z] at h
      obtain ⟨r5, h_r5, h⟩ := Option.bind_eq_some_iff.mp h
      have z1 : mx_out (WSX11_crown a) m r5 := mx_out.tr z0 (mx_out.sub (ZX3_mark h_r5) (fun b j hb => (Or.inl hb)))
      obtain ⟨r6, h_r6, h⟩ := Option.bind_eq_some_iff.mp h
      have z2 : mx_out (WSX11_crown a) m r6.2 := mx_out.tr z1 (mx_out.sub (ZX4_crownAt h_r6) (fun b j hb => (Or.inr (Or.inl hb))))
      obtain ⟨r7, h_r7, h⟩ := Option.bind_eq_some_iff.mp h
      have z3 : mx_out (WSX11_crown a) m r7.2 := mx_out.tr z2 (mx_out.sub (ZX11_keepIfDone h_r7) (fun b j hb => (Or.elim hb (fun h0 => (Or.inr (Or.inr (Or.inl h0)))) (fun g0 => (Or.inr (Or.inr (Or.inr g0)))))))
      obtain rfl := Option.some.inj h
      exact z3
set_option maxRecDepth 20000 in
theorem ZX11_open {a : Nat} {x0 : Int32} {m : mB} {r : (Int32 × mB)} (h : FX11_open a x0 m = some r) : mx_out (WSX11_open a) m r.2 := by
  unfold FX11_open at h
  have z0 : mx_out (WSX11_open a) m m := mx_out.rf
  obtain ⟨r1, h_r1, h⟩ := Option.bind_eq_some_iff.mp h
  by_cases hc2z : r1 = 0
  · rw [if_pos hc2z] at h
    obtain rfl := Option.some.inj h
    exact z0
  · rw [if_neg hc2z] at h
    obtain ⟨r3, h_r3, h⟩ := Option.bind_eq_some_iff.mp h
    have z1 : mx_out (WSX11_open a) m r3 := mx_out.tr z0 (mx_out.sub (ZX3_mark h_r3) (fun b j hb => (Or.inl hb)))
    obtain ⟨r4, h_r4, h⟩ := Option.bind_eq_some_iff.mp h
    have z2 : mx_out (WSX11_open a) m r4.2 := mx_out.tr z1 (mx_out.sub (ZX4_openSet h_r4) (fun b j hb => (Or.elim hb (fun h0 => (Or.inr (Or.inr (Or.inr (Or.inl h0))))) (fun g0 => (Or.elim g0 (fun h1 => (Or.inr (Or.inr (Or.inl h1)))) (fun g1 => (Or.inr (Or.inl g1))))))))
    obtain ⟨r5, h_r5, h⟩ := Option.bind_eq_some_iff.mp h
    have z3 : mx_out (WSX11_open a) m r5.2 := mx_out.tr z2 (mx_out.sub (ZX11_keepIfDone h_r5) (fun b j hb => (Or.elim hb (fun h0 => (Or.inr (Or.inr (Or.inr (Or.inr (Or.inl h0)))))) (fun g0 => (Or.inr (Or.inr (Or.inr (Or.inr (Or.inr g0)))))))))
    obtain rfl := Option.some.inj h
    exact z3
set_option maxRecDepth 20000 in
theorem ZX11_grow {a : Nat} {x0 : Int32} {m : mB} {r : (Int32 × mB)} (h : FX11_grow a x0 m = some r) : mx_out (WSX11_grow a) m r.2 := by
  unfold FX11_grow at h
  have z0 : mx_out (WSX11_grow a) m m := mx_out.rf
  obtain ⟨r1, h_r1, h⟩ := Option.bind_eq_some_iff.mp h
  have z1 : mx_out (WSX11_grow a) m r1.2 := mx_out.tr z0 (mx_out.sub (ZX9_findPath h_r1) (fun b j hb => (Or.elim hb (fun h0 => (Or.inl h0)) (fun g0 => (Or.inr (Or.inl g0))))))
  by_cases hc2z : r1.1 = 0
  · rw [if_pos hc2z] at h
    obtain rfl := Option.some.inj h
    exact z1
  · rw [if_neg hc2z] at h
    obtain ⟨r3, h_r3, h⟩ := Option.bind_eq_some_iff.mp h
    have z2 : mx_out (WSX11_grow a) m r3 := mx_out.tr z1 (mx_out.sub (ZX7_copyFrom h_r3) (fun b j hb => (Or.elim hb (fun h0 => (Or.inr (Or.inr (Or.inl h0)))) (fun g0 => (Or.inr (Or.inr (Or.inr g0)))))))
    obtain ⟨r4, h_r4, h⟩ := Option.bind_eq_some_iff.mp h
    obtain rfl := Option.some.inj h
    exact z2
set_option maxRecDepth 20000 in
theorem ZX11_turn {a : Nat} {m : mB} {r : (Int32 × mB)} (h : FX11_turn a m = some r) : mx_out (WSX11_turn a) m r.2 := by
  unfold FX11_turn at h
  have z0 : mx_out (WSX11_turn a) m m := mx_out.rf
  obtain ⟨r1, h_r1, h⟩ := Option.bind_eq_some_iff.mp h
  have z1 : mx_out (WSX11_turn a) m r1 := mx_out.tr z0 (mx_out.sub (ZX3_mark h_r1) (fun b j hb => (Or.inl hb)))
  obtain ⟨r2, h_r2, h⟩ := Option.bind_eq_some_iff.mp h
  have z2 : mx_out (WSX11_turn a) m r2.2 := mx_out.tr z1 (mx_out.sub (ZX4_turnAlong h_r2) (fun b j hb => (Or.elim hb (fun h0 => (Or.inr (Or.inl h0))) (fun g0 => (Or.inr (Or.inr (Or.inr (Or.inr g0))))))))
  obtain ⟨r3, h_r3, h⟩ := Option.bind_eq_some_iff.mp h
  have z3 : mx_out (WSX11_turn a) m r3.2 := mx_out.tr z2 (mx_out.sub (ZX11_keepIfDone h_r3) (fun b j hb => (Or.elim hb (fun h0 => (Or.inr (Or.inr (Or.inl h0)))) (fun g0 => (Or.inr (Or.inr (Or.inr (Or.inl g0))))))))
  obtain rfl := Option.some.inj h
  exact z3
set_option maxRecDepth 20000 in
theorem ZX11_flower {a : Nat} {x0 : Int32} {m : mB} {r : (Int32 × mB)} (h : FX11_flower a x0 m = some r) : mx_out (WSX11_flower a) m r.2 := by
  unfold FX11_flower at h
  have z0 : mx_out (WSX11_flower a) m m := mx_out.rf
  obtain ⟨r1, h_r1, h⟩ := Option.bind_eq_some_iff.mp h
  have z1 : mx_out (WSX11_flower a) m r1.2 := mx_out.tr z0 (mx_out.sub (ZX9_findFlower h_r1) (fun b j hb => (Or.elim hb (fun h0 => (Or.inl h0)) (fun g0 => (Or.inr (Or.inl g0))))))
  by_cases hc2z : r1.1 = 0
  · rw [if_pos hc2z] at h
    obtain rfl := Option.some.inj h
    exact z1
  · rw [if_neg hc2z] at h
    obtain ⟨r3, h_r3, h⟩ := Option.bind_eq_some_iff.mp h
    have z2 : mx_out (WSX11_flower a) m r3 := mx_out.tr z1 (mx_out.sub (ZX7_copyFrom h_r3) (fun b j hb => (Or.elim hb (fun h0 => (Or.inr (Or.inr (Or.inl h0)))) (fun g0 => (Or.inr (Or.inr (Or.inr g0)))))))
    obtain ⟨r4, h_r4, h⟩ := Option.bind_eq_some_iff.mp h
    obtain rfl := Option.some.inj h
    exact z2
set_option maxRecDepth 20000 in
theorem ZX11_shrink {a : Nat} {m : mB} {r : (Int32 × mB)} (h : FX11_shrink a m = some r) : mx_out (WSX11_shrink a) m r.2 := by
  unfold FX11_shrink at h
  have z0 : mx_out (WSX11_shrink a) m m := mx_out.rf
  obtain ⟨r1, h_r1, h⟩ := Option.bind_eq_some_iff.mp h
  have z1 : mx_out (WSX11_shrink a) m r1 := mx_out.tr z0 (mx_out.sub (ZX3_mark h_r1) (fun b j hb => (Or.inl hb)))
  obtain ⟨r2, h_r2, h⟩ := Option.bind_eq_some_iff.mp h
  have z2 : mx_out (WSX11_shrink a) m r2.2 := mx_out.tr z1 (mx_out.sub (ZX4_shrinkAlong h_r2) (fun b j hb => (Or.elim hb (fun h0 => (Or.inr (Or.inr (Or.inr (Or.inl h0))))) (fun g0 => (Or.elim g0 (fun h1 => (Or.inr (Or.inr (Or.inr (Or.inr (Or.inl h1)))))) (fun g1 => (Or.elim g1 (fun h2 => (Or.inr (Or.inr (Or.inl h2)))) (fun g2 => (Or.inr (Or.inl g2))))))))))
  obtain ⟨r3, h_r3, h⟩ := Option.bind_eq_some_iff.mp h
  have z3 : mx_out (WSX11_shrink a) m r3.2 := mx_out.tr z2 (mx_out.sub (ZX11_keepIfDone h_r3) (fun b j hb => (Or.elim hb (fun h0 => (Or.inr (Or.inr (Or.inr (Or.inr (Or.inr (Or.inl h0))))))) (fun g0 => (Or.inr (Or.inr (Or.inr (Or.inr (Or.inr (Or.inr g0))))))))))
  obtain rfl := Option.some.inj h
  exact z3
set_option maxRecDepth 20000 in
theorem ZX11_undo {a : Nat} {m : mB} {r : (Int32 × mB)} (h : FX11_undo a m = some r) : mx_out (WSX11_undo a) m r.2 := by
  unfold FX11_undo at h
  have z0 : mx_out (WSX11_undo a) m m := mx_out.rf
  obtain ⟨r1, h_r1, h⟩ := Option.bind_eq_some_iff.mp h
  have z1 : mx_out (WSX11_undo a) m r1.2 := mx_out.tr z0 (mx_out.sub (ZX3_takeBack h_r1) (fun b j hb => (Or.elim hb (fun h0 => (Or.inr (Or.inr (Or.inr (Or.inr (Or.inr (Or.inr (Or.inr (Or.inr (Or.inr (Or.inr (Or.inr (Or.inr (Or.inl h0)))))))))))))) (fun g0 => (Or.elim g0 (fun h1 => (Or.inr (Or.inr (Or.inr (Or.inr (Or.inr (Or.inr (Or.inr (Or.inr (Or.inr (Or.inr (Or.inr (Or.inr (Or.inr (Or.inl h1))))))))))))))) (fun g1 => (Or.elim g1 (fun h2 => (Or.inr (Or.inr (Or.inr (Or.inr (Or.inr (Or.inl h2))))))) (fun g2 => (Or.elim g2 (fun h3 => (Or.inr (Or.inr (Or.inr (Or.inr (Or.inr (Or.inr (Or.inl h3)))))))) (fun g3 => (Or.elim g3 (fun h4 => (Or.inr (Or.inr (Or.inr (Or.inr (Or.inr (Or.inr (Or.inr (Or.inl h4))))))))) (fun g4 => (Or.elim g4 (fun h5 => (Or.inr (Or.inr (Or.inr (Or.inr (Or.inr (Or.inr (Or.inr (Or.inr (Or.inl h5)))))))))) (fun g5 => (Or.elim g5 (fun h6 => (Or.inr (Or.inr (Or.inr (Or.inr (Or.inr (Or.inr (Or.inr (Or.inr (Or.inr (Or.inl h6))))))))))) (fun g6 => (Or.elim g6 (fun h7 => (Or.inr (Or.inr (Or.inr (Or.inr (Or.inr (Or.inr (Or.inr (Or.inr (Or.inr (Or.inr (Or.inl h7)))))))))))) (fun g7 => (Or.elim g7 (fun h8 => (Or.inr (Or.inr (Or.inr (Or.inr (Or.inl h8)))))) (fun g8 => (Or.elim g8 (fun h9 => (Or.inr (Or.inr (Or.inr (Or.inr (Or.inr (Or.inr (Or.inr (Or.inr (Or.inr (Or.inr (Or.inr (Or.inl h9))))))))))))) (fun g9 => (Or.elim g9 (fun h10 => (Or.inr (Or.inr (Or.inr (Or.inr (Or.inr (Or.inr (Or.inr (Or.inr (Or.inr (Or.inr (Or.inr (Or.inr (Or.inr (Or.inr (Or.inl h10)))))))))))))))) (fun g10 => (Or.elim g10 (fun h11 => (Or.inr (Or.inr (Or.inr (Or.inr (Or.inr (Or.inr (Or.inr (Or.inr (Or.inr (Or.inr (Or.inr (Or.inr (Or.inr (Or.inr (Or.inr (Or.inl h11))))))))))))))))) (fun g11 => (Or.elim g11 (fun h12 => (Or.inr (Or.inr (Or.inr (Or.inr (Or.inr (Or.inr (Or.inr (Or.inr (Or.inr (Or.inr (Or.inr (Or.inr (Or.inr (Or.inr (Or.inr (Or.inr h12))))))))))))))))) (fun g12 => (Or.elim g12 (fun h13 => (Or.inl h13)) (fun g13 => (Or.elim g13 (fun h14 => (Or.inr (Or.inl h14))) (fun g14 => (Or.elim g14 (fun h15 => (Or.inr (Or.inr (Or.inl h15)))) (fun g15 => (Or.inr (Or.inr (Or.inr (Or.inl g15))))))))))))))))))))))))))))))))))))))
  obtain rfl := Option.some.inj h
  exact z1
set_option maxRecDepth 20000 in
theorem ZX11_noteFlaw {a : Nat} {x0 : Int32} {x1 : Int32} {x2 : Int32} {m : mB} {r : (Int32 × mB)} (h : FX11_noteFlaw a x0 x1 x2 m = some r) : mx_out (WSX11_noteFlaw a) m r.2 := by
  unfold FX11_noteFlaw at h
  have z0 : mx_out (WSX11_noteFlaw a) m m := mx_out.rf
  obtain ⟨m1, e_m1, h⟩ := mx_letE h
  have z1 : mx_out (WSX11_noteFlaw a) m m1 := by first | exact mx_out_up z0 e_m1 (Or.inl ⟨rfl, rfl⟩) | exact mx_out_ul z0 e_m1 (Or.inl ⟨rfl, rfl⟩) | exact mx_out_cp z0 e_m1 (fun j => (Or.inl ⟨rfl, rfl⟩)) | exact mx_out_cl z0 e_m1 (fun j => (Or.inl ⟨rfl, rfl⟩))
  obtain ⟨m2, e_m2, h⟩ := mx_letE h
  have z2 : mx_out (WSX11_noteFlaw a) m m2 := by first | exact mx_out_up z1 e_m2 (Or.inr ⟨rfl, rfl⟩) | exact mx_out_ul z1 e_m2 (Or.inr ⟨rfl, rfl⟩) | exact mx_out_cp z1 e_m2 (fun j => (Or.inr ⟨rfl, rfl⟩)) | exact mx_out_cl z1 e_m2 (fun j => (Or.inr ⟨rfl, rfl⟩))
  obtain rfl := Option.some.inj h
  exact z2
set_option maxRecDepth 20000 in
theorem ZX11_proof {a : Nat} {m : mB} {r : (Int32 × mB)} (h : FX11_proof a m = some r) : mx_out (WSX11_proof a) m r.2 := by
  unfold FX11_proof at h
  have z0 : mx_out (WSX11_proof a) m m := mx_out.rf
  obtain ⟨r1, h_r1, h⟩ := Option.bind_eq_some_iff.mp h
  by_cases hc2z : r1 = (-1)
  · rw [if_pos hc2z] at h
    obtain ⟨r3, h_r3, h⟩ := Option.bind_eq_some_iff.mp h
    by_cases hc4z : r3 = (-1)
    · rw [if_pos hc4z] at h
      obtain ⟨r5, h_r5, h⟩ := Option.bind_eq_some_iff.mp h
      by_cases hc6z : r5 = (-1)
      · rw [if_pos hc6z] at h
        obtain ⟨r7, h_r7, h⟩ := Option.bind_eq_some_iff.mp h
        by_cases hc8z : r7 = (-1)
        · rw [if_pos hc8z] at h
          obtain ⟨r9, h_r9, h⟩ := Option.bind_eq_some_iff.mp h
          have z1 : mx_out (WSX11_proof a) m r9.2 := mx_out.tr z0 (mx_out.sub (ZX11_noteFlaw h_r9) (fun b j hb => (Or.elim hb (fun h0 => (Or.inl h0)) (fun g0 => (Or.inr g0)))))
          obtain rfl := Option.some.inj h
          exact z1
        · rw [if_neg hc8z] at h
          obtain ⟨r10, h_r10, h⟩ := Option.bind_eq_some_iff.mp h
          obtain ⟨r11, h_r11, h⟩ := Option.bind_eq_some_iff.mp h
          have z2 : mx_out (WSX11_proof a) m r11.2 := mx_out.tr z0 (mx_out.sub (ZX11_noteFlaw h_r11) (fun b j hb => (Or.elim hb (fun h0 => (Or.inl h0)) (fun g0 => (Or.inr g0)))))
          obtain rfl := Option.some.inj h
          exact z2
      · rw [if_neg hc6z] at h
        obtain ⟨r12, h_r12, h⟩ := Option.bind_eq_some_iff.mp h
        obtain ⟨r13, h_r13, h⟩ := Option.bind_eq_some_iff.mp h
        have z3 : mx_out (WSX11_proof a) m r13.2 := mx_out.tr z0 (mx_out.sub (ZX11_noteFlaw h_r13) (fun b j hb => (Or.elim hb (fun h0 => (Or.inl h0)) (fun g0 => (Or.inr g0)))))
        obtain rfl := Option.some.inj h
        exact z3
    · rw [if_neg hc4z] at h
      obtain ⟨r14, h_r14, h⟩ := Option.bind_eq_some_iff.mp h
      obtain ⟨r15, h_r15, h⟩ := Option.bind_eq_some_iff.mp h
      have z4 : mx_out (WSX11_proof a) m r15.2 := mx_out.tr z0 (mx_out.sub (ZX11_noteFlaw h_r15) (fun b j hb => (Or.elim hb (fun h0 => (Or.inl h0)) (fun g0 => (Or.inr g0)))))
      obtain rfl := Option.some.inj h
      exact z4
  · rw [if_neg hc2z] at h
    obtain ⟨r16, h_r16, h⟩ := Option.bind_eq_some_iff.mp h
    obtain ⟨r17, h_r17, h⟩ := Option.bind_eq_some_iff.mp h
    have z5 : mx_out (WSX11_proof a) m r17.2 := mx_out.tr z0 (mx_out.sub (ZX11_noteFlaw h_r17) (fun b j hb => (Or.elim hb (fun h0 => (Or.inl h0)) (fun g0 => (Or.inr g0)))))
    obtain rfl := Option.some.inj h
    exact z5
set_option maxRecDepth 20000 in
theorem ZX11_best {a : Nat} {m : mB} {r : (Int32 × mB)} (h : FX11_best a m = some r) : mx_out (WSX11_best a) m r.2 := by
  unfold FX11_best at h
  have z0 : mx_out (WSX11_best a) m m := mx_out.rf
  obtain ⟨r1, h_r1, h⟩ := Option.bind_eq_some_iff.mp h
  have z1 : mx_out (WSX11_best a) m r1 := mx_out.tr z0 (mx_out.sub (ZX2_lookAt h_r1) (fun b j hb => (Or.elim hb (fun h0 => (Or.inl h0)) (fun g0 => (Or.elim g0 (fun h1 => (Or.inr (Or.inl h1))) (fun g1 => (Or.elim g1 (fun h2 => (Or.inr (Or.inr (Or.inl h2)))) (fun g2 => (Or.elim g2 (fun h3 => (Or.inr (Or.inr (Or.inr (Or.inl h3))))) (fun g3 => (Or.elim g3 (fun h4 => (Or.inr (Or.inr (Or.inr (Or.inr (Or.inl h4)))))) (fun g4 => (Or.elim g4 (fun h5 => (Or.inr (Or.inr (Or.inr (Or.inr (Or.inr (Or.inl h5))))))) (fun g5 => (Or.elim g5 (fun h6 => (Or.inr (Or.inr (Or.inr (Or.inr (Or.inr (Or.inr (Or.inr (Or.inr (Or.inr (Or.inr (Or.inr (Or.inl h6))))))))))))) (fun g6 => (Or.elim g6 (fun h7 => (Or.inr (Or.inr (Or.inr (Or.inr (Or.inr (Or.inr (Or.inr (Or.inr (Or.inr (Or.inr (Or.inr (Or.inr (Or.inl h7)))))))))))))) (fun g7 => (Or.elim g7 (fun h8 => (Or.inr (Or.inr (Or.inr (Or.inr (Or.inr (Or.inr (Or.inr (Or.inr (Or.inr (Or.inr (Or.inr (Or.inr (Or.inr (Or.inl h8))))))))))))))) (fun g8 => (Or.elim g8 (fun h9 => (Or.inr (Or.inr (Or.inr (Or.inr (Or.inr (Or.inr (Or.inr (Or.inr (Or.inr (Or.inr (Or.inr (Or.inr (Or.inr (Or.inr (Or.inl h9)))))))))))))))) (fun g9 => (Or.elim g9 (fun h10 => (Or.inr (Or.inr (Or.inr (Or.inr (Or.inr (Or.inr (Or.inr (Or.inr (Or.inr (Or.inr (Or.inr (Or.inr (Or.inr (Or.inr (Or.inr (Or.inl h10))))))))))))))))) (fun g10 => (Or.elim g10 (fun h11 => (Or.inr (Or.inr (Or.inr (Or.inr (Or.inr (Or.inr (Or.inl h11)))))))) (fun g11 => (Or.elim g11 (fun h12 => (Or.inr (Or.inr (Or.inr (Or.inr (Or.inr (Or.inr (Or.inr (Or.inl h12))))))))) (fun g12 => (Or.elim g12 (fun h13 => (Or.inr (Or.inr (Or.inr (Or.inr (Or.inr (Or.inr (Or.inr (Or.inr (Or.inl h13)))))))))) (fun g13 => (Or.elim g13 (fun h14 => (Or.inr (Or.inr (Or.inr (Or.inr (Or.inr (Or.inr (Or.inr (Or.inr (Or.inr (Or.inl h14))))))))))) (fun g14 => (Or.inr (Or.inr (Or.inr (Or.inr (Or.inr (Or.inr (Or.inr (Or.inr (Or.inr (Or.inr (Or.inl g14)))))))))))))))))))))))))))))))))))))))))))
  obtain ⟨r2, h_r2, h⟩ := Option.bind_eq_some_iff.mp h
  have z2 : mx_out (WSX11_best a) m r2 := mx_out.tr z1 (mx_out.sub (ZX2_bestInto h_r2) (fun b j hb => (Or.elim hb (fun h0 => (Or.inr (Or.inr (Or.inr (Or.inr (Or.inr (Or.inr (Or.inr (Or.inr (Or.inr (Or.inr (Or.inr (Or.inr (Or.inr (Or.inr (Or.inr (Or.inr (Or.inl h0)))))))))))))))))) (fun g0 => (Or.elim g0 (fun h1 => (Or.inr (Or.inr (Or.inr (Or.inr (Or.inr (Or.inr (Or.inr (Or.inr (Or.inr (Or.inr (Or.inr (Or.inr (Or.inr (Or.inr (Or.inr (Or.inr (Or.inr (Or.inl h1))))))))))))))))))) (fun g1 => (Or.inr (Or.inr (Or.inr (Or.inr (Or.inr (Or.inr (Or.inr (Or.inr (Or.inr (Or.inr (Or.inr (Or.inr (Or.inr (Or.inr (Or.inr (Or.inr (Or.inr (Or.inr g1))))))))))))))))))))))))
  obtain ⟨r3, h_r3, h⟩ := Option.bind_eq_some_iff.mp h
  obtain rfl := Option.some.inj h
  exact z2
set_option maxRecDepth 20000 in
theorem ZX11_next {a : Nat} {m : mB} {r : (Int32 × mB)} (h : FX11_next a m = some r) : mx_out (WSX11_next a) m r.2 := by
  unfold FX11_next at h
  have z0 : mx_out (WSX11_next a) m m := mx_out.rf
  obtain ⟨r1, h_r1, h⟩ := Option.bind_eq_some_iff.mp h
  have z1 : mx_out (WSX11_next a) m r1 := mx_out.tr z0 (mx_out.sub (ZX2_lookAt h_r1) (fun b j hb => (Or.elim hb (fun h0 => (Or.inl h0)) (fun g0 => (Or.elim g0 (fun h1 => (Or.inr (Or.inl h1))) (fun g1 => (Or.elim g1 (fun h2 => (Or.inr (Or.inr (Or.inl h2)))) (fun g2 => (Or.elim g2 (fun h3 => (Or.inr (Or.inr (Or.inr (Or.inl h3))))) (fun g3 => (Or.elim g3 (fun h4 => (Or.inr (Or.inr (Or.inr (Or.inr (Or.inl h4)))))) (fun g4 => (Or.elim g4 (fun h5 => (Or.inr (Or.inr (Or.inr (Or.inr (Or.inr (Or.inl h5))))))) (fun g5 => (Or.elim g5 (fun h6 => (Or.inr (Or.inr (Or.inr (Or.inr (Or.inr (Or.inr (Or.inr (Or.inr (Or.inr (Or.inr (Or.inr (Or.inl h6))))))))))))) (fun g6 => (Or.elim g6 (fun h7 => (Or.inr (Or.inr (Or.inr (Or.inr (Or.inr (Or.inr (Or.inr (Or.inr (Or.inr (Or.inr (Or.inr (Or.inr (Or.inl h7)))))))))))))) (fun g7 => (Or.elim g7 (fun h8 => (Or.inr (Or.inr (Or.inr (Or.inr (Or.inr (Or.inr (Or.inr (Or.inr (Or.inr (Or.inr (Or.inr (Or.inr (Or.inr (Or.inl h8))))))))))))))) (fun g8 => (Or.elim g8 (fun h9 => (Or.inr (Or.inr (Or.inr (Or.inr (Or.inr (Or.inr (Or.inr (Or.inr (Or.inr (Or.inr (Or.inr (Or.inr (Or.inr (Or.inr (Or.inl h9)))))))))))))))) (fun g9 => (Or.elim g9 (fun h10 => (Or.inr (Or.inr (Or.inr (Or.inr (Or.inr (Or.inr (Or.inr (Or.inr (Or.inr (Or.inr (Or.inr (Or.inr (Or.inr (Or.inr (Or.inr h10)))))))))))))))) (fun g10 => (Or.elim g10 (fun h11 => (Or.inr (Or.inr (Or.inr (Or.inr (Or.inr (Or.inr (Or.inl h11)))))))) (fun g11 => (Or.elim g11 (fun h12 => (Or.inr (Or.inr (Or.inr (Or.inr (Or.inr (Or.inr (Or.inr (Or.inl h12))))))))) (fun g12 => (Or.elim g12 (fun h13 => (Or.inr (Or.inr (Or.inr (Or.inr (Or.inr (Or.inr (Or.inr (Or.inr (Or.inl h13)))))))))) (fun g13 => (Or.elim g13 (fun h14 => (Or.inr (Or.inr (Or.inr (Or.inr (Or.inr (Or.inr (Or.inr (Or.inr (Or.inr (Or.inl h14))))))))))) (fun g14 => (Or.inr (Or.inr (Or.inr (Or.inr (Or.inr (Or.inr (Or.inr (Or.inr (Or.inr (Or.inr (Or.inl g14)))))))))))))))))))))))))))))))))))))))))))
  obtain ⟨r2, h_r2, h⟩ := Option.bind_eq_some_iff.mp h
  obtain rfl := Option.some.inj h
  exact z1
set_option maxRecDepth 20000 in
theorem ZX11_heavy {a : Nat} {x0 : Int32} {m : mB} {r : (Int32 × mB)} (h : FX11_heavy a x0 m = some r) : mx_out (WSX11_heavy a) m r.2 := by
  unfold FX11_heavy at h
  have z0 : mx_out (WSX11_heavy a) m m := mx_out.rf
  obtain ⟨r1, h_r1, h⟩ := Option.bind_eq_some_iff.mp h
  have z1 : mx_out (WSX11_heavy a) m r1 := mx_out.tr z0 (mx_out.sub (ZX2_lookAt h_r1) (fun b j hb => (Or.elim hb (fun h0 => (Or.inl h0)) (fun g0 => (Or.elim g0 (fun h1 => (Or.inr (Or.inl h1))) (fun g1 => (Or.elim g1 (fun h2 => (Or.inr (Or.inr (Or.inl h2)))) (fun g2 => (Or.elim g2 (fun h3 => (Or.inr (Or.inr (Or.inr (Or.inl h3))))) (fun g3 => (Or.elim g3 (fun h4 => (Or.inr (Or.inr (Or.inr (Or.inr (Or.inl h4)))))) (fun g4 => (Or.elim g4 (fun h5 => (Or.inr (Or.inr (Or.inr (Or.inr (Or.inr (Or.inl h5))))))) (fun g5 => (Or.elim g5 (fun h6 => (Or.inr (Or.inr (Or.inr (Or.inr (Or.inr (Or.inr (Or.inr (Or.inr (Or.inr (Or.inr (Or.inr (Or.inl h6))))))))))))) (fun g6 => (Or.elim g6 (fun h7 => (Or.inr (Or.inr (Or.inr (Or.inr (Or.inr (Or.inr (Or.inr (Or.inr (Or.inr (Or.inr (Or.inr (Or.inr (Or.inl h7)))))))))))))) (fun g7 => (Or.elim g7 (fun h8 => (Or.inr (Or.inr (Or.inr (Or.inr (Or.inr (Or.inr (Or.inr (Or.inr (Or.inr (Or.inr (Or.inr (Or.inr (Or.inr (Or.inl h8))))))))))))))) (fun g8 => (Or.elim g8 (fun h9 => (Or.inr (Or.inr (Or.inr (Or.inr (Or.inr (Or.inr (Or.inr (Or.inr (Or.inr (Or.inr (Or.inr (Or.inr (Or.inr (Or.inr (Or.inl h9)))))))))))))))) (fun g9 => (Or.elim g9 (fun h10 => (Or.inr (Or.inr (Or.inr (Or.inr (Or.inr (Or.inr (Or.inr (Or.inr (Or.inr (Or.inr (Or.inr (Or.inr (Or.inr (Or.inr (Or.inr h10)))))))))))))))) (fun g10 => (Or.elim g10 (fun h11 => (Or.inr (Or.inr (Or.inr (Or.inr (Or.inr (Or.inr (Or.inl h11)))))))) (fun g11 => (Or.elim g11 (fun h12 => (Or.inr (Or.inr (Or.inr (Or.inr (Or.inr (Or.inr (Or.inr (Or.inl h12))))))))) (fun g12 => (Or.elim g12 (fun h13 => (Or.inr (Or.inr (Or.inr (Or.inr (Or.inr (Or.inr (Or.inr (Or.inr (Or.inl h13)))))))))) (fun g13 => (Or.elim g13 (fun h14 => (Or.inr (Or.inr (Or.inr (Or.inr (Or.inr (Or.inr (Or.inr (Or.inr (Or.inr (Or.inl h14))))))))))) (fun g14 => (Or.inr (Or.inr (Or.inr (Or.inr (Or.inr (Or.inr (Or.inr (Or.inr (Or.inr (Or.inr (Or.inl g14)))))))))))))))))))))))))))))))))))))))))))
  obtain ⟨r2, h_r2, h⟩ := Option.bind_eq_some_iff.mp h
  obtain rfl := Option.some.inj h
  exact z1
set_option maxRecDepth 20000 in
theorem ZX11_ways {a : Nat} {x0 : Int32} {m : mB} {r : (Int32 × mB)} (h : FX11_ways a x0 m = some r) : mx_out (WSX11_ways a) m r.2 := by
  unfold FX11_ways at h
  have z0 : mx_out (WSX11_ways a) m m := mx_out.rf
  obtain ⟨r1, h_r1, h⟩ := Option.bind_eq_some_iff.mp h
  have z1 : mx_out (WSX11_ways a) m r1 := mx_out.tr z0 (mx_out.sub (ZX2_lookAt h_r1) (fun b j hb => (Or.elim hb (fun h0 => (Or.inl h0)) (fun g0 => (Or.elim g0 (fun h1 => (Or.inr (Or.inl h1))) (fun g1 => (Or.elim g1 (fun h2 => (Or.inr (Or.inr (Or.inl h2)))) (fun g2 => (Or.elim g2 (fun h3 => (Or.inr (Or.inr (Or.inr (Or.inl h3))))) (fun g3 => (Or.elim g3 (fun h4 => (Or.inr (Or.inr (Or.inr (Or.inr (Or.inl h4)))))) (fun g4 => (Or.elim g4 (fun h5 => (Or.inr (Or.inr (Or.inr (Or.inr (Or.inr (Or.inl h5))))))) (fun g5 => (Or.elim g5 (fun h6 => (Or.inr (Or.inr (Or.inr (Or.inr (Or.inr (Or.inr (Or.inr (Or.inr (Or.inr (Or.inr (Or.inr (Or.inl h6))))))))))))) (fun g6 => (Or.elim g6 (fun h7 => (Or.inr (Or.inr (Or.inr (Or.inr (Or.inr (Or.inr (Or.inr (Or.inr (Or.inr (Or.inr (Or.inr (Or.inr (Or.inl h7)))))))))))))) (fun g7 => (Or.elim g7 (fun h8 => (Or.inr (Or.inr (Or.inr (Or.inr (Or.inr (Or.inr (Or.inr (Or.inr (Or.inr (Or.inr (Or.inr (Or.inr (Or.inr (Or.inl h8))))))))))))))) (fun g8 => (Or.elim g8 (fun h9 => (Or.inr (Or.inr (Or.inr (Or.inr (Or.inr (Or.inr (Or.inr (Or.inr (Or.inr (Or.inr (Or.inr (Or.inr (Or.inr (Or.inr (Or.inl h9)))))))))))))))) (fun g9 => (Or.elim g9 (fun h10 => (Or.inr (Or.inr (Or.inr (Or.inr (Or.inr (Or.inr (Or.inr (Or.inr (Or.inr (Or.inr (Or.inr (Or.inr (Or.inr (Or.inr (Or.inr h10)))))))))))))))) (fun g10 => (Or.elim g10 (fun h11 => (Or.inr (Or.inr (Or.inr (Or.inr (Or.inr (Or.inr (Or.inl h11)))))))) (fun g11 => (Or.elim g11 (fun h12 => (Or.inr (Or.inr (Or.inr (Or.inr (Or.inr (Or.inr (Or.inr (Or.inl h12))))))))) (fun g12 => (Or.elim g12 (fun h13 => (Or.inr (Or.inr (Or.inr (Or.inr (Or.inr (Or.inr (Or.inr (Or.inr (Or.inl h13)))))))))) (fun g13 => (Or.elim g13 (fun h14 => (Or.inr (Or.inr (Or.inr (Or.inr (Or.inr (Or.inr (Or.inr (Or.inr (Or.inr (Or.inl h14))))))))))) (fun g14 => (Or.inr (Or.inr (Or.inr (Or.inr (Or.inr (Or.inr (Or.inr (Or.inr (Or.inr (Or.inr (Or.inl g14)))))))))))))))))))))))))))))))))))))))))))
  obtain ⟨r2, h_r2, h⟩ := Option.bind_eq_some_iff.mp h
  obtain rfl := Option.some.inj h
  exact z1
set_option maxRecDepth 20000 in
theorem ZX11_gain {a : Nat} {m : mB} {r : (Int32 × mB)} (h : FX11_gain a m = some r) : mx_out (WSX11_gain a) m r.2 := by
  unfold FX11_gain at h
  have z0 : mx_out (WSX11_gain a) m m := mx_out.rf
  obtain ⟨r1, h_r1, h⟩ := Option.bind_eq_some_iff.mp h
  have z1 : mx_out (WSX11_gain a) m r1.2 := mx_out.tr z0 (mx_out.sub (ZX9_greatestGain h_r1) (fun b j hb => hb))
  obtain rfl := Option.some.inj h
  exact z1
set_option maxRecDepth 20000 in
theorem ZX11_who_L29 {q0 : Nat} : ∀ (f : Nat) {y2 : Int32} {m : mB} {q : (mB)}, FX11_who_L29 q0 f y2 m = some q → mx_out (WSX11_who_L29 q0) m q := by
  intro f
  induction f with
  | zero => intro _ _ _ h; cases h
  | succ f ih =>
    intro y2 m q h
    rw [FX11_who_L29] at h
    have z0 : mx_out (WSX11_who_L29 q0) m m := mx_out.rf
    obtain ⟨r12, h_r12, h⟩ := Option.bind_eq_some_iff.mp h
    by_cases hc13z : r12 ≤ (y2 + 1)
    · rw [if_pos hc13z] at h
      obtain rfl := Option.some.inj h
      exact z0
    · rw [if_neg hc13z] at h
      obtain ⟨r14, h_r14, h⟩ := Option.bind_eq_some_iff.mp h
      obtain ⟨r15, h_r15, h⟩ := Option.bind_eq_some_iff.mp h
      obtain ⟨r16, h_r16, h⟩ := Option.bind_eq_some_iff.mp h
      have z1 : mx_out (WSX11_who_L29 q0) m r16 := mx_out.tr z0 (mx_out.sub (ZX2_want h_r16) (fun b j hb => (Or.elim hb (fun h0 => (Or.inl h0)) (fun g0 => (Or.inr g0)))))
      obtain ⟨v17, -, h⟩ := mx_letE h
      exact mx_out.tr z1 (ih h)
set_option maxRecDepth 20000 in
theorem ZX11_who {a : Nat} {m : mB} {r : (Int32 × mB)} (h : FX11_who a m = some r) : mx_out (WSX11_who a) m r.2 := by
  unfold FX11_who at h
  have z0 : mx_out (WSX11_who a) m m := mx_out.rf
  obtain ⟨r1, h_r1, h⟩ := Option.bind_eq_some_iff.mp h
  refine mx_letK (J := fun k5 => ∀ {y3 : Int32} {m4 : mB}, k5 y3 m4 = some r → mx_out (WSX11_who a) m m4 → mx_out (WSX11_who a) m r.2) h ?_ (fun k5 z_k5 h => ?_)
  · intro y3 m4 h z2
    dsimp only at h
    obtain ⟨r6, h_r6, h⟩ := Option.bind_eq_some_iff.mp h
    have z3 : mx_out (WSX11_who a) m r6 := mx_out.tr z2 (mx_out.sub (ZX10_cut h_r6) (fun b j hb => (Or.inr (Or.inl hb))))
    by_cases hc7z : y3 ≤ 0
    · rw [if_pos hc7z] at h
      obtain rfl := Option.some.inj h
      exact z3
    · rw [if_neg hc7z] at h
      obtain ⟨r8, h_r8, h⟩ := Option.bind_eq_some_iff.mp h
      obtain ⟨m9, e_m9, h⟩ := mx_letE h
      have z4 : mx_out (WSX11_who a) m m9 := by first | exact mx_out_up z3 e_m9 (Or.inl ⟨rfl, rfl⟩) | exact mx_out_ul z3 e_m9 (Or.inl ⟨rfl, rfl⟩) | exact mx_out_cp z3 e_m9 (fun j => (Or.inl ⟨rfl, rfl⟩)) | exact mx_out_cl z3 e_m9 (fun j => (Or.inl ⟨rfl, rfl⟩))
      obtain rfl := Option.some.inj h
      exact z4
  by_cases hc2z : r1 = 0
  · rw [if_pos hc2z] at h
    exact z_k5 h z0
  · rw [if_neg hc2z] at h
    obtain ⟨r10, h_r10, h⟩ := Option.bind_eq_some_iff.mp h
    have z5 : mx_out (WSX11_who a) m r10 := mx_out.tr z0 (mx_out.sub (ZX2_lookAt h_r10) (fun b j hb => (Or.elim hb (fun h0 => (Or.inr (Or.inr (Or.inl h0)))) (fun g0 => (Or.elim g0 (fun h1 => (Or.inr (Or.inr (Or.inr (Or.inr (Or.inr (Or.inl h1))))))) (fun g1 => (Or.elim g1 (fun h2 => (Or.inr (Or.inr (Or.inr (Or.inr (Or.inr (Or.inr (Or.inl h2)))))))) (fun g2 => (Or.elim g2 (fun h3 => (Or.inr (Or.inr (Or.inr (Or.inr (Or.inr (Or.inr (Or.inr (Or.inl h3))))))))) (fun g3 => (Or.elim g3 (fun h4 => (Or.inr (Or.inr (Or.inr (Or.inr (Or.inr (Or.inr (Or.inr (Or.inr (Or.inl h4)))))))))) (fun g4 => (Or.elim g4 (fun h5 => (Or.inr (Or.inr (Or.inr (Or.inr (Or.inr (Or.inr (Or.inr (Or.inr (Or.inr (Or.inl h5))))))))))) (fun g5 => (Or.elim g5 (fun h6 => (Or.inr (Or.inr (Or.inr (Or.inr (Or.inr (Or.inr (Or.inr (Or.inr (Or.inr (Or.inr (Or.inr (Or.inr (Or.inr (Or.inr (Or.inr (Or.inl h6))))))))))))))))) (fun g6 => (Or.elim g6 (fun h7 => (Or.inr (Or.inr (Or.inr (Or.inr (Or.inr (Or.inr (Or.inr (Or.inr (Or.inr (Or.inr (Or.inr (Or.inr (Or.inr (Or.inr (Or.inr (Or.inr (Or.inl h7)))))))))))))))))) (fun g7 => (Or.elim g7 (fun h8 => (Or.inr (Or.inr (Or.inr (Or.inr (Or.inr (Or.inr (Or.inr (Or.inr (Or.inr (Or.inr (Or.inr (Or.inr (Or.inr (Or.inr (Or.inr (Or.inr (Or.inr (Or.inl h8))))))))))))))))))) (fun g8 => (Or.elim g8 (fun h9 => (Or.inr (Or.inr (Or.inr (Or.inr (Or.inr (Or.inr (Or.inr (Or.inr (Or.inr (Or.inr (Or.inr (Or.inr (Or.inr (Or.inr (Or.inr (Or.inr (Or.inr (Or.inr (Or.inl h9)))))))))))))))))))) (fun g9 => (Or.elim g9 (fun h10 => (Or.inr (Or.inr (Or.inr (Or.inr (Or.inr (Or.inr (Or.inr (Or.inr (Or.inr (Or.inr (Or.inr (Or.inr (Or.inr (Or.inr (Or.inr (Or.inr (Or.inr (Or.inr (Or.inr (Or.inl h10))))))))))))))))))))) (fun g10 => (Or.elim g10 (fun h11 => (Or.inr (Or.inr (Or.inr (Or.inr (Or.inr (Or.inr (Or.inr (Or.inr (Or.inr (Or.inr (Or.inl h11)))))))))))) (fun g11 => (Or.elim g11 (fun h12 => (Or.inr (Or.inr (Or.inr (Or.inr (Or.inr (Or.inr (Or.inr (Or.inr (Or.inr (Or.inr (Or.inr (Or.inl h12))))))))))))) (fun g12 => (Or.elim g12 (fun h13 => (Or.inr (Or.inr (Or.inr (Or.inr (Or.inr (Or.inr (Or.inr (Or.inr (Or.inr (Or.inr (Or.inr (Or.inr (Or.inl h13)))))))))))))) (fun g13 => (Or.elim g13 (fun h14 => (Or.inr (Or.inr (Or.inr (Or.inr (Or.inr (Or.inr (Or.inr (Or.inr (Or.inr (Or.inr (Or.inr (Or.inr (Or.inr (Or.inl h14))))))))))))))) (fun g14 => (Or.inr (Or.inr (Or.inr (Or.inr (Or.inr (Or.inr (Or.inr (Or.inr (Or.inr (Or.inr (Or.inr (Or.inr (Or.inr (Or.inr (Or.inl g14)))))))))))))))))))))))))))))))))))))))))))))))
    obtain ⟨r11, h_r11, h⟩ := Option.bind_eq_some_iff.mp h
    have z6 : mx_out (WSX11_who a) m r11 := mx_out.tr z5 (mx_out.sub (ZX2_wantNothing h_r11) (fun b j hb => (Or.elim hb (fun h0 => (Or.inr (Or.inr (Or.inr (Or.inl h0))))) (fun g0 => (Or.inr (Or.inr (Or.inr (Or.inr (Or.inr (Or.inr (Or.inr (Or.inr (Or.inr (Or.inr (Or.inr (Or.inr (Or.inr (Or.inr (Or.inr (Or.inr (Or.inr (Or.inr (Or.inr (Or.inr (Or.inl g0)))))))))))))))))))))))))
    obtain ⟨q18, h_q18, h⟩ := Option.bind_eq_some_iff.mp h
    have z7 := mx_out.tr z6 (mx_out.sub (S := (WSX11_who a)) (ZX11_who_L29 mx_FU h_q18) (fun b j hb => (Or.elim hb (fun h0 => (Or.inr (Or.inr (Or.inr (Or.inl h0))))) (fun g0 => (Or.inr (Or.inr (Or.inr (Or.inr (Or.inr (Or.inr (Or.inr (Or.inr (Or.inr (Or.inr (Or.inr (Or.inr (Or.inr (Or.inr (Or.inr (Or.inr (Or.inr (Or.inr (Or.inr (Or.inr (Or.inl g0)))))))))))))))))))))))))
    obtain ⟨r19, h_r19, h⟩ := Option.bind_eq_some_iff.mp h
    have z8 : mx_out (WSX11_who a) m r19.2 := mx_out.tr z7 (mx_out.sub (ZX2_countWanted h_r19) (fun b j hb => (Or.elim hb (fun h0 => (Or.inr (Or.inr (Or.inr (Or.inr (Or.inl h0)))))) (fun g0 => (Or.elim g0 (fun h1 => (Or.inr (Or.inr (Or.inr (Or.inr (Or.inr (Or.inr (Or.inr (Or.inr (Or.inr (Or.inr (Or.inr (Or.inr (Or.inr (Or.inr (Or.inr (Or.inr (Or.inr (Or.inr (Or.inr (Or.inr (Or.inr (Or.inl h1))))))))))))))))))))))) (fun g1 => (Or.inr (Or.inr (Or.inr (Or.inr (Or.inr (Or.inr (Or.inr (Or.inr (Or.inr (Or.inr (Or.inr (Or.inr (Or.inr (Or.inr (Or.inr (Or.inr (Or.inr (Or.inr (Or.inr (Or.inr (Or.inr (Or.inr g1))))))))))))))))))))))))))))
    exact z_k5 h z8
set_option maxRecDepth 20000 in
theorem ZX11_drawn {a : Nat} {x0 : Int32} {x1 : Int32} {m : mB} {r : (Int32 × mB)} (h : FX11_drawn a x0 x1 m = some r) : mx_out (WSX11_drawn a) m r.2 := by
  unfold FX11_drawn at h
  have z0 : mx_out (WSX11_drawn a) m m := mx_out.rf
  by_cases hc1z : x0 < 1
  · rw [if_pos hc1z] at h
    obtain rfl := Option.some.inj h
    exact z0
  · rw [if_neg hc1z] at h
    by_cases hc2z : x0 ≤ 60
    · rw [if_pos hc2z] at h
      obtain ⟨r3, h_r3, h⟩ := Option.bind_eq_some_iff.mp h
      have z1 : mx_out (WSX11_drawn a) m r3 := mx_out.tr z0 (mx_out.sub (ZX3_mark h_r3) (fun b j hb => (Or.inl hb)))
      obtain ⟨r4, h_r4, h⟩ := Option.bind_eq_some_iff.mp h
      have z2 : mx_out (WSX11_drawn a) m r4.2 := mx_out.tr z1 (mx_out.sub (ZX1_run h_r4) (fun b j hb => (Or.elim hb (fun h0 => (Or.inr (Or.inr (Or.inr (Or.inl h0))))) (fun g0 => (Or.elim g0 (fun h1 => (Or.inr (Or.inr (Or.inr (Or.inr (Or.inr (Or.inl h1))))))) (fun g1 => (Or.elim g1 (fun h2 => (Or.inr (Or.inr (Or.inl h2)))) (fun g2 => (Or.elim g2 (fun h3 => (Or.inr (Or.inr (Or.inr (Or.inr (Or.inr (Or.inr (Or.inr (Or.inr (Or.inr (Or.inl h3))))))))))) (fun g3 => (Or.elim g3 (fun h4 => (Or.inr (Or.inr (Or.inr (Or.inr (Or.inr (Or.inr (Or.inr (Or.inr (Or.inr (Or.inr h4))))))))))) (fun g4 => (Or.elim g4 (fun h5 => (Or.inr (Or.inl h5))) (fun g5 => (Or.elim g5 (fun h6 => (Or.inr (Or.inr (Or.inr (Or.inr (Or.inl h6)))))) (fun g6 => (Or.inr (Or.inr (Or.inr (Or.inr (Or.inr (Or.inr (Or.inl g6)))))))))))))))))))))))
      by_cases hc5z : r4.1 ≤ 0
      · rw [if_pos hc5z] at h
        obtain rfl := Option.some.inj h
        exact z2
      · rw [if_neg hc5z] at h
        obtain ⟨r6, h_r6, h⟩ := Option.bind_eq_some_iff.mp h
        have z3 : mx_out (WSX11_drawn a) m r6 := mx_out.tr z2 (mx_out.sub (ZX3_keep h_r6) (fun b j hb => (Or.elim hb (fun h0 => (Or.inr (Or.inr (Or.inr (Or.inr (Or.inr (Or.inr (Or.inr (Or.inl h0))))))))) (fun g0 => (Or.inr (Or.inr (Or.inr (Or.inr (Or.inr (Or.inr (Or.inr (Or.inr (Or.inl g0)))))))))))))
        obtain rfl := Option.some.inj h
        exact z3
    · rw [if_neg hc2z] at h
      obtain rfl := Option.some.inj h
      exact z0
set_option maxRecDepth 20000 in
theorem ZX11_odds_L30 {q0 : Nat} {y1 : Int32} {y2 : Int32} {y3 : Int32} : ∀ (f : Nat) {y4 : Int32} {y5 : Int32} {m : mB} {q : (Int32 × mB)}, FX11_odds_L30 q0 y1 y2 y3 f y4 y5 m = some q → mx_out (WSX11_odds_L30 q0) m q.2 := by
  intro f
  induction f with
  | zero => intro _ _ _ _ h; cases h
  | succ f ih =>
    intro y4 y5 m q h
    rw [FX11_odds_L30] at h
    have z0 : mx_out (WSX11_odds_L30 q0) m m := mx_out.rf
    by_cases hc5z : y2 ≤ y5
    · rw [if_pos hc5z] at h
      obtain rfl := Option.some.inj h
      exact z0
    · rw [if_neg hc5z] at h
      obtain ⟨r6, h_r6, h⟩ := Option.bind_eq_some_iff.mp h
      have z1 : mx_out (WSX11_odds_L30 q0) m r6 := mx_out.tr z0 (mx_out.sub (ZX4_copyFrom h_r6) (fun b j hb => (Or.elim hb (fun h0 => (Or.inl h0)) (fun g0 => (Or.elim g0 (fun h1 => (Or.inr (Or.inl h1))) (fun g1 => (Or.elim g1 (fun h2 => (Or.inr (Or.inr (Or.inl h2)))) (fun g2 => (Or.elim g2 (fun h3 => (Or.inr (Or.inr (Or.inr (Or.inl h3))))) (fun g3 => (Or.elim g3 (fun h4 => (Or.inr (Or.inr (Or.inr (Or.inr (Or.inl h4)))))) (fun g4 => (Or.elim g4 (fun h5 => (Or.inr (Or.inr (Or.inr (Or.inr (Or.inr (Or.inl h5))))))) (fun g5 => (Or.elim g5 (fun h6 => (Or.inr (Or.inr (Or.inr (Or.inr (Or.inr (Or.inr (Or.inr (Or.inr (Or.inr (Or.inr (Or.inr (Or.inr (Or.inr (Or.inr (Or.inr (Or.inl h6))))))))))))))))) (fun g6 => (Or.elim g6 (fun h7 => (Or.inr (Or.inr (Or.inr (Or.inr (Or.inr (Or.inr (Or.inl h7)))))))) (fun g7 => (Or.elim g7 (fun h8 => (Or.inr (Or.inr (Or.inr (Or.inr (Or.inr (Or.inr (Or.inr (Or.inl h8))))))))) (fun g8 => (Or.elim g8 (fun h9 => (Or.inr (Or.inr (Or.inr (Or.inr (Or.inr (Or.inr (Or.inr (Or.inr (Or.inr (Or.inl h9))))))))))) (fun g9 => (Or.elim g9 (fun h10 => (Or.inr (Or.inr (Or.inr (Or.inr (Or.inr (Or.inr (Or.inr (Or.inr (Or.inr (Or.inr (Or.inl h10)))))))))))) (fun g10 => (Or.elim g10 (fun h11 => (Or.inr (Or.inr (Or.inr (Or.inr (Or.inr (Or.inr (Or.inr (Or.inr (Or.inr (Or.inr (Or.inr (Or.inl h11))))))))))))) (fun g11 => (Or.elim g11 (fun h12 => (Or.inr (Or.inr (Or.inr (Or.inr (Or.inr (Or.inr (Or.inr (Or.inr (Or.inr (Or.inr (Or.inr (Or.inr (Or.inl h12)))))))))))))) (fun g12 => (Or.elim g12 (fun h13 => (Or.inr (Or.inr (Or.inr (Or.inr (Or.inr (Or.inr (Or.inr (Or.inr (Or.inr (Or.inr (Or.inr (Or.inr (Or.inr (Or.inl h13))))))))))))))) (fun g13 => (Or.inr (Or.inr (Or.inr (Or.inr (Or.inr (Or.inr (Or.inr (Or.inr (Or.inr (Or.inr (Or.inr (Or.inr (Or.inr (Or.inr (Or.inl g13)))))))))))))))))))))))))))))))))))))))))))))
      obtain ⟨r7, h_r7, h⟩ := Option.bind_eq_some_iff.mp h
      have z2 : mx_out (WSX11_odds_L30 q0) m r7.2 := mx_out.tr z1 (mx_out.sub (ZX1_run h_r7) (fun b j hb => (Or.elim hb (fun h0 => (Or.inr (Or.inr (Or.inr (Or.inr (Or.inr (Or.inr (Or.inr (Or.inr (Or.inl h0)))))))))) (fun g0 => (Or.elim g0 (fun h1 => (Or.inr (Or.inr (Or.inr (Or.inl h1))))) (fun g1 => (Or.elim g1 (fun h2 => (Or.inr (Or.inr (Or.inr (Or.inr (Or.inr (Or.inr (Or.inr (Or.inr (Or.inr (Or.inr (Or.inr (Or.inr (Or.inr (Or.inr (Or.inr (Or.inl h2))))))))))))))))) (fun g2 => (Or.elim g2 (fun h3 => (Or.inr (Or.inr (Or.inr (Or.inr (Or.inr (Or.inr (Or.inr (Or.inl h3))))))))) (fun g3 => (Or.elim g3 (fun h4 => (Or.inr (Or.inr (Or.inr (Or.inr (Or.inr (Or.inr (Or.inr (Or.inr (Or.inr (Or.inl h4))))))))))) (fun g4 => (Or.elim g4 (fun h5 => (Or.inr (Or.inr (Or.inr (Or.inr (Or.inr (Or.inr (Or.inr (Or.inr (Or.inr (Or.inr (Or.inr (Or.inr (Or.inl h5)))))))))))))) (fun g5 => (Or.elim g5 (fun h6 => (Or.inr (Or.inr (Or.inr (Or.inr (Or.inr (Or.inr (Or.inr (Or.inr (Or.inr (Or.inr (Or.inr (Or.inr (Or.inr (Or.inr (Or.inr (Or.inr (Or.inl h6)))))))))))))))))) (fun g6 => (Or.inr (Or.inr (Or.inr (Or.inr (Or.inr (Or.inr (Or.inr (Or.inr (Or.inr (Or.inr (Or.inr (Or.inr (Or.inr (Or.inr (Or.inr (Or.inr (Or.inr g6)))))))))))))))))))))))))))))))))
      obtain ⟨r8, h_r8, h⟩ := Option.bind_eq_some_iff.mp h
      by_cases hc9z : r8 = 0
      · rw [if_pos hc9z] at h
        obtain ⟨v11, -, h⟩ := mx_letE h
        obtain ⟨v12, -, h⟩ := mx_letE h
        exact mx_out.tr z2 (ih h)
      · rw [if_neg hc9z] at h
        obtain ⟨v10, -, h⟩ := mx_letE h
        exact mx_out.tr z2 (ih h)
set_option maxRecDepth 20000 in
theorem ZX11_odds {a : Nat} {x0 : Int32} {x1 : Int32} {x2 : Int32} {m : mB} {r : (Int32 × mB)} (h : FX11_odds a x0 x1 x2 m = some r) : mx_out (WSX11_odds a) m r.2 := by
  unfold FX11_odds at h
  have z0 : mx_out (WSX11_odds a) m m := mx_out.rf
  obtain ⟨r1, h_r1, h⟩ := Option.bind_eq_some_iff.mp h
  by_cases hc2z : r1 = 0
  · rw [if_pos hc2z] at h
    obtain rfl := Option.some.inj h
    exact z0
  · rw [if_neg hc2z] at h
    by_cases hc3z : x1 < 1
    · rw [if_pos hc3z] at h
      obtain rfl := Option.some.inj h
      exact z0
    · rw [if_neg hc3z] at h
      by_cases hc4z : x1 ≤ 20
      · rw [if_pos hc4z] at h
        obtain ⟨q13, h_q13, h⟩ := Option.bind_eq_some_iff.mp h
        have z3 := mx_out.tr z0 (mx_out.sub (S := (WSX11_odds a)) (ZX11_odds_L30 mx_FU h_q13) (fun b j hb => (Or.elim hb (fun h0 => (Or.inl h0)) (fun g0 => (Or.elim g0 (fun h1 => (Or.inr (Or.inl h1))) (fun g1 => (Or.elim g1 (fun h2 => (Or.inr (Or.inr (Or.inl h2)))) (fun g2 => (Or.elim g2 (fun h3 => (Or.inr (Or.inr (Or.inr (Or.inl h3))))) (fun g3 => (Or.elim g3 (fun h4 => (Or.inr (Or.inr (Or.inr (Or.inr (Or.inl h4)))))) (fun g4 => (Or.elim g4 (fun h5 => (Or.inr (Or.inr (Or.inr (Or.inr (Or.inr (Or.inl h5))))))) (fun g5 => (Or.elim g5 (fun h6 => (Or.inr (Or.inr (Or.inr (Or.inr (Or.inr (Or.inr (Or.inl h6)))))))) (fun g6 => (Or.elim g6 (fun h7 => (Or.inr (Or.inr (Or.inr (Or.inr (Or.inr (Or.inr (Or.inr (Or.inl h7))))))))) (fun g7 => (Or.elim g7 (fun h8 => (Or.inr (Or.inr (Or.inr (Or.inr (Or.inr (Or.inr (Or.inr (Or.inr (Or.inl h8)))))))))) (fun g8 => (Or.elim g8 (fun h9 => (Or.inr (Or.inr (Or.inr (Or.inr (Or.inr (Or.inr (Or.inr (Or.inr (Or.inr (Or.inl h9))))))))))) (fun g9 => (Or.elim g9 (fun h10 => (Or.inr (Or.inr (Or.inr (Or.inr (Or.inr (Or.inr (Or.inr (Or.inr (Or.inr (Or.inr (Or.inl h10)))))))))))) (fun g10 => (Or.elim g10 (fun h11 => (Or.inr (Or.inr (Or.inr (Or.inr (Or.inr (Or.inr (Or.inr (Or.inr (Or.inr (Or.inr (Or.inr (Or.inl h11))))))))))))) (fun g11 => (Or.elim g11 (fun h12 => (Or.inr (Or.inr (Or.inr (Or.inr (Or.inr (Or.inr (Or.inr (Or.inr (Or.inr (Or.inr (Or.inr (Or.inr (Or.inl h12)))))))))))))) (fun g12 => (Or.elim g12 (fun h13 => (Or.inr (Or.inr (Or.inr (Or.inr (Or.inr (Or.inr (Or.inr (Or.inr (Or.inr (Or.inr (Or.inr (Or.inr (Or.inr (Or.inl h13))))))))))))))) (fun g13 => (Or.elim g13 (fun h14 => (Or.inr (Or.inr (Or.inr (Or.inr (Or.inr (Or.inr (Or.inr (Or.inr (Or.inr (Or.inr (Or.inr (Or.inr (Or.inr (Or.inr (Or.inl h14)))))))))))))))) (fun g14 => (Or.elim g14 (fun h15 => (Or.inr (Or.inr (Or.inr (Or.inr (Or.inr (Or.inr (Or.inr (Or.inr (Or.inr (Or.inr (Or.inr (Or.inr (Or.inr (Or.inr (Or.inr (Or.inl h15))))))))))))))))) (fun g15 => (Or.elim g15 (fun h16 => (Or.inr (Or.inr (Or.inr (Or.inr (Or.inr (Or.inr (Or.inr (Or.inr (Or.inr (Or.inr (Or.inr (Or.inr (Or.inr (Or.inr (Or.inr (Or.inr (Or.inl h16)))))))))))))))))) (fun g16 => (Or.inr (Or.inr (Or.inr (Or.inr (Or.inr (Or.inr (Or.inr (Or.inr (Or.inr (Or.inr (Or.inr (Or.inr (Or.inr (Or.inr (Or.inr (Or.inr (Or.inr g16)))))))))))))))))))))))))))))))))))))))))))))))))))))
        obtain rfl := Option.some.inj h
        exact z3
      · rw [if_neg hc4z] at h
        obtain rfl := Option.some.inj h
        exact z0
set_option maxRecDepth 20000 in
theorem ZX11_book {a : Nat} {x0 : Int32} {m : mB} {r : (Int32 × mB)} (h : FX11_book a x0 m = some r) : mx_out (WSX11_book a) m r.2 := by
  unfold FX11_book at h
  have z0 : mx_out (WSX11_book a) m m := mx_out.rf
  refine mx_letK (J := fun k2 => k2 = some r → mx_out (WSX11_book a) m r.2) h ?_ (fun k2 z_k2 h => ?_)
  · intro h
    obtain ⟨r3, h_r3, h⟩ := Option.bind_eq_some_iff.mp h
    have z2 : mx_out (WSX11_book a) m r3.2 := mx_out.tr z0 (mx_out.sub (ZX0_read h_r3) (fun b j hb => (Or.elim hb (fun h0 => (Or.inr (Or.inr (Or.inr (Or.inr (Or.inr (Or.inr (Or.inr (Or.inr (Or.inr (Or.inr (Or.inr (Or.inr (Or.inr (Or.inr (Or.inr (Or.inr (Or.inr (Or.inr (Or.inr (Or.inr (Or.inl h0)))))))))))))))))))))) (fun g0 => (Or.elim g0 (fun h1 => (Or.inr (Or.inr (Or.inr (Or.inr (Or.inr (Or.inr (Or.inr (Or.inr (Or.inr (Or.inr (Or.inr (Or.inr (Or.inr (Or.inr (Or.inr (Or.inr (Or.inr (Or.inr (Or.inr (Or.inr (Or.inr (Or.inr (Or.inr (Or.inr (Or.inr (Or.inr (Or.inr (Or.inl h1))))))))))))))))))))))))))))) (fun g1 => (Or.elim g1 (fun h2 => (Or.inr (Or.inr (Or.inr (Or.inr (Or.inr (Or.inr (Or.inr (Or.inr (Or.inr (Or.inr (Or.inr (Or.inr (Or.inr (Or.inr (Or.inr (Or.inr (Or.inr (Or.inr (Or.inr (Or.inr (Or.inr (Or.inr (Or.inr (Or.inr (Or.inr (Or.inr (Or.inr (Or.inr (Or.inl h2)))))))))))))))))))))))))))))) (fun g2 => (Or.elim g2 (fun h3 => (Or.inr (Or.inr (Or.inr (Or.inr (Or.inr (Or.inr (Or.inr (Or.inr (Or.inr (Or.inr (Or.inr (Or.inr (Or.inr (Or.inr (Or.inr (Or.inr (Or.inr (Or.inr (Or.inr (Or.inr (Or.inr (Or.inr (Or.inr (Or.inr (Or.inr (Or.inr (Or.inr (Or.inr (Or.inr (Or.inl h3))))))))))))))))))))))))))))))) (fun g3 => (Or.elim g3 (fun h4 => (Or.inr (Or.inr (Or.inr (Or.inr (Or.inr (Or.inr (Or.inr (Or.inr (Or.inr (Or.inr (Or.inr (Or.inr (Or.inr (Or.inr (Or.inr (Or.inr (Or.inr (Or.inr (Or.inr (Or.inr (Or.inr (Or.inr (Or.inr (Or.inr (Or.inr (Or.inr (Or.inr (Or.inr (Or.inr (Or.inr (Or.inl h4)))))))))))))))))))))))))))))))) (fun g4 => (Or.elim g4 (fun h5 => (Or.inr (Or.inl h5))) (fun g5 => (Or.elim g5 (fun h6 => (Or.inr (Or.inr (Or.inl h6)))) (fun g6 => (Or.elim g6 (fun h7 => (Or.inr (Or.inr (Or.inr (Or.inr (Or.inl h7)))))) (fun g7 => (Or.elim g7 (fun h8 => (Or.inr (Or.inr (Or.inr (Or.inr (Or.inr (Or.inl h8))))))) (fun g8 => (Or.elim g8 (fun h9 => (Or.inr (Or.inr (Or.inr (Or.inr (Or.inr (Or.inr (Or.inl h9)))))))) (fun g9 => (Or.elim g9 (fun h10 => (Or.inr (Or.inr (Or.inr (Or.inr (Or.inr (Or.inr (Or.inr (Or.inl h10))))))))) (fun g10 => (Or.elim g10 (fun h11 => (Or.inr (Or.inr (Or.inr (Or.inr (Or.inr (Or.inr (Or.inr (Or.inr (Or.inl h11)))))))))) (fun g11 => (Or.elim g11 (fun h12 => (Or.inr (Or.inr (Or.inr (Or.inr (Or.inr (Or.inr (Or.inr (Or.inr (Or.inr (Or.inl h12))))))))))) (fun g12 => (Or.inr (Or.inr (Or.inr (Or.inr (Or.inr (Or.inr (Or.inr (Or.inr (Or.inr (Or.inr (Or.inl g12)))))))))))))))))))))))))))))))))))))))
    obtain ⟨r4, h_r4, h⟩ := Option.bind_eq_some_iff.mp h
    have z3 : mx_out (WSX11_book a) m r4 := mx_out.tr z2 (mx_out.sub (ZX10_cut h_r4) (fun b j hb => (Or.inr (Or.inr (Or.inr (Or.inl hb))))))
    by_cases hc5z : r3.1 = 0
    · rw [if_pos hc5z] at h
      obtain ⟨r14, h_r14, h⟩ := Option.bind_eq_some_iff.mp h
      obtain rfl := Option.some.inj h
      exact z3
    · rw [if_neg hc5z] at h
      by_cases hc6z : x0 = 0
      · rw [if_pos hc6z] at h
        obtain ⟨r12, h_r12, h⟩ := Option.bind_eq_some_iff.mp h
        have z4 : mx_out (WSX11_book a) m r12 := mx_out.tr z3 (mx_out.sub (ZX4_copyFrom h_r12) (fun b j hb => (Or.elim hb (fun h0 => (Or.inr (Or.inr (Or.inr (Or.inr (Or.inr (Or.inr (Or.inr (Or.inr (Or.inr (Or.inr (Or.inr (Or.inr (Or.inr (Or.inr (Or.inl h0)))))))))))))))) (fun g0 => (Or.elim g0 (fun h1 => (Or.inr (Or.inr (Or.inr (Or.inr (Or.inr (Or.inr (Or.inr (Or.inr (Or.inr (Or.inr (Or.inr (Or.inr (Or.inr (Or.inr (Or.inr (Or.inl h1))))))))))))))))) (fun g1 => (Or.elim g1 (fun h2 => (Or.inr (Or.inr (Or.inr (Or.inr (Or.inr (Or.inr (Or.inr (Or.inr (Or.inr (Or.inr (Or.inr (Or.inr (Or.inr (Or.inr (Or.inr (Or.inr (Or.inl h2)))))))))))))))))) (fun g2 => (Or.elim g2 (fun h3 => (Or.inr (Or.inr (Or.inr (Or.inr (Or.inr (Or.inr (Or.inr (Or.inr (Or.inr (Or.inr (Or.inr (Or.inr (Or.inr (Or.inr (Or.inr (Or.inr (Or.inr (Or.inl h3))))))))))))))))))) (fun g3 => (Or.elim g3 (fun h4 => (Or.inr (Or.inr (Or.inr (Or.inr (Or.inr (Or.inr (Or.inr (Or.inr (Or.inr (Or.inr (Or.inr (Or.inr (Or.inr (Or.inr (Or.inr (Or.inr (Or.inr (Or.inr (Or.inl h4)))))))))))))))))))) (fun g4 => (Or.elim g4 (fun h5 => (Or.inr (Or.inr (Or.inr (Or.inr (Or.inr (Or.inr (Or.inr (Or.inr (Or.inr (Or.inr (Or.inr (Or.inr (Or.inr (Or.inr (Or.inr (Or.inr (Or.inr (Or.inr (Or.inr (Or.inl h5))))))))))))))))))))) (fun g5 => (Or.elim g5 (fun h6 => (Or.inr (Or.inr (Or.inr (Or.inr (Or.inr (Or.inr (Or.inr (Or.inr (Or.inr (Or.inr (Or.inr (Or.inr (Or.inr (Or.inr (Or.inr (Or.inr (Or.inr (Or.inr (Or.inr (Or.inr (Or.inr (Or.inr (Or.inr (Or.inr (Or.inr (Or.inr (Or.inr (Or.inr (Or.inr (Or.inr (Or.inr (Or.inr (Or.inr (Or.inr (Or.inr (Or.inr (Or.inr (Or.inr (Or.inl h6)))))))))))))))))))))))))))))))))))))))) (fun g6 => (Or.elim g6 (fun h7 => (Or.inr (Or.inr (Or.inr (Or.inr (Or.inr (Or.inr (Or.inr (Or.inr (Or.inr (Or.inr (Or.inr (Or.inr (Or.inr (Or.inr (Or.inr (Or.inr (Or.inr (Or.inr (Or.inr (Or.inr (Or.inr (Or.inr (Or.inr (Or.inr (Or.inr (Or.inr (Or.inl h7)))))))))))))))))))))))))))) (fun g7 => (Or.elim g7 (fun h8 => (Or.inr (Or.inr (Or.inr (Or.inr (Or.inr (Or.inr (Or.inr (Or.inr (Or.inr (Or.inr (Or.inr (Or.inr (Or.inr (Or.inr (Or.inr (Or.inr (Or.inr (Or.inr (Or.inr (Or.inr (Or.inr (Or.inr (Or.inr (Or.inr (Or.inr (Or.inr (Or.inr (Or.inr (Or.inr (Or.inr (Or.inr (Or.inl h8))))))))))))))))))))))))))))))))) (fun g8 => (Or.elim g8 (fun h9 => (Or.inr (Or.inr (Or.inr (Or.inr (Or.inr (Or.inr (Or.inr (Or.inr (Or.inr (Or.inr (Or.inr (Or.inr (Or.inr (Or.inr (Or.inr (Or.inr (Or.inr (Or.inr (Or.inr (Or.inr (Or.inr (Or.inr (Or.inr (Or.inr (Or.inr (Or.inr (Or.inr (Or.inr (Or.inr (Or.inr (Or.inr (Or.inr (Or.inl h9)))))))))))))))))))))))))))))))))) (fun g9 => (Or.elim g9 (fun h10 => (Or.inr (Or.inr (Or.inr (Or.inr (Or.inr (Or.inr (Or.inr (Or.inr (Or.inr (Or.inr (Or.inr (Or.inr (Or.inr (Or.inr (Or.inr (Or.inr (Or.inr (Or.inr (Or.inr (Or.inr (Or.inr (Or.inr (Or.inr (Or.inr (Or.inr (Or.inr (Or.inr (Or.inr (Or.inr (Or.inr (Or.inr (Or.inr (Or.inr (Or.inl h10))))))))))))))))))))))))))))))))))) (fun g10 => (Or.elim g10 (fun h11 => (Or.inr (Or.inr (Or.inr (Or.inr (Or.inr (Or.inr (Or.inr (Or.inr (Or.inr (Or.inr (Or.inr (Or.inr (Or.inr (Or.inr (Or.inr (Or.inr (Or.inr (Or.inr (Or.inr (Or.inr (Or.inr (Or.inr (Or.inr (Or.inr (Or.inr (Or.inr (Or.inr (Or.inr (Or.inr (Or.inr (Or.inr (Or.inr (Or.inr (Or.inr (Or.inl h11)))))))))))))))))))))))))))))))))))) (fun g11 => (Or.elim g11 (fun h12 => (Or.inr (Or.inr (Or.inr (Or.inr (Or.inr (Or.inr (Or.inr (Or.inr (Or.inr (Or.inr (Or.inr (Or.inr (Or.inr (Or.inr (Or.inr (Or.inr (Or.inr (Or.inr (Or.inr (Or.inr (Or.inr (Or.inr (Or.inr (Or.inr (Or.inr (Or.inr (Or.inr (Or.inr (Or.inr (Or.inr (Or.inr (Or.inr (Or.inr (Or.inr (Or.inr (Or.inl h12))))))))))))))))))))))))))))))))))))) (fun g12 => (Or.elim g12 (fun h13 => (Or.inr (Or.inr (Or.inr (Or.inr (Or.inr (Or.inr (Or.inr (Or.inr (Or.inr (Or.inr (Or.inr (Or.inr (Or.inr (Or.inr (Or.inr (Or.inr (Or.inr (Or.inr (Or.inr (Or.inr (Or.inr (Or.inr (Or.inr (Or.inr (Or.inr (Or.inr (Or.inr (Or.inr (Or.inr (Or.inr (Or.inr (Or.inr (Or.inr (Or.inr (Or.inr (Or.inr (Or.inl h13)))))))))))))))))))))))))))))))))))))) (fun g13 => (Or.inr (Or.inr (Or.inr (Or.inr (Or.inr (Or.inr (Or.inr (Or.inr (Or.inr (Or.inr (Or.inr (Or.inr (Or.inr (Or.inr (Or.inr (Or.inr (Or.inr (Or.inr (Or.inr (Or.inr (Or.inr (Or.inr (Or.inr (Or.inr (Or.inr (Or.inr (Or.inr (Or.inr (Or.inr (Or.inr (Or.inr (Or.inr (Or.inr (Or.inr (Or.inr (Or.inr (Or.inr (Or.inl g13))))))))))))))))))))))))))))))))))))))))))))))))))))))))))))))))))))
        obtain ⟨r13, h_r13, h⟩ := Option.bind_eq_some_iff.mp h
        have z5 : mx_out (WSX11_book a) m r13.2 := mx_out.tr z4 (mx_out.sub (ZX0_judge h_r13) (fun b j hb => (Or.elim hb (fun h0 => (Or.inr (Or.inr (Or.inr (Or.inr (Or.inr (Or.inr (Or.inr (Or.inr (Or.inr (Or.inr (Or.inr (Or.inr (Or.inr (Or.inr (Or.inr (Or.inr (Or.inr (Or.inr (Or.inr (Or.inr (Or.inr (Or.inl h0))))))))))))))))))))))) (fun g0 => (Or.elim g0 (fun h1 => (Or.inr (Or.inr (Or.inr (Or.inr (Or.inr (Or.inr (Or.inr (Or.inr (Or.inr (Or.inr (Or.inr (Or.inr (Or.inr (Or.inr (Or.inr (Or.inr (Or.inr (Or.inr (Or.inr (Or.inr (Or.inr (Or.inr (Or.inl h1)))))))))))))))))))))))) (fun g1 => (Or.elim g1 (fun h2 => (Or.inr (Or.inr (Or.inr (Or.inr (Or.inr (Or.inr (Or.inr (Or.inr (Or.inr (Or.inr (Or.inr (Or.inr (Or.inr (Or.inr (Or.inr (Or.inr (Or.inr (Or.inr (Or.inr (Or.inr (Or.inr (Or.inr (Or.inr (Or.inl h2))))))))))))))))))))))))) (fun g2 => (Or.elim g2 (fun h3 => (Or.inr (Or.inr (Or.inr (Or.inr (Or.inr (Or.inr (Or.inr (Or.inr (Or.inr (Or.inr (Or.inr (Or.inr (Or.inr (Or.inr (Or.inr (Or.inr (Or.inr (Or.inr (Or.inr (Or.inr (Or.inr (Or.inr (Or.inr (Or.inr (Or.inl h3)))))))))))))))))))))))))) (fun g3 => (Or.elim g3 (fun h4 => (Or.inr (Or.inr (Or.inr (Or.inr (Or.inr (Or.inr (Or.inr (Or.inr (Or.inr (Or.inr (Or.inr (Or.inr (Or.inr (Or.inr (Or.inr (Or.inr (Or.inr (Or.inr (Or.inr (Or.inr (Or.inr (Or.inr (Or.inr (Or.inr (Or.inr (Or.inl h4))))))))))))))))))))))))))) (fun g4 => (Or.elim g4 (fun h5 => (Or.inr (Or.inr (Or.inr (Or.inr (Or.inr (Or.inr (Or.inr (Or.inr (Or.inr (Or.inr (Or.inr (Or.inr (Or.inr (Or.inr (Or.inr (Or.inr (Or.inl h5)))))))))))))))))) (fun g5 => (Or.elim g5 (fun h6 => (Or.inr (Or.inr (Or.inr (Or.inr (Or.inr (Or.inr (Or.inr (Or.inr (Or.inr (Or.inr (Or.inr (Or.inr (Or.inr (Or.inr (Or.inr (Or.inr (Or.inr (Or.inl h6))))))))))))))))))) (fun g6 => (Or.elim g6 (fun h7 => (Or.inr (Or.inr (Or.inr (Or.inr (Or.inr (Or.inr (Or.inr (Or.inr (Or.inr (Or.inr (Or.inr (Or.inr (Or.inr (Or.inr (Or.inr (Or.inr (Or.inr (Or.inr (Or.inr (Or.inr (Or.inr (Or.inr (Or.inr (Or.inr (Or.inr (Or.inr (Or.inr (Or.inr (Or.inr (Or.inr (Or.inr (Or.inr (Or.inr (Or.inr (Or.inr (Or.inr (Or.inr (Or.inr (Or.inl h7)))))))))))))))))))))))))))))))))))))))) (fun g7 => (Or.elim g7 (fun h8 => (Or.inr (Or.inr (Or.inr (Or.inr (Or.inr (Or.inr (Or.inr (Or.inr (Or.inr (Or.inr (Or.inr (Or.inr (Or.inr (Or.inr (Or.inr (Or.inr (Or.inr (Or.inr (Or.inr (Or.inr (Or.inr (Or.inr (Or.inr (Or.inr (Or.inr (Or.inr (Or.inr (Or.inr (Or.inr (Or.inr (Or.inr (Or.inl h8))))))))))))))))))))))))))))))))) (fun g8 => (Or.elim g8 (fun h9 => (Or.inr (Or.inr (Or.inr (Or.inr (Or.inr (Or.inr (Or.inr (Or.inr (Or.inr (Or.inr (Or.inr (Or.inr (Or.inr (Or.inr (Or.inr (Or.inr (Or.inr (Or.inr (Or.inr (Or.inr (Or.inr (Or.inr (Or.inr (Or.inr (Or.inr (Or.inr (Or.inr (Or.inr (Or.inr (Or.inr (Or.inr (Or.inr (Or.inl h9)))))))))))))))))))))))))))))))))) (fun g9 => (Or.elim g9 (fun h10 => (Or.inr (Or.inr (Or.inr (Or.inr (Or.inr (Or.inr (Or.inr (Or.inr (Or.inr (Or.inr (Or.inr (Or.inr (Or.inr (Or.inr (Or.inr (Or.inr (Or.inr (Or.inr (Or.inr (Or.inr (Or.inr (Or.inr (Or.inr (Or.inr (Or.inr (Or.inr (Or.inr (Or.inr (Or.inr (Or.inr (Or.inr (Or.inr (Or.inr (Or.inr (Or.inr (Or.inl h10))))))))))))))))))))))))))))))))))))) (fun g10 => (Or.elim g10 (fun h11 => (Or.inr (Or.inr (Or.inr (Or.inr (Or.inr (Or.inr (Or.inr (Or.inr (Or.inr (Or.inr (Or.inr (Or.inr (Or.inr (Or.inr (Or.inr (Or.inr (Or.inr (Or.inr (Or.inr (Or.inr (Or.inr (Or.inr (Or.inr (Or.inr (Or.inr (Or.inr (Or.inr (Or.inr (Or.inr (Or.inr (Or.inr (Or.inr (Or.inr (Or.inr (Or.inr (Or.inr (Or.inr (Or.inl h11))))))))))))))))))))))))))))))))))))))) (fun g11 => (Or.elim g11 (fun h12 => (Or.inr (Or.inr (Or.inr (Or.inr (Or.inr (Or.inr (Or.inr (Or.inr (Or.inr (Or.inr (Or.inr (Or.inr (Or.inr (Or.inr (Or.inr (Or.inr (Or.inr (Or.inr (Or.inr (Or.inr (Or.inr (Or.inr (Or.inr (Or.inr (Or.inr (Or.inr (Or.inr (Or.inr (Or.inr (Or.inr (Or.inr (Or.inr (Or.inr (Or.inr (Or.inr (Or.inr (Or.inr (Or.inr (Or.inr (Or.inl h12))))))))))))))))))))))))))))))))))))))))) (fun g12 => (Or.inr (Or.inr (Or.inr (Or.inr (Or.inr (Or.inr (Or.inr (Or.inr (Or.inr (Or.inr (Or.inr (Or.inr (Or.inr (Or.inr (Or.inr (Or.inr (Or.inr (Or.inr (Or.inr (Or.inr (Or.inr (Or.inr (Or.inr (Or.inr (Or.inr (Or.inr (Or.inr (Or.inr (Or.inr (Or.inr (Or.inr (Or.inr (Or.inr (Or.inr (Or.inr (Or.inr (Or.inr (Or.inr (Or.inr (Or.inr (Or.inr (Or.inr (Or.inl g12)))))))))))))))))))))))))))))))))))))))))))))))))))))))))))))))))))))))
        obtain rfl := Option.some.inj h
        exact z5
      · rw [if_neg hc6z] at h
        obtain ⟨r7, h_r7, h⟩ := Option.bind_eq_some_iff.mp h
        have z6 : mx_out (WSX11_book a) m r7 := mx_out.tr z3 (mx_out.sub (ZX3_mark h_r7) (fun b j hb => (Or.inl hb)))
        obtain ⟨r8, h_r8, h⟩ := Option.bind_eq_some_iff.mp h
        have z7 : mx_out (WSX11_book a) m r8.2 := mx_out.tr z6 (mx_out.sub (ZX0_judge h_r8) (fun b j hb => (Or.elim hb (fun h0 => (Or.inr (Or.inr (Or.inr (Or.inr (Or.inr (Or.inr (Or.inr (Or.inr (Or.inr (Or.inr (Or.inr (Or.inr (Or.inr (Or.inr (Or.inr (Or.inr (Or.inr (Or.inr (Or.inr (Or.inr (Or.inr (Or.inl h0))))))))))))))))))))))) (fun g0 => (Or.elim g0 (fun h1 => (Or.inr (Or.inr (Or.inr (Or.inr (Or.inr (Or.inr (Or.inr (Or.inr (Or.inr (Or.inr (Or.inr (Or.inr (Or.inr (Or.inr (Or.inr (Or.inr (Or.inr (Or.inr (Or.inr (Or.inr (Or.inr (Or.inr (Or.inl h1)))))))))))))))))))))))) (fun g1 => (Or.elim g1 (fun h2 => (Or.inr (Or.inr (Or.inr (Or.inr (Or.inr (Or.inr (Or.inr (Or.inr (Or.inr (Or.inr (Or.inr (Or.inr (Or.inr (Or.inr (Or.inr (Or.inr (Or.inr (Or.inr (Or.inr (Or.inr (Or.inr (Or.inr (Or.inr (Or.inl h2))))))))))))))))))))))))) (fun g2 => (Or.elim g2 (fun h3 => (Or.inr (Or.inr (Or.inr (Or.inr (Or.inr (Or.inr (Or.inr (Or.inr (Or.inr (Or.inr (Or.inr (Or.inr (Or.inr (Or.inr (Or.inr (Or.inr (Or.inr (Or.inr (Or.inr (Or.inr (Or.inr (Or.inr (Or.inr (Or.inr (Or.inl h3)))))))))))))))))))))))))) (fun g3 => (Or.elim g3 (fun h4 => (Or.inr (Or.inr (Or.inr (Or.inr (Or.inr (Or.inr (Or.inr (Or.inr (Or.inr (Or.inr (Or.inr (Or.inr (Or.inr (Or.inr (Or.inr (Or.inr (Or.inr (Or.inr (Or.inr (Or.inr (Or.inr (Or.inr (Or.inr (Or.inr (Or.inr (Or.inl h4))))))))))))))))))))))))))) (fun g4 => (Or.elim g4 (fun h5 => (Or.inr (Or.inr (Or.inr (Or.inr (Or.inr (Or.inr (Or.inr (Or.inr (Or.inr (Or.inr (Or.inr (Or.inr (Or.inr (Or.inr (Or.inr (Or.inr (Or.inr (Or.inr (Or.inr (Or.inr (Or.inr (Or.inr (Or.inr (Or.inr (Or.inr (Or.inr (Or.inr (Or.inr (Or.inr (Or.inr (Or.inr (Or.inr (Or.inr (Or.inr (Or.inr (Or.inr (Or.inr (Or.inr (Or.inr (Or.inr (Or.inl h5)))))))))))))))))))))))))))))))))))))))))) (fun g5 => (Or.elim g5 (fun h6 => (Or.inr (Or.inr (Or.inr (Or.inr (Or.inr (Or.inr (Or.inr (Or.inr (Or.inr (Or.inr (Or.inr (Or.inr (Or.inr (Or.inr (Or.inr (Or.inr (Or.inr (Or.inr (Or.inr (Or.inr (Or.inr (Or.inr (Or.inr (Or.inr (Or.inr (Or.inr (Or.inr (Or.inr (Or.inr (Or.inr (Or.inr (Or.inr (Or.inr (Or.inr (Or.inr (Or.inr (Or.inr (Or.inr (Or.inr (Or.inr (Or.inr (Or.inl h6))))))))))))))))))))))))))))))))))))))))))) (fun g6 => (Or.elim g6 (fun h7 => (Or.inr (Or.inr (Or.inr (Or.inr (Or.inr (Or.inr (Or.inr (Or.inr (Or.inr (Or.inr (Or.inr (Or.inr (Or.inr (Or.inl h7))))))))))))))) (fun g7 => (Or.elim g7 (fun h8 => (Or.inr (Or.inr (Or.inr (Or.inr (Or.inr (Or.inr (Or.inr (Or.inr (Or.inr (Or.inr (Or.inr (Or.inr (Or.inr (Or.inr (Or.inr (Or.inr (Or.inr (Or.inr (Or.inr (Or.inr (Or.inr (Or.inr (Or.inr (Or.inr (Or.inr (Or.inr (Or.inr (Or.inr (Or.inr (Or.inr (Or.inr (Or.inr (Or.inr (Or.inr (Or.inr (Or.inr (Or.inr (Or.inr (Or.inr (Or.inr (Or.inr (Or.inr (Or.inr (Or.inr (Or.inr (Or.inl h8))))))))))))))))))))))))))))))))))))))))))))))) (fun g8 => (Or.elim g8 (fun h9 => (Or.inr (Or.inr (Or.inr (Or.inr (Or.inr (Or.inr (Or.inr (Or.inr (Or.inr (Or.inr (Or.inr (Or.inr (Or.inr (Or.inr (Or.inr (Or.inr (Or.inr (Or.inr (Or.inr (Or.inr (Or.inr (Or.inr (Or.inr (Or.inr (Or.inr (Or.inr (Or.inr (Or.inr (Or.inr (Or.inr (Or.inr (Or.inr (Or.inr (Or.inr (Or.inr (Or.inr (Or.inr (Or.inr (Or.inr (Or.inr (Or.inr (Or.inr (Or.inr (Or.inr (Or.inr (Or.inr h9))))))))))))))))))))))))))))))))))))))))))))))) (fun g9 => (Or.elim g9 (fun h10 => (Or.inr (Or.inr (Or.inr (Or.inr (Or.inr (Or.inr (Or.inr (Or.inr (Or.inr (Or.inr (Or.inr (Or.inl h10))))))))))))) (fun g10 => (Or.elim g10 (fun h11 => (Or.inr (Or.inr (Or.inr (Or.inr (Or.inr (Or.inr (Or.inr (Or.inr (Or.inr (Or.inr (Or.inr (Or.inr (Or.inl h11)))))))))))))) (fun g11 => (Or.elim g11 (fun h12 => (Or.inr (Or.inr (Or.inr (Or.inr (Or.inr (Or.inr (Or.inr (Or.inr (Or.inr (Or.inr (Or.inr (Or.inr (Or.inr (Or.inr (Or.inr (Or.inr (Or.inr (Or.inr (Or.inr (Or.inr (Or.inr (Or.inr (Or.inr (Or.inr (Or.inr (Or.inr (Or.inr (Or.inr (Or.inr (Or.inr (Or.inr (Or.inr (Or.inr (Or.inr (Or.inr (Or.inr (Or.inr (Or.inr (Or.inr (Or.inl h12))))))))))))))))))))))))))))))))))))))))) (fun g12 => (Or.inr (Or.inr (Or.inr (Or.inr (Or.inr (Or.inr (Or.inr (Or.inr (Or.inr (Or.inr (Or.inr (Or.inr (Or.inr (Or.inr (Or.inr (Or.inr (Or.inr (Or.inr (Or.inr (Or.inr (Or.inr (Or.inr (Or.inr (Or.inr (Or.inr (Or.inr (Or.inr (Or.inr (Or.inr (Or.inr (Or.inr (Or.inr (Or.inr (Or.inr (Or.inr (Or.inr (Or.inr (Or.inr (Or.inr (Or.inr (Or.inr (Or.inr (Or.inl g12)))))))))))))))))))))))))))))))))))))))))))))))))))))))))))))))))))))))
        obtain ⟨r9, h_r9, h⟩ := Option.bind_eq_some_iff.mp h
        by_cases hc10z : r9 ≤ 0
        · rw [if_pos hc10z] at h
          obtain rfl := Option.some.inj h
          exact z7
        · rw [if_neg hc10z] at h
          obtain ⟨r11, h_r11, h⟩ := Option.bind_eq_some_iff.mp h
          have z8 : mx_out (WSX11_book a) m r11 := mx_out.tr z7 (mx_out.sub (ZX3_keep h_r11) (fun b j hb => (Or.elim hb (fun h0 => (Or.inr (Or.inr (Or.inr (Or.inr (Or.inr (Or.inr (Or.inr (Or.inr (Or.inr (Or.inr (Or.inr (Or.inr (Or.inr (Or.inr (Or.inr (Or.inr (Or.inr (Or.inr (Or.inr (Or.inr (Or.inr (Or.inr (Or.inr (Or.inr (Or.inr (Or.inr (Or.inr (Or.inr (Or.inr (Or.inr (Or.inr (Or.inr (Or.inr (Or.inr (Or.inr (Or.inr (Or.inr (Or.inr (Or.inr (Or.inr (Or.inr (Or.inr (Or.inr (Or.inl h0))))))))))))))))))))))))))))))))))))))))))))) (fun g0 => (Or.inr (Or.inr (Or.inr (Or.inr (Or.inr (Or.inr (Or.inr (Or.inr (Or.inr (Or.inr (Or.inr (Or.inr (Or.inr (Or.inr (Or.inr (Or.inr (Or.inr (Or.inr (Or.inr (Or.inr (Or.inr (Or.inr (Or.inr (Or.inr (Or.inr (Or.inr (Or.inr (Or.inr (Or.inr (Or.inr (Or.inr (Or.inr (Or.inr (Or.inr (Or.inr (Or.inr (Or.inr (Or.inr (Or.inr (Or.inr (Or.inr (Or.inr (Or.inr (Or.inr (Or.inl g0)))))))))))))))))))))))))))))))))))))))))))))))))
          obtain rfl := Option.some.inj h
          exact z8
  by_cases hc1z : x0 = 0
  · rw [if_pos hc1z] at h
    exact z_k2 h
  · rw [if_neg hc1z] at h
    by_cases hc15z : x0 = 1
    · rw [if_pos hc15z] at h
      exact z_k2 h
    · rw [if_neg hc15z] at h
      obtain rfl := Option.some.inj h
      exact z0
set_option maxRecDepth 20000 in
theorem ZX11_sentence {a : Nat} {m : mB} {r : (Int32 × mB)} (h : FX11_sentence a m = some r) : mx_out (WSX11_sentence a) m r.2 := by
  unfold FX11_sentence at h
  have z0 : mx_out (WSX11_sentence a) m m := mx_out.rf
  obtain ⟨r1, h_r1, h⟩ := Option.bind_eq_some_iff.mp h
  have z1 : mx_out (WSX11_sentence a) m r1.2 := mx_out.tr z0 (mx_out.sub (ZX8_read h_r1) (fun b j hb => (Or.elim hb (fun h0 => (Or.inr (Or.inr (Or.inr (Or.inr (Or.inr (Or.inr (Or.inr (Or.inr (Or.inr (Or.inr (Or.inr (Or.inr (Or.inr (Or.inr (Or.inr (Or.inr (Or.inl h0)))))))))))))))))) (fun g0 => (Or.elim g0 (fun h1 => (Or.inr (Or.inr (Or.inr (Or.inr (Or.inr (Or.inr (Or.inr (Or.inr (Or.inr (Or.inr (Or.inr (Or.inr (Or.inr (Or.inr (Or.inr (Or.inr (Or.inr (Or.inl h1))))))))))))))))))) (fun g1 => (Or.elim g1 (fun h2 => (Or.inr (Or.inr (Or.inr (Or.inr (Or.inr (Or.inr (Or.inr (Or.inr (Or.inr (Or.inr (Or.inr (Or.inr (Or.inr (Or.inr (Or.inr (Or.inr (Or.inr (Or.inr (Or.inl h2)))))))))))))))))))) (fun g2 => (Or.elim g2 (fun h3 => (Or.inr (Or.inr (Or.inr (Or.inr (Or.inr (Or.inr (Or.inr (Or.inr (Or.inr (Or.inr (Or.inr (Or.inr (Or.inr (Or.inr (Or.inr (Or.inr (Or.inr (Or.inr (Or.inr (Or.inl h3))))))))))))))))))))) (fun g3 => (Or.elim g3 (fun h4 => (Or.inr (Or.inr (Or.inr (Or.inr (Or.inr (Or.inr (Or.inr (Or.inr (Or.inr (Or.inr (Or.inr (Or.inr (Or.inr (Or.inr (Or.inr (Or.inr (Or.inr (Or.inr (Or.inr (Or.inr (Or.inl h4)))))))))))))))))))))) (fun g4 => (Or.elim g4 (fun h5 => (Or.inr (Or.inr (Or.inr (Or.inr (Or.inr (Or.inr (Or.inr (Or.inr (Or.inr (Or.inr (Or.inr (Or.inr (Or.inr (Or.inr (Or.inr (Or.inr (Or.inr (Or.inr (Or.inr (Or.inr (Or.inr h5)))))))))))))))))))))) (fun g5 => (Or.elim g5 (fun h6 => (Or.inl h6)) (fun g6 => (Or.elim g6 (fun h7 => (Or.inr (Or.inl h7))) (fun g7 => (Or.elim g7 (fun h8 => (Or.inr (Or.inr (Or.inr (Or.inl h8))))) (fun g8 => (Or.elim g8 (fun h9 => (Or.inr (Or.inr (Or.inr (Or.inr (Or.inl h9)))))) (fun g9 => (Or.elim g9 (fun h10 => (Or.inr (Or.inr (Or.inr (Or.inr (Or.inr (Or.inl h10))))))) (fun g10 => (Or.elim g10 (fun h11 => (Or.inr (Or.inr (Or.inr (Or.inr (Or.inr (Or.inr (Or.inl h11)))))))) (fun g11 => (Or.elim g11 (fun h12 => (Or.inr (Or.inr (Or.inr (Or.inr (Or.inr (Or.inr (Or.inr (Or.inl h12))))))))) (fun g12 => (Or.elim g12 (fun h13 => (Or.inr (Or.inr (Or.inr (Or.inr (Or.inr (Or.inr (Or.inr (Or.inr (Or.inl h13)))))))))) (fun g13 => (Or.inr (Or.inr (Or.inr (Or.inr (Or.inr (Or.inr (Or.inr (Or.inr (Or.inr (Or.inl g13))))))))))))))))))))))))))))))))))))))))
  obtain ⟨r2, h_r2, h⟩ := Option.bind_eq_some_iff.mp h
  have z2 : mx_out (WSX11_sentence a) m r2 := mx_out.tr z1 (mx_out.sub (ZX10_cut h_r2) (fun b j hb => (Or.inr (Or.inr (Or.inl hb)))))
  by_cases hc3z : r1.1 = 0
  · rw [if_pos hc3z] at h
    obtain ⟨r6, h_r6, h⟩ := Option.bind_eq_some_iff.mp h
    obtain rfl := Option.some.inj h
    exact z2
  · rw [if_neg hc3z] at h
    obtain ⟨r4, h_r4, h⟩ := Option.bind_eq_some_iff.mp h
    have z3 : mx_out (WSX11_sentence a) m r4 := mx_out.tr z2 (mx_out.sub (ZX8_copyFrom h_r4) (fun b j hb => (Or.elim hb (fun h0 => (Or.inr (Or.inr (Or.inr (Or.inr (Or.inr (Or.inr (Or.inr (Or.inr (Or.inr (Or.inr (Or.inl h0)))))))))))) (fun g0 => (Or.elim g0 (fun h1 => (Or.inr (Or.inr (Or.inr (Or.inr (Or.inr (Or.inr (Or.inr (Or.inr (Or.inr (Or.inr (Or.inr (Or.inl h1))))))))))))) (fun g1 => (Or.elim g1 (fun h2 => (Or.inr (Or.inr (Or.inr (Or.inr (Or.inr (Or.inr (Or.inr (Or.inr (Or.inr (Or.inr (Or.inr (Or.inr (Or.inl h2)))))))))))))) (fun g2 => (Or.elim g2 (fun h3 => (Or.inr (Or.inr (Or.inr (Or.inr (Or.inr (Or.inr (Or.inr (Or.inr (Or.inr (Or.inr (Or.inr (Or.inr (Or.inr (Or.inl h3))))))))))))))) (fun g3 => (Or.elim g3 (fun h4 => (Or.inr (Or.inr (Or.inr (Or.inr (Or.inr (Or.inr (Or.inr (Or.inr (Or.inr (Or.inr (Or.inr (Or.inr (Or.inr (Or.inr (Or.inl h4)))))))))))))))) (fun g4 => (Or.inr (Or.inr (Or.inr (Or.inr (Or.inr (Or.inr (Or.inr (Or.inr (Or.inr (Or.inr (Or.inr (Or.inr (Or.inr (Or.inr (Or.inr (Or.inl g4))))))))))))))))))))))))))))
    obtain ⟨r5, h_r5, h⟩ := Option.bind_eq_some_iff.mp h
    obtain rfl := Option.some.inj h
    exact z3
set_option maxRecDepth 20000 in
theorem ZX11_said {a : Nat} {x0 : Int32} {m : mB} {r : (Int32 × mB)} (h : FX11_said a x0 m = some r) : mx_out (WSX11_said a) m r.2 := by
  unfold FX11_said at h
  have z0 : mx_out (WSX11_said a) m m := mx_out.rf
  obtain ⟨r1, h_r1, h⟩ := Option.bind_eq_some_iff.mp h
  by_cases hc2z : r1 = 0
  · rw [if_pos hc2z] at h
    obtain rfl := Option.some.inj h
    exact z0
  · rw [if_neg hc2z] at h
    obtain ⟨r3, h_r3, h⟩ := Option.bind_eq_some_iff.mp h
    have z1 : mx_out (WSX11_said a) m r3.2 := mx_out.tr z0 (mx_out.sub (ZX8_pointsOf h_r3) (fun b j hb => hb))
    by_cases hc4z : x0 = (-1)
    · rw [if_pos hc4z] at h
      obtain ⟨r6, h_r6, h⟩ := Option.bind_eq_some_iff.mp h
      obtain rfl := Option.some.inj h
      exact z1
    · rw [if_neg hc4z] at h
      obtain ⟨r5, h_r5, h⟩ := Option.bind_eq_some_iff.mp h
      obtain rfl := Option.some.inj h
      exact z1
set_option maxRecDepth 20000 in
theorem ZX12_refuse {a : Nat} {m : mB} {r : (Int32 × mB)} (h : FX12_refuse a m = some r) : mx_out (WSX12_refuse a) m r.2 := by
  unfold FX12_refuse at h
  have z0 : mx_out (WSX12_refuse a) m m := mx_out.rf
  obtain ⟨m1, e_m1, h⟩ := mx_letE h
  have z1 : mx_out (WSX12_refuse a) m m1 := by first | exact mx_out_up z0 e_m1 ⟨rfl, rfl⟩ | exact mx_out_ul z0 e_m1 ⟨rfl, rfl⟩ | exact mx_out_cp z0 e_m1 (fun j => ⟨rfl, rfl⟩) | exact mx_out_cl z0 e_m1 (fun j => ⟨rfl, rfl⟩)
  obtain rfl := Option.some.inj h
  exact z1
set_option maxRecDepth 20000 in
theorem ZX12_come_L3 {q0 : Nat} {y1 : Int32} : ∀ (f : Nat) {y2 : Int32} {m : mB} {q : (mB)}, FX12_come_L3 q0 y1 f y2 m = some q → mx_out (WSX12_come_L3 q0) m q := by
  intro f
  induction f with
  | zero => intro _ _ _ h; cases h
  | succ f ih =>
    intro y2 m q h
    rw [FX12_come_L3] at h
    have z0 : mx_out (WSX12_come_L3 q0) m m := mx_out.rf
    by_cases hc1z : y2 < 0
    · rw [if_pos hc1z] at h
      obtain rfl := Option.some.inj h
      exact z0
    · rw [if_neg hc1z] at h
      obtain ⟨-, h⟩ := mx_chkE h
      obtain ⟨m2, e_m2, h⟩ := mx_letE h
      have z1 : mx_out (WSX12_come_L3 q0) m m2 := by first | exact mx_out_up z0 e_m2 (Or.inr rfl) | exact mx_out_ul z0 e_m2 (Or.inr rfl) | exact mx_out_cp z0 e_m2 (fun j => (Or.inr rfl)) | exact mx_out_cl z0 e_m2 (fun j => (Or.inr rfl))
      obtain ⟨m4, e_m4, h⟩ := mx_letE h
      have z2 : mx_out (WSX12_come_L3 q0) m m4 := by first | exact mx_out_up z1 e_m4 (Or.inl ⟨rfl, rfl⟩) | exact mx_out_ul z1 e_m4 (Or.inl ⟨rfl, rfl⟩) | exact mx_out_cp z1 e_m4 (fun j => (Or.inl ⟨rfl, rfl⟩)) | exact mx_out_cl z1 e_m4 (fun j => (Or.inl ⟨rfl, rfl⟩))
      obtain ⟨v5, -, h⟩ := mx_letE h
      exact mx_out.tr z2 (ih h)
set_option maxRecDepth 20000 in
theorem ZX12_come {a : Nat} {x0 : Int32} {m : mB} {r : mB} (h : FX12_come a x0 m = some r) : mx_out (WSX12_come a) m r := by
  unfold FX12_come at h
  have z0 : mx_out (WSX12_come a) m m := mx_out.rf
  obtain ⟨q6, h_q6, h⟩ := Option.bind_eq_some_iff.mp h
  have z3 := mx_out.tr z0 (mx_out.sub (S := (WSX12_come a)) (ZX12_come_L3 mx_FU h_q6) (fun b j hb => (Or.elim hb (fun h0 => (Or.inl h0)) (fun g0 => (Or.inr g0)))))
  obtain rfl := Option.some.inj h
  exact z3
set_option maxRecDepth 20000 in
theorem ZX12_feed {a : Nat} {x0 : Int32} {x1 : Int32} {x2 : Int32} {x3 : Int32} {x4 : Int32} {m : mB} {r : (Int32 × mB)} (h : FX12_feed a x0 x1 x2 x3 x4 m = some r) : mx_out (WSX12_feed a) m r.2 := by
  unfold FX12_feed at h
  have z0 : mx_out (WSX12_feed a) m m := mx_out.rf
  obtain ⟨m1, e_m1, h⟩ := mx_letE h
  have z1 : mx_out (WSX12_feed a) m m1 := by first | exact mx_out_up z0 e_m1 (Or.inl ⟨rfl, rfl⟩) | exact mx_out_ul z0 e_m1 (Or.inl ⟨rfl, rfl⟩) | exact mx_out_cp z0 e_m1 (fun j => (Or.inl ⟨rfl, rfl⟩)) | exact mx_out_cl z0 e_m1 (fun j => (Or.inl ⟨rfl, rfl⟩))
  by_cases hc2z : ((m1.1 a 2) + 20) ≤ 940
  · rw [if_pos hc2z] at h
    obtain ⟨r3, h_r3, h⟩ := Option.bind_eq_some_iff.mp h
    have z2 : mx_out (WSX12_feed a) m r3 := mx_out.tr z1 (mx_out.sub (ZX12_come h_r3) (fun b j hb => (Or.elim hb (fun h0 => (Or.inr (Or.inl h0))) (fun g0 => (Or.inr (Or.inr g0))))))
    obtain ⟨r4, h_r4, h⟩ := Option.bind_eq_some_iff.mp h
    have z3 : mx_out (WSX12_feed a) m r4 := mx_out.tr z2 (mx_out.sub (ZX12_come h_r4) (fun b j hb => (Or.elim hb (fun h0 => (Or.inr (Or.inl h0))) (fun g0 => (Or.inr (Or.inr g0))))))
    obtain ⟨r5, h_r5, h⟩ := Option.bind_eq_some_iff.mp h
    have z4 : mx_out (WSX12_feed a) m r5 := mx_out.tr z3 (mx_out.sub (ZX12_come h_r5) (fun b j hb => (Or.elim hb (fun h0 => (Or.inr (Or.inl h0))) (fun g0 => (Or.inr (Or.inr g0))))))
    obtain ⟨r6, h_r6, h⟩ := Option.bind_eq_some_iff.mp h
    have z5 : mx_out (WSX12_feed a) m r6 := mx_out.tr z4 (mx_out.sub (ZX12_come h_r6) (fun b j hb => (Or.elim hb (fun h0 => (Or.inr (Or.inl h0))) (fun g0 => (Or.inr (Or.inr g0))))))
    obtain ⟨r7, h_r7, h⟩ := Option.bind_eq_some_iff.mp h
    have z6 : mx_out (WSX12_feed a) m r7 := mx_out.tr z5 (mx_out.sub (ZX12_come h_r7) (fun b j hb => (Or.elim hb (fun h0 => (Or.inr (Or.inl h0))) (fun g0 => (Or.inr (Or.inr g0))))))
    obtain rfl := Option.some.inj h
    exact z6
  · rw [if_neg hc2z] at h
    obtain rfl := Option.some.inj h
    exact z1
set_option maxRecDepth 20000 in
theorem ZX12_end {a : Nat} {x0 : Int32} {m : mB} {r : (Int32 × mB)} (h : FX12_end a x0 m = some r) : mx_out (WSX12_end a) m r.2 := by
  unfold FX12_end at h
  have z0 : mx_out (WSX12_end a) m m := mx_out.rf
  obtain ⟨m1, e_m1, h⟩ := mx_letE h
  have z1 : mx_out (WSX12_end a) m m1 := by first | exact mx_out_up z0 e_m1 (Or.inl ⟨rfl, rfl⟩) | exact mx_out_ul z0 e_m1 (Or.inl ⟨rfl, rfl⟩) | exact mx_out_cp z0 e_m1 (fun j => (Or.inl ⟨rfl, rfl⟩)) | exact mx_out_cl z0 e_m1 (fun j => (Or.inl ⟨rfl, rfl⟩))
  by_cases hc2z : x0 < 0
  · rw [if_pos hc2z] at h
    obtain rfl := Option.some.inj h
    exact z1
  · rw [if_neg hc2z] at h
    by_cases hc3z : x0 ≤ (m1.1 a 2)
    · rw [if_pos hc3z] at h
      obtain ⟨m4, e_m4, h⟩ := mx_letE h
      have z2 : mx_out (WSX12_end a) m m4 := by first | exact mx_out_up z1 e_m4 (Or.inr ⟨rfl, rfl⟩) | exact mx_out_ul z1 e_m4 (Or.inr ⟨rfl, rfl⟩) | exact mx_out_cp z1 e_m4 (fun j => (Or.inr ⟨rfl, rfl⟩)) | exact mx_out_cl z1 e_m4 (fun j => (Or.inr ⟨rfl, rfl⟩))
      obtain rfl := Option.some.inj h
      exact z2
    · rw [if_neg hc3z] at h
      obtain rfl := Option.some.inj h
      exact z1
set_option maxRecDepth 20000 in
theorem ZX12_take {a : Nat} {m : mB} {r : (Int32 × mB)} (h : FX12_take a m = some r) : mx_out (WSX12_take a) m r.2 := by
  unfold FX12_take at h
  have z0 : mx_out (WSX12_take a) m m := mx_out.rf
  obtain ⟨v1, -, h⟩ := mx_letE h
  obtain ⟨m2, e_m2, h⟩ := mx_letE h
  have z1 : mx_out (WSX12_take a) m m2 := by first | exact mx_out_up z0 e_m2 ⟨rfl, rfl⟩ | exact mx_out_ul z0 e_m2 ⟨rfl, rfl⟩ | exact mx_out_cp z0 e_m2 (fun j => ⟨rfl, rfl⟩) | exact mx_out_cl z0 e_m2 (fun j => ⟨rfl, rfl⟩)
  obtain rfl := Option.some.inj h
  exact z1
set_option maxRecDepth 20000 in
theorem ZX12_go_L0 {q0 : Nat} : ∀ (f : Nat)  {m : mB} {q : (mB)}, FX12_go_L0 q0 f  m = some q → mx_out (WSX12_go_L0 q0) m q := by
  intro f
  induction f with
  | zero => intro _ _ h; cases h
  | succ f ih =>
    intro m q h
    rw [FX12_go_L0] at h
    have z0 : mx_out (WSX12_go_L0 q0) m m := mx_out.rf
    by_cases hc1z : (m.1 q0 3) ≤ (m.1 q0 5)
    · rw [if_pos hc1z] at h
      obtain rfl := Option.some.inj h
      exact z0
    · rw [if_neg hc1z] at h
      obtain ⟨-, h⟩ := mx_chkE h
      by_cases hc3z : (m.1 (q0 + 1) (Int32.toNatClampNeg (m.1 q0 5))) = 32
      · rw [if_pos hc3z] at h
        obtain ⟨m4, e_m4, h⟩ := mx_letE h
        have z1 : mx_out (WSX12_go_L0 q0) m m4 := by first | exact mx_out_up z0 e_m4 ⟨rfl, rfl⟩ | exact mx_out_ul z0 e_m4 ⟨rfl, rfl⟩ | exact mx_out_cp z0 e_m4 (fun j => ⟨rfl, rfl⟩) | exact mx_out_cl z0 e_m4 (fun j => ⟨rfl, rfl⟩)
        exact mx_out.tr z1 (ih h)
      · rw [if_neg hc3z] at h
        by_cases hc5z : (m.1 (q0 + 1) (Int32.toNatClampNeg (m.1 q0 5))) = 10
        · rw [if_pos hc5z] at h
          obtain ⟨m6, e_m6, h⟩ := mx_letE h
          have z2 : mx_out (WSX12_go_L0 q0) m m6 := by first | exact mx_out_up z0 e_m6 ⟨rfl, rfl⟩ | exact mx_out_ul z0 e_m6 ⟨rfl, rfl⟩ | exact mx_out_cp z0 e_m6 (fun j => ⟨rfl, rfl⟩) | exact mx_out_cl z0 e_m6 (fun j => ⟨rfl, rfl⟩)
          exact mx_out.tr z2 (ih h)
        · rw [if_neg hc5z] at h
          obtain rfl := Option.some.inj h
          exact z0
set_option maxRecDepth 20000 in
theorem ZX12_go_L215 {q0 : Nat} {y2 : Int32} : ∀ (f : Nat) {y3 : Int32} {m : mB} {q : (Int32 × mB)}, FX12_go_L215 q0 y2 f y3 m = some q → mx_out (WSX12_go_L215 q0) m q.2 := by
  intro f
  induction f with
  | zero => intro _ _ _ h; cases h
  | succ f ih =>
    intro y3 m q h
    rw [FX12_go_L215] at h
    have z0 : mx_out (WSX12_go_L215 q0) m m := mx_out.rf
    obtain ⟨r22, h_r22, h⟩ := Option.bind_eq_some_iff.mp h
    obtain ⟨r23, h_r23, h⟩ := Option.bind_eq_some_iff.mp h
    refine mx_letK (J := fun k25 => k25 = some q → mx_out (WSX12_go_L215 q0) m q.2) h ?_ (fun k25 z_k25 h => ?_)
    · intro h
      obtain ⟨-, h⟩ := mx_chkE h
      obtain ⟨v27, -, h⟩ := mx_letE h
      refine mx_letK (J := fun k29 => k29 = some q → mx_out (WSX12_go_L215 q0) m q.2) h ?_ (fun k29 z_k29 h => ?_)
      · intro h
        refine mx_letK (J := fun k32 => ∀ {m31 : mB}, k32 m31 = some q → mx_out (WSX12_go_L215 q0) m m31 → mx_out (WSX12_go_L215 q0) m q.2) h ?_ (fun k32 z_k32 h => ?_)
        · intro m31 h z5
          dsimp only at h
          by_cases hc33z : 3 ≤ ((m31.1 q0 5) - (m31.1 q0 6))
          · rw [if_pos hc33z] at h
            obtain ⟨m34, e_m34, h⟩ := mx_letE h
            have z6 : mx_out (WSX12_go_L215 q0) m m34 := by first | exact mx_out_up z5 e_m34 (Or.inr (Or.inl ⟨rfl, rfl⟩)) | exact mx_out_ul z5 e_m34 (Or.inr (Or.inl ⟨rfl, rfl⟩)) | exact mx_out_cp z5 e_m34 (fun j => (Or.inr (Or.inl ⟨rfl, rfl⟩))) | exact mx_out_cl z5 e_m34 (fun j => (Or.inr (Or.inl ⟨rfl, rfl⟩)))
            exact mx_out.tr z6 (ih h)
          · rw [if_neg hc33z] at h
            obtain ⟨m35, e_m35, h⟩ := mx_letE h
            have z7 : mx_out (WSX12_go_L215 q0) m m35 := by first | exact mx_out_up z5 e_m35 (Or.inr (Or.inr ⟨rfl, rfl⟩)) | exact mx_out_ul z5 e_m35 (Or.inr (Or.inr ⟨rfl, rfl⟩)) | exact mx_out_cp z5 e_m35 (fun j => (Or.inr (Or.inr ⟨rfl, rfl⟩))) | exact mx_out_cl z5 e_m35 (fun j => (Or.inr (Or.inr ⟨rfl, rfl⟩)))
            obtain ⟨m36, e_m36, h⟩ := mx_letE h
            have z8 : mx_out (WSX12_go_L215 q0) m m36 := by first | exact mx_out_up z7 e_m36 (Or.inr (Or.inl ⟨rfl, rfl⟩)) | exact mx_out_ul z7 e_m36 (Or.inr (Or.inl ⟨rfl, rfl⟩)) | exact mx_out_cp z7 e_m36 (fun j => (Or.inr (Or.inl ⟨rfl, rfl⟩))) | exact mx_out_cl z7 e_m36 (fun j => (Or.inr (Or.inl ⟨rfl, rfl⟩)))
            exact mx_out.tr z8 (ih h)
        by_cases hc30z : 7 ≤ ((m.1 q0 5) - (m.1 q0 6))
        · rw [if_pos hc30z] at h
          exact z_k32 h z0
        · rw [if_neg hc30z] at h
          obtain ⟨m37, e_m37, h⟩ := mx_letE h
          have z9 : mx_out (WSX12_go_L215 q0) m m37 := by first | exact mx_out_up z0 e_m37 (Or.inl ⟨rfl, rfl⟩) | exact mx_out_ul z0 e_m37 (Or.inl ⟨rfl, rfl⟩) | exact mx_out_cp z0 e_m37 (fun j => (Or.inl ⟨rfl, rfl⟩)) | exact mx_out_cl z0 e_m37 (fun j => (Or.inl ⟨rfl, rfl⟩))
          exact z_k32 h z9
      by_cases hc28z : y3 = 0
      · rw [if_pos hc28z] at h
        exact z_k29 h
      · rw [if_neg hc28z] at h
        obtain ⟨r38, h_r38, h⟩ := Option.bind_eq_some_iff.mp h
        by_cases hc39z : r38 = y2
        · rw [if_pos hc39z] at h
          refine mx_letK (J := fun k42 => ∀ {m41 : mB}, k42 m41 = some q → mx_out (WSX12_go_L215 q0) m m41 → mx_out (WSX12_go_L215 q0) m q.2) h ?_ (fun k42 z_k42 h => ?_)
          · intro m41 h z10
            dsimp only at h
            by_cases hc43z : 3 ≤ ((m41.1 q0 5) - (m41.1 q0 6))
            · rw [if_pos hc43z] at h
              obtain ⟨m44, e_m44, h⟩ := mx_letE h
              have z11 : mx_out (WSX12_go_L215 q0) m m44 := by first | exact mx_out_up z10 e_m44 (Or.inr (Or.inl ⟨rfl, rfl⟩)) | exact mx_out_ul z10 e_m44 (Or.inr (Or.inl ⟨rfl, rfl⟩)) | exact mx_out_cp z10 e_m44 (fun j => (Or.inr (Or.inl ⟨rfl, rfl⟩))) | exact mx_out_cl z10 e_m44 (fun j => (Or.inr (Or.inl ⟨rfl, rfl⟩)))
              exact mx_out.tr z11 (ih h)
            · rw [if_neg hc43z] at h
              obtain ⟨m45, e_m45, h⟩ := mx_letE h
              have z12 : mx_out (WSX12_go_L215 q0) m m45 := by first | exact mx_out_up z10 e_m45 (Or.inr (Or.inr ⟨rfl, rfl⟩)) | exact mx_out_ul z10 e_m45 (Or.inr (Or.inr ⟨rfl, rfl⟩)) | exact mx_out_cp z10 e_m45 (fun j => (Or.inr (Or.inr ⟨rfl, rfl⟩))) | exact mx_out_cl z10 e_m45 (fun j => (Or.inr (Or.inr ⟨rfl, rfl⟩)))
              obtain ⟨m46, e_m46, h⟩ := mx_letE h
              have z13 : mx_out (WSX12_go_L215 q0) m m46 := by first | exact mx_out_up z12 e_m46 (Or.inr (Or.inl ⟨rfl, rfl⟩)) | exact mx_out_ul z12 e_m46 (Or.inr (Or.inl ⟨rfl, rfl⟩)) | exact mx_out_cp z12 e_m46 (fun j => (Or.inr (Or.inl ⟨rfl, rfl⟩))) | exact mx_out_cl z12 e_m46 (fun j => (Or.inr (Or.inl ⟨rfl, rfl⟩)))
              exact mx_out.tr z13 (ih h)
          by_cases hc40z : 7 ≤ ((m.1 q0 5) - (m.1 q0 6))
          · rw [if_pos hc40z] at h
            exact z_k42 h z0
          · rw [if_neg hc40z] at h
            obtain ⟨m47, e_m47, h⟩ := mx_letE h
            have z14 : mx_out (WSX12_go_L215 q0) m m47 := by first | exact mx_out_up z0 e_m47 (Or.inl ⟨rfl, rfl⟩) | exact mx_out_ul z0 e_m47 (Or.inl ⟨rfl, rfl⟩) | exact mx_out_cp z0 e_m47 (fun j => (Or.inl ⟨rfl, rfl⟩)) | exact mx_out_cl z0 e_m47 (fun j => (Or.inl ⟨rfl, rfl⟩))
            exact z_k42 h z14
        · rw [if_neg hc39z] at h
          exact z_k29 h
    by_cases hc24z : r23 = 0
    · rw [if_pos hc24z] at h
      obtain ⟨r48, h_r48, h⟩ := Option.bind_eq_some_iff.mp h
      obtain ⟨r49, h_r49, h⟩ := Option.bind_eq_some_iff.mp h
      by_cases hc50z : r49 = 0
      · rw [if_pos hc50z] at h
        obtain rfl := Option.some.inj h
        exact z0
      · rw [if_neg hc50z] at h
        exact z_k25 h
    · rw [if_neg hc24z] at h
      exact z_k25 h
set_option maxRecDepth 20000 in
theorem ZX12_go {a : Nat} {m : mB} {r : mB} (h : FX12_go a m = some r) : mx_out (WSX12_go a) m r := by
  unfold FX12_go at h
  have z0 : mx_out (WSX12_go a) m m := mx_out.rf
  obtain ⟨q7, h_q7, h⟩ := Option.bind_eq_some_iff.mp h
  have z15 := mx_out.tr z0 (mx_out.sub (S := (WSX12_go a)) (ZX12_go_L0 mx_FU h_q7) (fun b j hb => (Or.inr (Or.inl hb))))
  obtain ⟨m8, e_m8, h⟩ := mx_letE h
  have z16 : mx_out (WSX12_go a) m m8 := by first | exact mx_out_up z15 e_m8 (Or.inr (Or.inr (Or.inl ⟨rfl, rfl⟩))) | exact mx_out_ul z15 e_m8 (Or.inr (Or.inr (Or.inl ⟨rfl, rfl⟩))) | exact mx_out_cp z15 e_m8 (fun j => (Or.inr (Or.inr (Or.inl ⟨rfl, rfl⟩)))) | exact mx_out_cl z15 e_m8 (fun j => (Or.inr (Or.inr (Or.inl ⟨rfl, rfl⟩))))
  refine mx_letK (J := fun k11 => ∀ {m10 : mB}, k11 m10 = some r → mx_out (WSX12_go a) m m10 → mx_out (WSX12_go a) m r) h ?_ (fun k11 z_k11 h => ?_)
  · intro m10 h z17
    dsimp only at h
    by_cases hc12z : (m10.1 a 5) < (m10.1 a 3)
    · rw [if_pos hc12z] at h
      obtain ⟨-, h⟩ := mx_chkE h
      obtain ⟨v14, -, h⟩ := mx_letE h
      obtain ⟨r15, h_r15, h⟩ := Option.bind_eq_some_iff.mp h
      refine mx_letK (J := fun k18 => ∀ {m17 : mB}, k18 m17 = some r → mx_out (WSX12_go a) m m17 → mx_out (WSX12_go a) m r) h ?_ (fun k18 z_k18 h => ?_)
      · intro m17 h z18
        dsimp only at h
        obtain ⟨r19, h_r19, h⟩ := Option.bind_eq_some_iff.mp h
        obtain ⟨m20, e_m20, h⟩ := mx_letE h
        have z19 : mx_out (WSX12_go a) m m20 := by first | exact mx_out_up z18 e_m20 (Or.inl ⟨rfl, rfl⟩) | exact mx_out_ul z18 e_m20 (Or.inl ⟨rfl, rfl⟩) | exact mx_out_cp z18 e_m20 (fun j => (Or.inl ⟨rfl, rfl⟩)) | exact mx_out_cl z18 e_m20 (fun j => (Or.inl ⟨rfl, rfl⟩))
        obtain ⟨m21, e_m21, h⟩ := mx_letE h
        have z20 : mx_out (WSX12_go a) m m21 := by first | exact mx_out_up z19 e_m21 (Or.inr (Or.inr (Or.inr (Or.inr (Or.inl ⟨rfl, rfl⟩))))) | exact mx_out_ul z19 e_m21 (Or.inr (Or.inr (Or.inr (Or.inr (Or.inl ⟨rfl, rfl⟩))))) | exact mx_out_cp z19 e_m21 (fun j => (Or.inr (Or.inr (Or.inr (Or.inr (Or.inl ⟨rfl, rfl⟩)))))) | exact mx_out_cl z19 e_m21 (fun j => (Or.inr (Or.inr (Or.inr (Or.inr (Or.inl ⟨rfl, rfl⟩))))))
        obtain ⟨q51, h_q51, h⟩ := Option.bind_eq_some_iff.mp h
        have z21 := mx_out.tr z20 (mx_out.sub (S := (WSX12_go a)) (ZX12_go_L215 mx_FU h_q51) (fun b j hb => (Or.elim hb (fun h0 => (Or.inl h0)) (fun g0 => (Or.elim g0 (fun h1 => (Or.inr (Or.inl h1))) (fun g1 => (Or.inr (Or.inr (Or.inr (Or.inr (Or.inl g1)))))))))))
        by_cases hc52z : q51.1 = 0
        · rw [if_pos hc52z] at h
          obtain ⟨m53, e_m53, h⟩ := mx_letE h
          have z22 : mx_out (WSX12_go a) m m53 := by first | exact mx_out_up z21 e_m53 (Or.inr (Or.inr (Or.inr (Or.inl ⟨rfl, rfl⟩)))) | exact mx_out_ul z21 e_m53 (Or.inr (Or.inr (Or.inr (Or.inl ⟨rfl, rfl⟩)))) | exact mx_out_cp z21 e_m53 (fun j => (Or.inr (Or.inr (Or.inr (Or.inl ⟨rfl, rfl⟩))))) | exact mx_out_cl z21 e_m53 (fun j => (Or.inr (Or.inr (Or.inr (Or.inl ⟨rfl, rfl⟩)))))
          obtain rfl := Option.some.inj h
          exact z22
        · rw [if_neg hc52z] at h
          by_cases hc54z : r19 = 0
          · rw [if_pos hc54z] at h
            by_cases hc55z : ((q51.2.1 a 5) - (q51.2.1 a 6)) ≤ 3
            · rw [if_pos hc55z] at h
              by_cases hc56z : r19 = 0
              · rw [if_pos hc56z] at h
                obtain ⟨m57, e_m57, h⟩ := mx_letE h
                have z23 : mx_out (WSX12_go a) m m57 := by first | exact mx_out_up z21 e_m57 (Or.inr (Or.inr (Or.inr (Or.inl ⟨rfl, rfl⟩)))) | exact mx_out_ul z21 e_m57 (Or.inr (Or.inr (Or.inr (Or.inl ⟨rfl, rfl⟩)))) | exact mx_out_cp z21 e_m57 (fun j => (Or.inr (Or.inr (Or.inr (Or.inl ⟨rfl, rfl⟩))))) | exact mx_out_cl z21 e_m57 (fun j => (Or.inr (Or.inr (Or.inr (Or.inl ⟨rfl, rfl⟩)))))
                obtain rfl := Option.some.inj h
                exact z23
              · rw [if_neg hc56z] at h
                obtain ⟨m58, e_m58, h⟩ := mx_letE h
                have z24 : mx_out (WSX12_go a) m m58 := by first | exact mx_out_up z21 e_m58 (Or.inr (Or.inr (Or.inr (Or.inl ⟨rfl, rfl⟩)))) | exact mx_out_ul z21 e_m58 (Or.inr (Or.inr (Or.inr (Or.inl ⟨rfl, rfl⟩)))) | exact mx_out_cp z21 e_m58 (fun j => (Or.inr (Or.inr (Or.inr (Or.inl ⟨rfl, rfl⟩))))) | exact mx_out_cl z21 e_m58 (fun j => (Or.inr (Or.inr (Or.inr (Or.inl ⟨rfl, rfl⟩)))))
                obtain rfl := Option.some.inj h
                exact z24
            · rw [if_neg hc55z] at h
              obtain ⟨m59, e_m59, h⟩ := mx_letE h
              have z25 : mx_out (WSX12_go a) m m59 := by first | exact mx_out_up z21 e_m59 (Or.inr (Or.inr (Or.inr (Or.inl ⟨rfl, rfl⟩)))) | exact mx_out_ul z21 e_m59 (Or.inr (Or.inr (Or.inr (Or.inl ⟨rfl, rfl⟩)))) | exact mx_out_cp z21 e_m59 (fun j => (Or.inr (Or.inr (Or.inr (Or.inl ⟨rfl, rfl⟩))))) | exact mx_out_cl z21 e_m59 (fun j => (Or.inr (Or.inr (Or.inr (Or.inl ⟨rfl, rfl⟩)))))
              obtain rfl := Option.some.inj h
              exact z25
          · rw [if_neg hc54z] at h
            by_cases hc60z : ((q51.2.1 a 5) - (q51.2.1 a 6)) ≤ 7
            · rw [if_pos hc60z] at h
              by_cases hc61z : r19 = 0
              · rw [if_pos hc61z] at h
                obtain ⟨m62, e_m62, h⟩ := mx_letE h
                have z26 : mx_out (WSX12_go a) m m62 := by first | exact mx_out_up z21 e_m62 (Or.inr (Or.inr (Or.inr (Or.inl ⟨rfl, rfl⟩)))) | exact mx_out_ul z21 e_m62 (Or.inr (Or.inr (Or.inr (Or.inl ⟨rfl, rfl⟩)))) | exact mx_out_cp z21 e_m62 (fun j => (Or.inr (Or.inr (Or.inr (Or.inl ⟨rfl, rfl⟩))))) | exact mx_out_cl z21 e_m62 (fun j => (Or.inr (Or.inr (Or.inr (Or.inl ⟨rfl, rfl⟩)))))
                obtain rfl := Option.some.inj h
                exact z26
              · rw [if_neg hc61z] at h
                obtain ⟨m63, e_m63, h⟩ := mx_letE h
                have z27 : mx_out (WSX12_go a) m m63 := by first | exact mx_out_up z21 e_m63 (Or.inr (Or.inr (Or.inr (Or.inl ⟨rfl, rfl⟩)))) | exact mx_out_ul z21 e_m63 (Or.inr (Or.inr (Or.inr (Or.inl ⟨rfl, rfl⟩)))) | exact mx_out_cp z21 e_m63 (fun j => (Or.inr (Or.inr (Or.inr (Or.inl ⟨rfl, rfl⟩))))) | exact mx_out_cl z21 e_m63 (fun j => (Or.inr (Or.inr (Or.inr (Or.inl ⟨rfl, rfl⟩)))))
                obtain rfl := Option.some.inj h
                exact z27
            · rw [if_neg hc60z] at h
              obtain ⟨m64, e_m64, h⟩ := mx_letE h
              have z28 : mx_out (WSX12_go a) m m64 := by first | exact mx_out_up z21 e_m64 (Or.inr (Or.inr (Or.inr (Or.inl ⟨rfl, rfl⟩)))) | exact mx_out_ul z21 e_m64 (Or.inr (Or.inr (Or.inr (Or.inl ⟨rfl, rfl⟩)))) | exact mx_out_cp z21 e_m64 (fun j => (Or.inr (Or.inr (Or.inr (Or.inl ⟨rfl, rfl⟩))))) | exact mx_out_cl z21 e_m64 (fun j => (Or.inr (Or.inr (Or.inr (Or.inl ⟨rfl, rfl⟩)))))
              obtain rfl := Option.some.inj h
              exact z28
      by_cases hc16z : r15 = 0
      · rw [if_pos hc16z] at h
        obtain ⟨r65, h_r65, h⟩ := Option.bind_eq_some_iff.mp h
        by_cases hc66z : r65 = 0
        · rw [if_pos hc66z] at h
          refine mx_letK (J := fun k68 => k68 = some r → mx_out (WSX12_go a) m r) h ?_ (fun k68 z_k68 h => ?_)
          · intro h
            obtain ⟨m69, e_m69, h⟩ := mx_letE h
            have z30 : mx_out (WSX12_go a) m m69 := by first | exact mx_out_up z17 e_m69 (Or.inr (Or.inr (Or.inr (Or.inl ⟨rfl, rfl⟩)))) | exact mx_out_ul z17 e_m69 (Or.inr (Or.inr (Or.inr (Or.inl ⟨rfl, rfl⟩)))) | exact mx_out_cp z17 e_m69 (fun j => (Or.inr (Or.inr (Or.inr (Or.inl ⟨rfl, rfl⟩))))) | exact mx_out_cl z17 e_m69 (fun j => (Or.inr (Or.inr (Or.inr (Or.inl ⟨rfl, rfl⟩)))))
            obtain ⟨m70, e_m70, h⟩ := mx_letE h
            have z31 : mx_out (WSX12_go a) m m70 := by first | exact mx_out_up z30 e_m70 (Or.inr (Or.inr (Or.inr (Or.inr (Or.inr ⟨rfl, rfl⟩))))) | exact mx_out_ul z30 e_m70 (Or.inr (Or.inr (Or.inr (Or.inr (Or.inr ⟨rfl, rfl⟩))))) | exact mx_out_cp z30 e_m70 (fun j => (Or.inr (Or.inr (Or.inr (Or.inr (Or.inr ⟨rfl, rfl⟩)))))) | exact mx_out_cl z30 e_m70 (fun j => (Or.inr (Or.inr (Or.inr (Or.inr (Or.inr ⟨rfl, rfl⟩))))))
            obtain ⟨m71, e_m71, h⟩ := mx_letE h
            have z32 : mx_out (WSX12_go a) m m71 := by first | exact mx_out_up z31 e_m71 (Or.inr (Or.inl ⟨rfl, rfl⟩)) | exact mx_out_ul z31 e_m71 (Or.inr (Or.inl ⟨rfl, rfl⟩)) | exact mx_out_cp z31 e_m71 (fun j => (Or.inr (Or.inl ⟨rfl, rfl⟩))) | exact mx_out_cl z31 e_m71 (fun j => (Or.inr (Or.inl ⟨rfl, rfl⟩)))
            obtain rfl := Option.some.inj h
            exact z32
          by_cases hc67z : v14 = 59
          · rw [if_pos hc67z] at h
            exact z_k68 h
          · rw [if_neg hc67z] at h
            by_cases hc72z : v14 = 60
            · rw [if_pos hc72z] at h
              exact z_k68 h
            · rw [if_neg hc72z] at h
              by_cases hc73z : v14 = 61
              · rw [if_pos hc73z] at h
                exact z_k68 h
              · rw [if_neg hc73z] at h
                by_cases hc74z : v14 = 62
                · rw [if_pos hc74z] at h
                  exact z_k68 h
                · rw [if_neg hc74z] at h
                  by_cases hc75z : v14 = 40
                  · rw [if_pos hc75z] at h
                    exact z_k68 h
                  · rw [if_neg hc75z] at h
                    by_cases hc76z : v14 = 41
                    · rw [if_pos hc76z] at h
                      exact z_k68 h
                    · rw [if_neg hc76z] at h
                      obtain ⟨m77, e_m77, h⟩ := mx_letE h
                      have z33 : mx_out (WSX12_go a) m m77 := by first | exact mx_out_up z17 e_m77 (Or.inr (Or.inr (Or.inr (Or.inl ⟨rfl, rfl⟩)))) | exact mx_out_ul z17 e_m77 (Or.inr (Or.inr (Or.inr (Or.inl ⟨rfl, rfl⟩)))) | exact mx_out_cp z17 e_m77 (fun j => (Or.inr (Or.inr (Or.inr (Or.inl ⟨rfl, rfl⟩))))) | exact mx_out_cl z17 e_m77 (fun j => (Or.inr (Or.inr (Or.inr (Or.inl ⟨rfl, rfl⟩)))))
                      obtain ⟨m78, e_m78, h⟩ := mx_letE h
                      have z34 : mx_out (WSX12_go a) m m78 := by first | exact mx_out_up z33 e_m78 (Or.inr (Or.inr (Or.inr (Or.inr (Or.inr ⟨rfl, rfl⟩))))) | exact mx_out_ul z33 e_m78 (Or.inr (Or.inr (Or.inr (Or.inr (Or.inr ⟨rfl, rfl⟩))))) | exact mx_out_cp z33 e_m78 (fun j => (Or.inr (Or.inr (Or.inr (Or.inr (Or.inr ⟨rfl, rfl⟩)))))) | exact mx_out_cl z33 e_m78 (fun j => (Or.inr (Or.inr (Or.inr (Or.inr (Or.inr ⟨rfl, rfl⟩))))))
                      obtain ⟨m79, e_m79, h⟩ := mx_letE h
                      have z35 : mx_out (WSX12_go a) m m79 := by first | exact mx_out_up z34 e_m79 (Or.inr (Or.inl ⟨rfl, rfl⟩)) | exact mx_out_ul z34 e_m79 (Or.inr (Or.inl ⟨rfl, rfl⟩)) | exact mx_out_cp z34 e_m79 (fun j => (Or.inr (Or.inl ⟨rfl, rfl⟩))) | exact mx_out_cl z34 e_m79 (fun j => (Or.inr (Or.inl ⟨rfl, rfl⟩)))
                      obtain rfl := Option.some.inj h
                      exact z35
        · rw [if_neg hc66z] at h
          exact z_k18 h z17
      · rw [if_neg hc16z] at h
        exact z_k18 h z17
    · rw [if_neg hc12z] at h
      obtain ⟨m80, e_m80, h⟩ := mx_letE h
      have z36 : mx_out (WSX12_go a) m m80 := by first | exact mx_out_up z17 e_m80 (Or.inr (Or.inr (Or.inr (Or.inl ⟨rfl, rfl⟩)))) | exact mx_out_ul z17 e_m80 (Or.inr (Or.inr (Or.inr (Or.inl ⟨rfl, rfl⟩)))) | exact mx_out_cp z17 e_m80 (fun j => (Or.inr (Or.inr (Or.inr (Or.inl ⟨rfl, rfl⟩))))) | exact mx_out_cl z17 e_m80 (fun j => (Or.inr (Or.inr (Or.inr (Or.inl ⟨rfl, rfl⟩)))))
      obtain rfl := Option.some.inj h
      exact z36
  by_cases hc9z : (m8.1 a 3) ≤ (m8.1 a 4)
  · rw [if_pos hc9z] at h
    exact z_k11 h z16
  · rw [if_neg hc9z] at h
    by_cases hc81z : (m8.1 a 6) < (m8.1 a 4)
    · rw [if_pos hc81z] at h
      exact z_k11 h z16
    · rw [if_neg hc81z] at h
      obtain ⟨m82, e_m82, h⟩ := mx_letE h
      have z37 : mx_out (WSX12_go a) m m82 := by first | exact mx_out_up z16 e_m82 (Or.inr (Or.inr (Or.inl ⟨rfl, rfl⟩))) | exact mx_out_ul z16 e_m82 (Or.inr (Or.inr (Or.inl ⟨rfl, rfl⟩))) | exact mx_out_cp z16 e_m82 (fun j => (Or.inr (Or.inr (Or.inl ⟨rfl, rfl⟩)))) | exact mx_out_cl z16 e_m82 (fun j => (Or.inr (Or.inr (Or.inl ⟨rfl, rfl⟩))))
      obtain ⟨m83, e_m83, h⟩ := mx_letE h
      have z38 : mx_out (WSX12_go a) m m83 := by first | exact mx_out_up z37 e_m83 (Or.inr (Or.inr (Or.inr (Or.inl ⟨rfl, rfl⟩)))) | exact mx_out_ul z37 e_m83 (Or.inr (Or.inr (Or.inr (Or.inl ⟨rfl, rfl⟩)))) | exact mx_out_cp z37 e_m83 (fun j => (Or.inr (Or.inr (Or.inr (Or.inl ⟨rfl, rfl⟩))))) | exact mx_out_cl z37 e_m83 (fun j => (Or.inr (Or.inr (Or.inr (Or.inl ⟨rfl, rfl⟩)))))
      obtain rfl := Option.some.inj h
      exact z38
set_option maxRecDepth 20000 in
theorem ZX12_bad {a : Nat} {x0 : Int32} {m : mB} {r : (Int32 × mB)} (h : FX12_bad a x0 m = some r) : mx_out (WSX12_bad a) m r.2 := by
  unfold FX12_bad at h
  have z0 : mx_out (WSX12_bad a) m m := mx_out.rf
  by_cases hc1z : (m.1 a 7) = 1
  · rw [if_pos hc1z] at h
    obtain ⟨m4, e_m4, h⟩ := mx_letE h
    have z1 : mx_out (WSX12_bad a) m m4 := by first | exact mx_out_up z0 e_m4 (Or.inl ⟨rfl, rfl⟩) | exact mx_out_ul z0 e_m4 (Or.inl ⟨rfl, rfl⟩) | exact mx_out_cp z0 e_m4 (fun j => (Or.inl ⟨rfl, rfl⟩)) | exact mx_out_cl z0 e_m4 (fun j => (Or.inl ⟨rfl, rfl⟩))
    obtain ⟨m5, e_m5, h⟩ := mx_letE h
    have z2 : mx_out (WSX12_bad a) m m5 := by first | exact mx_out_up z1 e_m5 (Or.inr ⟨rfl, rfl⟩) | exact mx_out_ul z1 e_m5 (Or.inr ⟨rfl, rfl⟩) | exact mx_out_cp z1 e_m5 (fun j => (Or.inr ⟨rfl, rfl⟩)) | exact mx_out_cl z1 e_m5 (fun j => (Or.inr ⟨rfl, rfl⟩))
    obtain rfl := Option.some.inj h
    exact z2
  · rw [if_neg hc1z] at h
    obtain ⟨m2, e_m2, h⟩ := mx_letE h
    have z3 : mx_out (WSX12_bad a) m m2 := by first | exact mx_out_up z0 e_m2 (Or.inl ⟨rfl, rfl⟩) | exact mx_out_ul z0 e_m2 (Or.inl ⟨rfl, rfl⟩) | exact mx_out_cp z0 e_m2 (fun j => (Or.inl ⟨rfl, rfl⟩)) | exact mx_out_cl z0 e_m2 (fun j => (Or.inl ⟨rfl, rfl⟩))
    obtain ⟨m3, e_m3, h⟩ := mx_letE h
    have z4 : mx_out (WSX12_bad a) m m3 := by first | exact mx_out_up z3 e_m3 (Or.inr ⟨rfl, rfl⟩) | exact mx_out_ul z3 e_m3 (Or.inr ⟨rfl, rfl⟩) | exact mx_out_cp z3 e_m3 (fun j => (Or.inr ⟨rfl, rfl⟩)) | exact mx_out_cl z3 e_m3 (fun j => (Or.inr ⟨rfl, rfl⟩))
    obtain rfl := Option.some.inj h
    exact z4
set_option maxRecDepth 20000 in
theorem ZX12_readNumber {a : Nat} {x0 : Int32} {x1 : Int32} {m : mB} {r : (Int32 × mB)} (h : FX12_readNumber a x0 x1 m = some r) : mx_out (WSX12_readNumber a) m r.2 := by
  unfold FX12_readNumber at h
  have z0 : mx_out (WSX12_readNumber a) m m := mx_out.rf
  by_cases hc1z : (m.1 a 7) = 3
  · rw [if_pos hc1z] at h
    obtain ⟨r2, h_r2, h⟩ := Option.bind_eq_some_iff.mp h
    by_cases hc3z : r2 = 0
    · rw [if_pos hc3z] at h
      obtain ⟨r6, h_r6, h⟩ := Option.bind_eq_some_iff.mp h
      have z1 : mx_out (WSX12_readNumber a) m r6.2 := mx_out.tr z0 (mx_out.sub (ZX12_bad h_r6) (fun b j hb => (Or.elim hb (fun h0 => (Or.inl h0)) (fun g0 => (Or.inr (Or.inl g0))))))
      obtain ⟨-, h⟩ := mx_chkE h
      obtain rfl := Option.some.inj h
      exact z1
    · rw [if_neg hc3z] at h
      obtain ⟨m4, e_m4, h⟩ := mx_letE h
      have z2 : mx_out (WSX12_readNumber a) m m4 := by first | exact mx_out_up z0 e_m4 (Or.inr (Or.inr (Or.inr (Or.inl ⟨rfl, rfl⟩)))) | exact mx_out_ul z0 e_m4 (Or.inr (Or.inr (Or.inr (Or.inl ⟨rfl, rfl⟩)))) | exact mx_out_cp z0 e_m4 (fun j => (Or.inr (Or.inr (Or.inr (Or.inl ⟨rfl, rfl⟩))))) | exact mx_out_cl z0 e_m4 (fun j => (Or.inr (Or.inr (Or.inr (Or.inl ⟨rfl, rfl⟩)))))
      obtain ⟨r5, h_r5, h⟩ := Option.bind_eq_some_iff.mp h
      have z3 : mx_out (WSX12_readNumber a) m r5 := mx_out.tr z2 (mx_out.sub (ZX12_go h_r5) (fun b j hb => (Or.elim hb (fun h0 => (Or.inr (Or.inr (Or.inl h0)))) (fun g0 => (Or.elim g0 (fun h1 => (Or.inr (Or.inr (Or.inr (Or.inr (Or.inl h1)))))) (fun g1 => (Or.elim g1 (fun h2 => (Or.inr (Or.inr (Or.inr (Or.inr (Or.inr (Or.inl h2))))))) (fun g2 => (Or.elim g2 (fun h3 => (Or.inr (Or.inr (Or.inr (Or.inr (Or.inr (Or.inr (Or.inl h3)))))))) (fun g3 => (Or.elim g3 (fun h4 => (Or.inr (Or.inr (Or.inr (Or.inr (Or.inr (Or.inr (Or.inr (Or.inl h4))))))))) (fun g4 => (Or.inr (Or.inr (Or.inr (Or.inr (Or.inr (Or.inr (Or.inr (Or.inr g4))))))))))))))))))))
      obtain rfl := Option.some.inj h
      exact z3
  · rw [if_neg hc1z] at h
    obtain ⟨r8, h_r8, h⟩ := Option.bind_eq_some_iff.mp h
    have z4 : mx_out (WSX12_readNumber a) m r8.2 := mx_out.tr z0 (mx_out.sub (ZX12_bad h_r8) (fun b j hb => (Or.elim hb (fun h0 => (Or.inl h0)) (fun g0 => (Or.inr (Or.inl g0))))))
    obtain ⟨-, h⟩ := mx_chkE h
    obtain rfl := Option.some.inj h
    exact z4
set_option maxRecDepth 20000 in
theorem ZX12_readEnd {a : Nat} {m : mB} {r : (Int32 × mB)} (h : FX12_readEnd a m = some r) : mx_out (WSX12_readEnd a) m r.2 := by
  unfold FX12_readEnd at h
  have z0 : mx_out (WSX12_readEnd a) m m := mx_out.rf
  obtain ⟨r1, h_r1, h⟩ := Option.bind_eq_some_iff.mp h
  by_cases hc2z : r1 = 0
  · rw [if_pos hc2z] at h
    obtain ⟨r4, h_r4, h⟩ := Option.bind_eq_some_iff.mp h
    have z1 : mx_out (WSX12_readEnd a) m r4.2 := mx_out.tr z0 (mx_out.sub (ZX12_bad h_r4) (fun b j hb => (Or.elim hb (fun h0 => (Or.inl h0)) (fun g0 => (Or.inr (Or.inl g0))))))
    obtain ⟨-, h⟩ := mx_chkE h
    obtain rfl := Option.some.inj h
    exact z1
  · rw [if_neg hc2z] at h
    obtain ⟨r3, h_r3, h⟩ := Option.bind_eq_some_iff.mp h
    have z2 : mx_out (WSX12_readEnd a) m r3 := mx_out.tr z0 (mx_out.sub (ZX12_go h_r3) (fun b j hb => (Or.elim hb (fun h0 => (Or.inr (Or.inr (Or.inl h0)))) (fun g0 => (Or.elim g0 (fun h1 => (Or.inr (Or.inr (Or.inr (Or.inl h1))))) (fun g1 => (Or.elim g1 (fun h2 => (Or.inr (Or.inr (Or.inr (Or.inr (Or.inl h2)))))) (fun g2 => (Or.elim g2 (fun h3 => (Or.inr (Or.inr (Or.inr (Or.inr (Or.inr (Or.inl h3))))))) (fun g3 => (Or.elim g3 (fun h4 => (Or.inr (Or.inr (Or.inr (Or.inr (Or.inr (Or.inr (Or.inl h4)))))))) (fun g4 => (Or.inr (Or.inr (Or.inr (Or.inr (Or.inr (Or.inr (Or.inr g4)))))))))))))))))))
    obtain rfl := Option.some.inj h
    exact z2
set_option maxRecDepth 20000 in
theorem ZX12_begin {a : Nat} {x0 : Int32} {m : mB} {r : mB} (h : FX12_begin a x0 m = some r) : mx_out (WSX12_begin a) m r := by
  unfold FX12_begin at h
  have z0 : mx_out (WSX12_begin a) m m := mx_out.rf
  obtain ⟨m1, e_m1, h⟩ := mx_letE h
  have z1 : mx_out (WSX12_begin a) m m1 := by first | exact mx_out_up z0 e_m1 (Or.inl ⟨rfl, rfl⟩) | exact mx_out_ul z0 e_m1 (Or.inl ⟨rfl, rfl⟩) | exact mx_out_cp z0 e_m1 (fun j => (Or.inl ⟨rfl, rfl⟩)) | exact mx_out_cl z0 e_m1 (fun j => (Or.inl ⟨rfl, rfl⟩))
  obtain ⟨r2, h_r2, h⟩ := Option.bind_eq_some_iff.mp h
  have z2 : mx_out (WSX12_begin a) m r2.2 := mx_out.tr z1 (mx_out.sub (ZX12_take h_r2) (fun b j hb => (Or.inr (Or.inr (Or.inr (Or.inl hb))))))
  obtain ⟨m3, e_m3, h⟩ := mx_letE h
  have z3 : mx_out (WSX12_begin a) m m3 := by first | exact mx_out_up z2 e_m3 (Or.inr (Or.inr (Or.inr (Or.inr (Or.inl ⟨rfl, rfl⟩))))) | exact mx_out_ul z2 e_m3 (Or.inr (Or.inr (Or.inr (Or.inr (Or.inl ⟨rfl, rfl⟩))))) | exact mx_out_cp z2 e_m3 (fun j => (Or.inr (Or.inr (Or.inr (Or.inr (Or.inl ⟨rfl, rfl⟩)))))) | exact mx_out_cl z2 e_m3 (fun j => (Or.inr (Or.inr (Or.inr (Or.inr (Or.inl ⟨rfl, rfl⟩))))))
  obtain ⟨m4, e_m4, h⟩ := mx_letE h
  have z4 : mx_out (WSX12_begin a) m m4 := by first | exact mx_out_up z3 e_m4 (Or.inr (Or.inr (Or.inr (Or.inr (Or.inr (Or.inl ⟨rfl, rfl⟩)))))) | exact mx_out_ul z3 e_m4 (Or.inr (Or.inr (Or.inr (Or.inr (Or.inr (Or.inl ⟨rfl, rfl⟩)))))) | exact mx_out_cp z3 e_m4 (fun j => (Or.inr (Or.inr (Or.inr (Or.inr (Or.inr (Or.inl ⟨rfl, rfl⟩))))))) | exact mx_out_cl z3 e_m4 (fun j => (Or.inr (Or.inr (Or.inr (Or.inr (Or.inr (Or.inl ⟨rfl, rfl⟩)))))))
  obtain ⟨m5, e_m5, h⟩ := mx_letE h
  have z5 : mx_out (WSX12_begin a) m m5 := by first | exact mx_out_up z4 e_m5 (Or.inr (Or.inl ⟨rfl, rfl⟩)) | exact mx_out_ul z4 e_m5 (Or.inr (Or.inl ⟨rfl, rfl⟩)) | exact mx_out_cp z4 e_m5 (fun j => (Or.inr (Or.inl ⟨rfl, rfl⟩))) | exact mx_out_cl z4 e_m5 (fun j => (Or.inr (Or.inl ⟨rfl, rfl⟩)))
  obtain ⟨m6, e_m6, h⟩ := mx_letE h
  have z6 : mx_out (WSX12_begin a) m m6 := by first | exact mx_out_up z5 e_m6 (Or.inr (Or.inr (Or.inr (Or.inr (Or.inr (Or.inr (Or.inl ⟨rfl, rfl⟩))))))) | exact mx_out_ul z5 e_m6 (Or.inr (Or.inr (Or.inr (Or.inr (Or.inr (Or.inr (Or.inl ⟨rfl, rfl⟩))))))) | exact mx_out_cp z5 e_m6 (fun j => (Or.inr (Or.inr (Or.inr (Or.inr (Or.inr (Or.inr (Or.inl ⟨rfl, rfl⟩)))))))) | exact mx_out_cl z5 e_m6 (fun j => (Or.inr (Or.inr (Or.inr (Or.inr (Or.inr (Or.inr (Or.inl ⟨rfl, rfl⟩))))))))
  obtain ⟨r7, h_r7, h⟩ := Option.bind_eq_some_iff.mp h
  have z7 : mx_out (WSX12_begin a) m r7 := mx_out.tr z6 (mx_out.sub (ZX12_go h_r7) (fun b j hb => (Or.elim hb (fun h0 => (Or.inr (Or.inr (Or.inl h0)))) (fun g0 => (Or.elim g0 (fun h1 => (Or.inr (Or.inr (Or.inr (Or.inr (Or.inr (Or.inr (Or.inl h1)))))))) (fun g1 => (Or.elim g1 (fun h2 => (Or.inr (Or.inr (Or.inr (Or.inr (Or.inr (Or.inr (Or.inr (Or.inl h2))))))))) (fun g2 => (Or.elim g2 (fun h3 => (Or.inr (Or.inr (Or.inr (Or.inr (Or.inr (Or.inr (Or.inr (Or.inr (Or.inl h3)))))))))) (fun g3 => (Or.elim g3 (fun h4 => (Or.inr (Or.inr (Or.inr (Or.inr (Or.inr (Or.inr (Or.inr (Or.inr (Or.inr (Or.inl h4))))))))))) (fun g4 => (Or.inr (Or.inr (Or.inr (Or.inr (Or.inr (Or.inr (Or.inr (Or.inr (Or.inr (Or.inr g4))))))))))))))))))))))
  obtain rfl := Option.some.inj h
  exact z7
set_option maxRecDepth 20000 in
theorem ZX12_startSo_L3 {q0 : Nat} : ∀ (f : Nat) {y1 : Int32} {m : mB} {q : (mB)}, FX12_startSo_L3 q0 f y1 m = some q → mx_out (WSX12_startSo_L3 q0) m q := by
  intro f
  induction f with
  | zero => intro _ _ _ h; cases h
  | succ f ih =>
    intro y1 m q h
    rw [FX12_startSo_L3] at h
    have z0 : mx_out (WSX12_startSo_L3 q0) m m := mx_out.rf
    by_cases hc1z : 432 ≤ y1
    · rw [if_pos hc1z] at h
      obtain rfl := Option.some.inj h
      exact z0
    · rw [if_neg hc1z] at h
      obtain ⟨-, h⟩ := mx_chkE h
      obtain ⟨m2, e_m2, h⟩ := mx_letE h
      have z1 : mx_out (WSX12_startSo_L3 q0) m m2 := by first | exact mx_out_up z0 e_m2 rfl | exact mx_out_ul z0 e_m2 rfl | exact mx_out_cp z0 e_m2 (fun j => rfl) | exact mx_out_cl z0 e_m2 (fun j => rfl)
      obtain ⟨v4, -, h⟩ := mx_letE h
      exact mx_out.tr z1 (ih h)
set_option maxRecDepth 20000 in
theorem ZX12_startSo_L38 {q0 : Nat} : ∀ (f : Nat) {y1 : Int32} {m : mB} {q : (mB)}, FX12_startSo_L38 q0 f y1 m = some q → mx_out (WSX12_startSo_L38 q0) m q := by
  intro f
  induction f with
  | zero => intro _ _ _ h; cases h
  | succ f ih =>
    intro y1 m q h
    rw [FX12_startSo_L38] at h
    have z0 : mx_out (WSX12_startSo_L38 q0) m m := mx_out.rf
    by_cases hc7z : 30 ≤ y1
    · rw [if_pos hc7z] at h
      obtain rfl := Option.some.inj h
      exact z0
    · rw [if_neg hc7z] at h
      obtain ⟨-, h⟩ := mx_chkE h
      obtain ⟨-, h⟩ := mx_chkE h
      obtain ⟨m9, e_m9, h⟩ := mx_letE h
      have z2 : mx_out (WSX12_startSo_L38 q0) m m9 := by first | exact mx_out_up z0 e_m9 rfl | exact mx_out_ul z0 e_m9 rfl | exact mx_out_cp z0 e_m9 (fun j => rfl) | exact mx_out_cl z0 e_m9 (fun j => rfl)
      obtain ⟨v11, -, h⟩ := mx_letE h
      exact mx_out.tr z2 (ih h)
set_option maxRecDepth 20000 in
theorem ZX12_startSo_L71 {q0 : Nat} : ∀ (f : Nat) {y1 : Int32} {m : mB} {q : (mB)}, FX12_startSo_L71 q0 f y1 m = some q → mx_out (WSX12_startSo_L71 q0) m q := by
  intro f
  induction f with
  | zero => intro _ _ _ h; cases h
  | succ f ih =>
    intro y1 m q h
    rw [FX12_startSo_L71] at h
    have z0 : mx_out (WSX12_startSo_L71 q0) m m := mx_out.rf
    by_cases hc13z : 10 ≤ y1
    · rw [if_pos hc13z] at h
      obtain rfl := Option.some.inj h
      exact z0
    · rw [if_neg hc13z] at h
      obtain ⟨-, h⟩ := mx_chkE h
      obtain ⟨-, h⟩ := mx_chkE h
      obtain ⟨m15, e_m15, h⟩ := mx_letE h
      have z3 : mx_out (WSX12_startSo_L71 q0) m m15 := by first | exact mx_out_up z0 e_m15 rfl | exact mx_out_ul z0 e_m15 rfl | exact mx_out_cp z0 e_m15 (fun j => rfl) | exact mx_out_cl z0 e_m15 (fun j => rfl)
      obtain ⟨-, h⟩ := mx_chkE h
      obtain ⟨-, h⟩ := mx_chkE h
      obtain ⟨m18, e_m18, h⟩ := mx_letE h
      have z4 : mx_out (WSX12_startSo_L71 q0) m m18 := by first | exact mx_out_up z3 e_m18 rfl | exact mx_out_ul z3 e_m18 rfl | exact mx_out_cp z3 e_m18 (fun j => rfl) | exact mx_out_cl z3 e_m18 (fun j => rfl)
      obtain ⟨v20, -, h⟩ := mx_letE h
      exact mx_out.tr z4 (ih h)
set_option maxRecDepth 20000 in
theorem ZX12_startSo_L123 {q0 : Nat} : ∀ (f : Nat) {y1 : Int32} {m : mB} {q : (mB)}, FX12_startSo_L123 q0 f y1 m = some q → mx_out (WSX12_startSo_L123 q0) m q := by
  intro f
  induction f with
  | zero => intro _ _ _ h; cases h
  | succ f ih =>
    intro y1 m q h
    rw [FX12_startSo_L123] at h
    have z0 : mx_out (WSX12_startSo_L123 q0) m m := mx_out.rf
    by_cases hc22z : 6 ≤ y1
    · rw [if_pos hc22z] at h
      obtain rfl := Option.some.inj h
      exact z0
    · rw [if_neg hc22z] at h
      obtain ⟨-, h⟩ := mx_chkE h
      obtain ⟨-, h⟩ := mx_chkE h
      obtain ⟨m24, e_m24, h⟩ := mx_letE h
      have z5 : mx_out (WSX12_startSo_L123 q0) m m24 := by first | exact mx_out_up z0 e_m24 rfl | exact mx_out_ul z0 e_m24 rfl | exact mx_out_cp z0 e_m24 (fun j => rfl) | exact mx_out_cl z0 e_m24 (fun j => rfl)
      obtain ⟨-, h⟩ := mx_chkE h
      obtain ⟨-, h⟩ := mx_chkE h
      obtain ⟨m27, e_m27, h⟩ := mx_letE h
      have z6 : mx_out (WSX12_startSo_L123 q0) m m27 := by first | exact mx_out_up z5 e_m27 rfl | exact mx_out_ul z5 e_m27 rfl | exact mx_out_cp z5 e_m27 (fun j => rfl) | exact mx_out_cl z5 e_m27 (fun j => rfl)
      obtain ⟨v29, -, h⟩ := mx_letE h
      exact mx_out.tr z6 (ih h)
set_option maxRecDepth 20000 in
theorem ZX12_startSo {a : Nat} {m : mB} {r : mB} (h : FX12_startSo a m = some r) : mx_out (WSX12_startSo a) m r := by
  unfold FX12_startSo at h
  have z0 : mx_out (WSX12_startSo a) m m := mx_out.rf
  obtain ⟨q5, h_q5, h⟩ := Option.bind_eq_some_iff.mp h
  have z7 := mx_out.tr z0 (mx_out.sub (S := (WSX12_startSo a)) (ZX12_startSo_L3 mx_FU h_q5) (fun b j hb => hb))
  obtain ⟨m6, e_m6, h⟩ := mx_letE h
  have z8 : mx_out (WSX12_startSo a) m m6 := by first | exact mx_out_up z7 e_m6 rfl | exact mx_out_ul z7 e_m6 rfl | exact mx_out_cp z7 e_m6 (fun j => rfl) | exact mx_out_cl z7 e_m6 (fun j => rfl)
  obtain ⟨q12, h_q12, h⟩ := Option.bind_eq_some_iff.mp h
  have z9 := mx_out.tr z8 (mx_out.sub (S := (WSX12_startSo a)) (ZX12_startSo_L38 mx_FU h_q12) (fun b j hb => hb))
  obtain ⟨q21, h_q21, h⟩ := Option.bind_eq_some_iff.mp h
  have z10 := mx_out.tr z9 (mx_out.sub (S := (WSX12_startSo a)) (ZX12_startSo_L71 mx_FU h_q21) (fun b j hb => hb))
  obtain ⟨q30, h_q30, h⟩ := Option.bind_eq_some_iff.mp h
  have z11 := mx_out.tr z10 (mx_out.sub (S := (WSX12_startSo a)) (ZX12_startSo_L123 mx_FU h_q30) (fun b j hb => hb))
  obtain rfl := Option.some.inj h
  exact z11
set_option maxRecDepth 20000 in
theorem ZX12_readFirst {a : Nat} {x0 : Int32} {x1 : Int32} {m : mB} {r : (Int32 × mB)} (h : FX12_readFirst a x0 x1 m = some r) : mx_out (WSX12_readFirst a) m r.2 := by
  unfold FX12_readFirst at h
  have z0 : mx_out (WSX12_readFirst a) m m := mx_out.rf
  obtain ⟨-, h⟩ := mx_chkE h
  by_cases hc2z : (m.1 (a + 3) (Int32.toNatClampNeg x0)) = x1
  · rw [if_pos hc2z] at h
    obtain ⟨r4, h_r4, h⟩ := Option.bind_eq_some_iff.mp h
    have z1 : mx_out (WSX12_readFirst a) m r4.2 := mx_out.tr z0 (mx_out.sub (ZX12_bad h_r4) (fun b j hb => (Or.elim hb (fun h0 => (Or.inl h0)) (fun g0 => (Or.inr (Or.inl g0))))))
    obtain ⟨-, h⟩ := mx_chkE h
    obtain rfl := Option.some.inj h
    exact z1
  · rw [if_neg hc2z] at h
    obtain ⟨r3, h_r3, h⟩ := Option.bind_eq_some_iff.mp h
    have z2 : mx_out (WSX12_readFirst a) m r3 := mx_out.tr z0 (mx_out.sub (ZX12_go h_r3) (fun b j hb => (Or.elim hb (fun h0 => (Or.inr (Or.inr (Or.inl h0)))) (fun g0 => (Or.elim g0 (fun h1 => (Or.inr (Or.inr (Or.inr (Or.inl h1))))) (fun g1 => (Or.elim g1 (fun h2 => (Or.inr (Or.inr (Or.inr (Or.inr (Or.inl h2)))))) (fun g2 => (Or.elim g2 (fun h3 => (Or.inr (Or.inr (Or.inr (Or.inr (Or.inr (Or.inl h3))))))) (fun g3 => (Or.elim g3 (fun h4 => (Or.inr (Or.inr (Or.inr (Or.inr (Or.inr (Or.inr (Or.inl h4)))))))) (fun g4 => (Or.inr (Or.inr (Or.inr (Or.inr (Or.inr (Or.inr (Or.inr g4)))))))))))))))))))
    obtain rfl := Option.some.inj h
    exact z2
set_option maxRecDepth 20000 in
theorem ZX12_noted {a : Nat} {x0 : Int32} {x1 : Int32} {m : mB} {r : (Int32 × mB)} (h : FX12_noted a x0 x1 m = some r) : mx_out (WSX12_noted a) m r.2 := by
  unfold FX12_noted at h
  have z0 : mx_out (WSX12_noted a) m m := mx_out.rf
  by_cases hc1z : x1 = 0
  · rw [if_pos hc1z] at h
    obtain ⟨-, h⟩ := mx_chkE h
    obtain rfl := Option.some.inj h
    exact z0
  · rw [if_neg hc1z] at h
    obtain ⟨-, h⟩ := mx_chkE h
    obtain ⟨m3, e_m3, h⟩ := mx_letE h
    have z1 : mx_out (WSX12_noted a) m m3 := by first | exact mx_out_up z0 e_m3 rfl | exact mx_out_ul z0 e_m3 rfl | exact mx_out_cp z0 e_m3 (fun j => rfl) | exact mx_out_cl z0 e_m3 (fun j => rfl)
    obtain ⟨-, h⟩ := mx_chkE h
    obtain rfl := Option.some.inj h
    exact z1
set_option maxRecDepth 20000 in
theorem ZX12_readPoint {a : Nat} {m : mB} {r : (Int32 × mB)} (h : FX12_readPoint a m = some r) : mx_out (WSX12_readPoint a) m r.2 := by
  unfold FX12_readPoint at h
  have z0 : mx_out (WSX12_readPoint a) m m := mx_out.rf
  obtain ⟨r1, h_r1, h⟩ := Option.bind_eq_some_iff.mp h
  have z1 : mx_out (WSX12_readPoint a) m r1.2 := mx_out.tr z0 (mx_out.sub (ZX12_readFirst h_r1) (fun b j hb => (Or.elim hb (fun h0 => (Or.inl h0)) (fun g0 => (Or.elim g0 (fun h1 => (Or.inr (Or.inl h1))) (fun g1 => (Or.elim g1 (fun h2 => (Or.inr (Or.inr (Or.inl h2)))) (fun g2 => (Or.elim g2 (fun h3 => (Or.inr (Or.inr (Or.inr (Or.inl h3))))) (fun g3 => (Or.elim g3 (fun h4 => (Or.inr (Or.inr (Or.inr (Or.inr (Or.inl h4)))))) (fun g4 => (Or.elim g4 (fun h5 => (Or.inr (Or.inr (Or.inr (Or.inr (Or.inr (Or.inl h5))))))) (fun g5 => (Or.elim g5 (fun h6 => (Or.inr (Or.inr (Or.inr (Or.inr (Or.inr (Or.inr (Or.inl h6)))))))) (fun g6 => (Or.inr (Or.inr (Or.inr (Or.inr (Or.inr (Or.inr (Or.inr (Or.inl g6))))))))))))))))))))))))
  by_cases hc2z : r1.1 = 0
  · rw [if_pos hc2z] at h
    obtain rfl := Option.some.inj h
    exact z1
  · rw [if_neg hc2z] at h
    obtain ⟨r3, h_r3, h⟩ := Option.bind_eq_some_iff.mp h
    by_cases hc4z : r3 = 0
    · rw [if_pos hc4z] at h
      obtain ⟨r13, h_r13, h⟩ := Option.bind_eq_some_iff.mp h
      have z2 : mx_out (WSX12_readPoint a) m r13.2 := mx_out.tr z1 (mx_out.sub (ZX12_bad h_r13) (fun b j hb => (Or.elim hb (fun h0 => (Or.inl h0)) (fun g0 => (Or.inr (Or.inl g0))))))
      obtain ⟨-, h⟩ := mx_chkE h
      obtain rfl := Option.some.inj h
      exact z2
    · rw [if_neg hc4z] at h
      obtain ⟨r5, h_r5, h⟩ := Option.bind_eq_some_iff.mp h
      by_cases hc6z : r5 = (-1)
      · rw [if_pos hc6z] at h
        obtain ⟨-, h⟩ := mx_chkE h
        obtain ⟨m7, e_m7, h⟩ := mx_letE h
        have z3 : mx_out (WSX12_readPoint a) m m7 := by first | exact mx_out_up z1 e_m7 (Or.inr (Or.inr (Or.inr (Or.inr (Or.inr (Or.inr (Or.inr (Or.inr (Or.inr rfl))))))))) | exact mx_out_ul z1 e_m7 (Or.inr (Or.inr (Or.inr (Or.inr (Or.inr (Or.inr (Or.inr (Or.inr (Or.inr rfl))))))))) | exact mx_out_cp z1 e_m7 (fun j => (Or.inr (Or.inr (Or.inr (Or.inr (Or.inr (Or.inr (Or.inr (Or.inr (Or.inr rfl)))))))))) | exact mx_out_cl z1 e_m7 (fun j => (Or.inr (Or.inr (Or.inr (Or.inr (Or.inr (Or.inr (Or.inr (Or.inr (Or.inr rfl))))))))))
        obtain ⟨m9, e_m9, h⟩ := mx_letE h
        have z4 : mx_out (WSX12_readPoint a) m m9 := by first | exact mx_out_up z3 e_m9 (Or.inr (Or.inr (Or.inr (Or.inr (Or.inr (Or.inr (Or.inr (Or.inr (Or.inl rfl))))))))) | exact mx_out_ul z3 e_m9 (Or.inr (Or.inr (Or.inr (Or.inr (Or.inr (Or.inr (Or.inr (Or.inr (Or.inl rfl))))))))) | exact mx_out_cp z3 e_m9 (fun j => (Or.inr (Or.inr (Or.inr (Or.inr (Or.inr (Or.inr (Or.inr (Or.inr (Or.inl rfl)))))))))) | exact mx_out_cl z3 e_m9 (fun j => (Or.inr (Or.inr (Or.inr (Or.inr (Or.inr (Or.inr (Or.inr (Or.inr (Or.inl rfl))))))))))
        obtain ⟨r10, h_r10, h⟩ := Option.bind_eq_some_iff.mp h
        have z5 : mx_out (WSX12_readPoint a) m r10 := mx_out.tr z4 (mx_out.sub (ZX12_go h_r10) (fun b j hb => (Or.elim hb (fun h0 => (Or.inr (Or.inr (Or.inl h0)))) (fun g0 => (Or.elim g0 (fun h1 => (Or.inr (Or.inr (Or.inr (Or.inl h1))))) (fun g1 => (Or.elim g1 (fun h2 => (Or.inr (Or.inr (Or.inr (Or.inr (Or.inl h2)))))) (fun g2 => (Or.elim g2 (fun h3 => (Or.inr (Or.inr (Or.inr (Or.inr (Or.inr (Or.inl h3))))))) (fun g3 => (Or.elim g3 (fun h4 => (Or.inr (Or.inr (Or.inr (Or.inr (Or.inr (Or.inr (Or.inl h4)))))))) (fun g4 => (Or.inr (Or.inr (Or.inr (Or.inr (Or.inr (Or.inr (Or.inr (Or.inl g4))))))))))))))))))))
        obtain rfl := Option.some.inj h
        exact z5
      · rw [if_neg hc6z] at h
        obtain ⟨r11, h_r11, h⟩ := Option.bind_eq_some_iff.mp h
        have z6 : mx_out (WSX12_readPoint a) m r11.2 := mx_out.tr z1 (mx_out.sub (ZX12_bad h_r11) (fun b j hb => (Or.elim hb (fun h0 => (Or.inl h0)) (fun g0 => (Or.inr (Or.inl g0))))))
        obtain ⟨-, h⟩ := mx_chkE h
        obtain rfl := Option.some.inj h
        exact z6
set_option maxRecDepth 20000 in
theorem ZX12_isHere {a : Nat} {m : mB} {r : (Int32 × mB)} (h : FX12_isHere a m = some r) : mx_out (WSX12_isHere a) m r.2 := by
  unfold FX12_isHere at h
  have z0 : mx_out (WSX12_isHere a) m m := mx_out.rf
  obtain ⟨r1, h_r1, h⟩ := Option.bind_eq_some_iff.mp h
  by_cases hc2z : r1 = 0
  · rw [if_pos hc2z] at h
    obtain ⟨r8, h_r8, h⟩ := Option.bind_eq_some_iff.mp h
    have z1 : mx_out (WSX12_isHere a) m r8.2 := mx_out.tr z0 (mx_out.sub (ZX12_bad h_r8) (fun b j hb => (Or.elim hb (fun h0 => (Or.inl h0)) (fun g0 => (Or.inr (Or.inl g0))))))
    obtain ⟨-, h⟩ := mx_chkE h
    obtain rfl := Option.some.inj h
    exact z1
  · rw [if_neg hc2z] at h
    obtain ⟨r3, h_r3, h⟩ := Option.bind_eq_some_iff.mp h
    obtain ⟨m4, e_m4, h⟩ := mx_letE h
    have z2 : mx_out (WSX12_isHere a) m m4 := by first | exact mx_out_up z0 e_m4 (Or.inr (Or.inr ⟨rfl, rfl⟩)) | exact mx_out_ul z0 e_m4 (Or.inr (Or.inr ⟨rfl, rfl⟩)) | exact mx_out_cp z0 e_m4 (fun j => (Or.inr (Or.inr ⟨rfl, rfl⟩))) | exact mx_out_cl z0 e_m4 (fun j => (Or.inr (Or.inr ⟨rfl, rfl⟩)))
    by_cases hc5z : (m4.1 a 13) = (-1)
    · rw [if_pos hc5z] at h
      obtain ⟨r6, h_r6, h⟩ := Option.bind_eq_some_iff.mp h
      have z3 : mx_out (WSX12_isHere a) m r6.2 := mx_out.tr z2 (mx_out.sub (ZX12_bad h_r6) (fun b j hb => (Or.elim hb (fun h0 => (Or.inl h0)) (fun g0 => (Or.inr (Or.inl g0))))))
      by_cases hc7z : r6.1 = 0
      · rw [if_pos hc7z] at h
        obtain rfl := Option.some.inj h
        exact z3
      · rw [if_neg hc7z] at h
        obtain rfl := Option.some.inj h
        exact z3
    · rw [if_neg hc5z] at h
      obtain rfl := Option.some.inj h
      exact z2
set_option maxRecDepth 20000 in
theorem ZX12_readLink {a : Nat} {m : mB} {r : (Int32 × mB)} (h : FX12_readLink a m = some r) : mx_out (WSX12_readLink a) m r.2 := by
  unfold FX12_readLink at h
  have z0 : mx_out (WSX12_readLink a) m m := mx_out.rf
  obtain ⟨r1, h_r1, h⟩ := Option.bind_eq_some_iff.mp h
  have z1 : mx_out (WSX12_readLink a) m r1.2 := mx_out.tr z0 (mx_out.sub (ZX12_readFirst h_r1) (fun b j hb => (Or.elim hb (fun h0 => (Or.inl h0)) (fun g0 => (Or.elim g0 (fun h1 => (Or.inr (Or.inl h1))) (fun g1 => (Or.elim g1 (fun h2 => (Or.inr (Or.inr (Or.inl h2)))) (fun g2 => (Or.elim g2 (fun h3 => (Or.inr (Or.inr (Or.inr (Or.inr (Or.inl h3)))))) (fun g3 => (Or.elim g3 (fun h4 => (Or.inr (Or.inr (Or.inr (Or.inr (Or.inr (Or.inl h4))))))) (fun g4 => (Or.elim g4 (fun h5 => (Or.inr (Or.inr (Or.inr (Or.inr (Or.inr (Or.inr (Or.inl h5)))))))) (fun g5 => (Or.elim g5 (fun h6 => (Or.inr (Or.inr (Or.inr (Or.inr (Or.inr (Or.inr (Or.inr (Or.inl h6))))))))) (fun g6 => (Or.inr (Or.inr (Or.inr (Or.inr (Or.inr (Or.inr (Or.inr (Or.inr (Or.inl g6)))))))))))))))))))))))))
  by_cases hc2z : r1.1 = 0
  · rw [if_pos hc2z] at h
    obtain rfl := Option.some.inj h
    exact z1
  · rw [if_neg hc2z] at h
    obtain ⟨r3, h_r3, h⟩ := Option.bind_eq_some_iff.mp h
    have z2 : mx_out (WSX12_readLink a) m r3.2 := mx_out.tr z1 (mx_out.sub (ZX12_isHere h_r3) (fun b j hb => (Or.elim hb (fun h0 => (Or.inl h0)) (fun g0 => (Or.elim g0 (fun h1 => (Or.inr (Or.inl h1))) (fun g1 => (Or.inr (Or.inr (Or.inr (Or.inl g1))))))))))
    by_cases hc4z : r3.1 = 0
    · rw [if_pos hc4z] at h
      obtain rfl := Option.some.inj h
      exact z2
    · rw [if_neg hc4z] at h
      obtain ⟨v5, -, h⟩ := mx_letE h
      obtain ⟨v6, -, h⟩ := mx_letE h
      obtain ⟨r7, h_r7, h⟩ := Option.bind_eq_some_iff.mp h
      have z3 : mx_out (WSX12_readLink a) m r7 := mx_out.tr z2 (mx_out.sub (ZX12_go h_r7) (fun b j hb => (Or.elim hb (fun h0 => (Or.inr (Or.inr (Or.inl h0)))) (fun g0 => (Or.elim g0 (fun h1 => (Or.inr (Or.inr (Or.inr (Or.inr (Or.inl h1)))))) (fun g1 => (Or.elim g1 (fun h2 => (Or.inr (Or.inr (Or.inr (Or.inr (Or.inr (Or.inl h2))))))) (fun g2 => (Or.elim g2 (fun h3 => (Or.inr (Or.inr (Or.inr (Or.inr (Or.inr (Or.inr (Or.inl h3)))))))) (fun g3 => (Or.elim g3 (fun h4 => (Or.inr (Or.inr (Or.inr (Or.inr (Or.inr (Or.inr (Or.inr (Or.inl h4))))))))) (fun g4 => (Or.inr (Or.inr (Or.inr (Or.inr (Or.inr (Or.inr (Or.inr (Or.inr (Or.inl g4)))))))))))))))))))))
      obtain ⟨r8, h_r8, h⟩ := Option.bind_eq_some_iff.mp h
      have z4 : mx_out (WSX12_readLink a) m r8.2 := mx_out.tr z3 (mx_out.sub (ZX12_isHere h_r8) (fun b j hb => (Or.elim hb (fun h0 => (Or.inl h0)) (fun g0 => (Or.elim g0 (fun h1 => (Or.inr (Or.inl h1))) (fun g1 => (Or.inr (Or.inr (Or.inr (Or.inl g1))))))))))
      by_cases hc9z : r8.1 = 0
      · rw [if_pos hc9z] at h
        obtain rfl := Option.some.inj h
        exact z4
      · rw [if_neg hc9z] at h
        by_cases hc10z : (r8.2.1 a 13) = v6
        · rw [if_pos hc10z] at h
          obtain ⟨r11, h_r11, h⟩ := Option.bind_eq_some_iff.mp h
          have z5 : mx_out (WSX12_readLink a) m r11.2 := mx_out.tr z4 (mx_out.sub (ZX12_bad h_r11) (fun b j hb => (Or.elim hb (fun h0 => (Or.inl h0)) (fun g0 => (Or.inr (Or.inl g0))))))
          obtain ⟨-, h⟩ := mx_chkE h
          obtain rfl := Option.some.inj h
          exact z5
        · rw [if_neg hc10z] at h
          obtain ⟨r13, h_r13, h⟩ := Option.bind_eq_some_iff.mp h
          by_cases hc14z : r13 = (-1)
          · rw [if_pos hc14z] at h
            obtain ⟨-, h⟩ := mx_chkE h
            obtain ⟨m15, e_m15, h⟩ := mx_letE h
            have z6 : mx_out (WSX12_readLink a) m m15 := by first | exact mx_out_up z4 e_m15 (Or.inr (Or.inr (Or.inr (Or.inr (Or.inr (Or.inr (Or.inr (Or.inr (Or.inr rfl))))))))) | exact mx_out_ul z4 e_m15 (Or.inr (Or.inr (Or.inr (Or.inr (Or.inr (Or.inr (Or.inr (Or.inr (Or.inr rfl))))))))) | exact mx_out_cp z4 e_m15 (fun j => (Or.inr (Or.inr (Or.inr (Or.inr (Or.inr (Or.inr (Or.inr (Or.inr (Or.inr rfl)))))))))) | exact mx_out_cl z4 e_m15 (fun j => (Or.inr (Or.inr (Or.inr (Or.inr (Or.inr (Or.inr (Or.inr (Or.inr (Or.inr rfl))))))))))
            obtain ⟨-, h⟩ := mx_chkE h
            obtain ⟨m17, e_m17, h⟩ := mx_letE h
            have z7 : mx_out (WSX12_readLink a) m m17 := by first | exact mx_out_up z6 e_m17 (Or.inr (Or.inr (Or.inr (Or.inr (Or.inr (Or.inr (Or.inr (Or.inr (Or.inr rfl))))))))) | exact mx_out_ul z6 e_m17 (Or.inr (Or.inr (Or.inr (Or.inr (Or.inr (Or.inr (Or.inr (Or.inr (Or.inr rfl))))))))) | exact mx_out_cp z6 e_m17 (fun j => (Or.inr (Or.inr (Or.inr (Or.inr (Or.inr (Or.inr (Or.inr (Or.inr (Or.inr rfl)))))))))) | exact mx_out_cl z6 e_m17 (fun j => (Or.inr (Or.inr (Or.inr (Or.inr (Or.inr (Or.inr (Or.inr (Or.inr (Or.inr rfl))))))))))
            obtain ⟨r19, h_r19, h⟩ := Option.bind_eq_some_iff.mp h
            have z8 : mx_out (WSX12_readLink a) m r19 := mx_out.tr z7 (mx_out.sub (ZX12_go h_r19) (fun b j hb => (Or.elim hb (fun h0 => (Or.inr (Or.inr (Or.inl h0)))) (fun g0 => (Or.elim g0 (fun h1 => (Or.inr (Or.inr (Or.inr (Or.inr (Or.inl h1)))))) (fun g1 => (Or.elim g1 (fun h2 => (Or.inr (Or.inr (Or.inr (Or.inr (Or.inr (Or.inl h2))))))) (fun g2 => (Or.elim g2 (fun h3 => (Or.inr (Or.inr (Or.inr (Or.inr (Or.inr (Or.inr (Or.inl h3)))))))) (fun g3 => (Or.elim g3 (fun h4 => (Or.inr (Or.inr (Or.inr (Or.inr (Or.inr (Or.inr (Or.inr (Or.inl h4))))))))) (fun g4 => (Or.inr (Or.inr (Or.inr (Or.inr (Or.inr (Or.inr (Or.inr (Or.inr (Or.inl g4)))))))))))))))))))))
            obtain ⟨r20, h_r20, h⟩ := Option.bind_eq_some_iff.mp h
            have z9 : mx_out (WSX12_readLink a) m r20.2 := mx_out.tr z8 (mx_out.sub (ZX12_readNumber h_r20) (fun b j hb => (Or.elim hb (fun h0 => (Or.inl h0)) (fun g0 => (Or.elim g0 (fun h1 => (Or.inr (Or.inl h1))) (fun g1 => (Or.elim g1 (fun h2 => (Or.inr (Or.inr (Or.inl h2)))) (fun g2 => (Or.elim g2 (fun h3 => (Or.inr (Or.inr (Or.inr (Or.inl h3))))) (fun g3 => (Or.elim g3 (fun h4 => (Or.inr (Or.inr (Or.inr (Or.inr (Or.inl h4)))))) (fun g4 => (Or.elim g4 (fun h5 => (Or.inr (Or.inr (Or.inr (Or.inr (Or.inr (Or.inl h5))))))) (fun g5 => (Or.elim g5 (fun h6 => (Or.inr (Or.inr (Or.inr (Or.inr (Or.inr (Or.inr (Or.inl h6)))))))) (fun g6 => (Or.elim g6 (fun h7 => (Or.inr (Or.inr (Or.inr (Or.inr (Or.inr (Or.inr (Or.inr (Or.inl h7))))))))) (fun g7 => (Or.inr (Or.inr (Or.inr (Or.inr (Or.inr (Or.inr (Or.inr (Or.inr (Or.inl g7)))))))))))))))))))))))))))
            obtain ⟨r21, h_r21, h⟩ := Option.bind_eq_some_iff.mp h
            have z10 : mx_out (WSX12_readLink a) m r21.2 := mx_out.tr z9 (mx_out.sub (ZX12_noted h_r21) (fun b j hb => (Or.inr (Or.inr (Or.inr (Or.inr (Or.inr (Or.inr (Or.inr (Or.inr (Or.inr hb)))))))))))
            by_cases hc22z : r21.1 = 0
            · rw [if_pos hc22z] at h
              obtain rfl := Option.some.inj h
              exact z10
            · rw [if_neg hc22z] at h
              obtain ⟨m23, e_m23, h⟩ := mx_letE h
              have z11 : mx_out (WSX12_readLink a) m m23 := by first | exact mx_out_up z10 e_m23 (Or.inr (Or.inr (Or.inr (Or.inr (Or.inr (Or.inr (Or.inr (Or.inr (Or.inr rfl))))))))) | exact mx_out_ul z10 e_m23 (Or.inr (Or.inr (Or.inr (Or.inr (Or.inr (Or.inr (Or.inr (Or.inr (Or.inr rfl))))))))) | exact mx_out_cp z10 e_m23 (fun j => (Or.inr (Or.inr (Or.inr (Or.inr (Or.inr (Or.inr (Or.inr (Or.inr (Or.inr rfl)))))))))) | exact mx_out_cl z10 e_m23 (fun j => (Or.inr (Or.inr (Or.inr (Or.inr (Or.inr (Or.inr (Or.inr (Or.inr (Or.inr rfl))))))))))
              obtain rfl := Option.some.inj h
              exact z11
          · rw [if_neg hc14z] at h
            obtain ⟨r24, h_r24, h⟩ := Option.bind_eq_some_iff.mp h
            have z12 : mx_out (WSX12_readLink a) m r24.2 := mx_out.tr z4 (mx_out.sub (ZX12_bad h_r24) (fun b j hb => (Or.elim hb (fun h0 => (Or.inl h0)) (fun g0 => (Or.inr (Or.inl g0))))))
            obtain ⟨-, h⟩ := mx_chkE h
            obtain rfl := Option.some.inj h
            exact z12
set_option maxRecDepth 20000 in
theorem ZX12_readPair {a : Nat} {m : mB} {r : (Int32 × mB)} (h : FX12_readPair a m = some r) : mx_out (WSX12_readPair a) m r.2 := by
  unfold FX12_readPair at h
  have z0 : mx_out (WSX12_readPair a) m m := mx_out.rf
  obtain ⟨r1, h_r1, h⟩ := Option.bind_eq_some_iff.mp h
  have z1 : mx_out (WSX12_readPair a) m r1 := mx_out.tr z0 (mx_out.sub (ZX12_go h_r1) (fun b j hb => (Or.elim hb (fun h0 => (Or.inr (Or.inr (Or.inl h0)))) (fun g0 => (Or.elim g0 (fun h1 => (Or.inr (Or.inr (Or.inr (Or.inr (Or.inl h1)))))) (fun g1 => (Or.elim g1 (fun h2 => (Or.inr (Or.inr (Or.inr (Or.inr (Or.inr (Or.inl h2))))))) (fun g2 => (Or.elim g2 (fun h3 => (Or.inr (Or.inr (Or.inr (Or.inr (Or.inr (Or.inr (Or.inl h3)))))))) (fun g3 => (Or.elim g3 (fun h4 => (Or.inr (Or.inr (Or.inr (Or.inr (Or.inr (Or.inr (Or.inr (Or.inl h4))))))))) (fun g4 => (Or.inr (Or.inr (Or.inr (Or.inr (Or.inr (Or.inr (Or.inr (Or.inr (Or.inl g4)))))))))))))))))))))
  obtain ⟨r2, h_r2, h⟩ := Option.bind_eq_some_iff.mp h
  have z2 : mx_out (WSX12_readPair a) m r2.2 := mx_out.tr z1 (mx_out.sub (ZX12_isHere h_r2) (fun b j hb => (Or.elim hb (fun h0 => (Or.inl h0)) (fun g0 => (Or.elim g0 (fun h1 => (Or.inr (Or.inl h1))) (fun g1 => (Or.inr (Or.inr (Or.inr (Or.inl g1))))))))))
  by_cases hc3z : r2.1 = 0
  · rw [if_pos hc3z] at h
    obtain rfl := Option.some.inj h
    exact z2
  · rw [if_neg hc3z] at h
    obtain ⟨v4, -, h⟩ := mx_letE h
    obtain ⟨r5, h_r5, h⟩ := Option.bind_eq_some_iff.mp h
    have z3 : mx_out (WSX12_readPair a) m r5 := mx_out.tr z2 (mx_out.sub (ZX12_go h_r5) (fun b j hb => (Or.elim hb (fun h0 => (Or.inr (Or.inr (Or.inl h0)))) (fun g0 => (Or.elim g0 (fun h1 => (Or.inr (Or.inr (Or.inr (Or.inr (Or.inl h1)))))) (fun g1 => (Or.elim g1 (fun h2 => (Or.inr (Or.inr (Or.inr (Or.inr (Or.inr (Or.inl h2))))))) (fun g2 => (Or.elim g2 (fun h3 => (Or.inr (Or.inr (Or.inr (Or.inr (Or.inr (Or.inr (Or.inl h3)))))))) (fun g3 => (Or.elim g3 (fun h4 => (Or.inr (Or.inr (Or.inr (Or.inr (Or.inr (Or.inr (Or.inr (Or.inl h4))))))))) (fun g4 => (Or.inr (Or.inr (Or.inr (Or.inr (Or.inr (Or.inr (Or.inr (Or.inr (Or.inl g4)))))))))))))))))))))
    obtain ⟨r6, h_r6, h⟩ := Option.bind_eq_some_iff.mp h
    have z4 : mx_out (WSX12_readPair a) m r6.2 := mx_out.tr z3 (mx_out.sub (ZX12_isHere h_r6) (fun b j hb => (Or.elim hb (fun h0 => (Or.inl h0)) (fun g0 => (Or.elim g0 (fun h1 => (Or.inr (Or.inl h1))) (fun g1 => (Or.inr (Or.inr (Or.inr (Or.inl g1))))))))))
    by_cases hc7z : r6.1 = 0
    · rw [if_pos hc7z] at h
      obtain rfl := Option.some.inj h
      exact z4
    · rw [if_neg hc7z] at h
      by_cases hc8z : (r6.2.1 a 13) = v4
      · rw [if_pos hc8z] at h
        obtain ⟨r9, h_r9, h⟩ := Option.bind_eq_some_iff.mp h
        have z5 : mx_out (WSX12_readPair a) m r9.2 := mx_out.tr z4 (mx_out.sub (ZX12_bad h_r9) (fun b j hb => (Or.elim hb (fun h0 => (Or.inl h0)) (fun g0 => (Or.inr (Or.inl g0))))))
        obtain ⟨-, h⟩ := mx_chkE h
        obtain rfl := Option.some.inj h
        exact z5
      · rw [if_neg hc8z] at h
        obtain ⟨r11, h_r11, h⟩ := Option.bind_eq_some_iff.mp h
        by_cases hc12z : r11 = (-1)
        · rw [if_pos hc12z] at h
          obtain ⟨r13, h_r13, h⟩ := Option.bind_eq_some_iff.mp h
          have z6 : mx_out (WSX12_readPair a) m r13.2 := mx_out.tr z4 (mx_out.sub (ZX12_bad h_r13) (fun b j hb => (Or.elim hb (fun h0 => (Or.inl h0)) (fun g0 => (Or.inr (Or.inl g0))))))
          obtain ⟨-, h⟩ := mx_chkE h
          obtain rfl := Option.some.inj h
          exact z6
        · rw [if_neg hc12z] at h
          obtain ⟨-, h⟩ := mx_chkE h
          by_cases hc16z : (r6.2.1 (a + 3) (Int32.toNatClampNeg (93 + v4))) = (-1)
          · rw [if_pos hc16z] at h
            obtain ⟨-, h⟩ := mx_chkE h
            by_cases hc20z : (r6.2.1 (a + 3) (Int32.toNatClampNeg (93 + (r6.2.1 a 13)))) = (-1)
            · rw [if_pos hc20z] at h
              obtain ⟨m21, e_m21, h⟩ := mx_letE h
              have z7 : mx_out (WSX12_readPair a) m m21 := by first | exact mx_out_up z4 e_m21 (Or.inr (Or.inr (Or.inr (Or.inr (Or.inr (Or.inr (Or.inr (Or.inr (Or.inr rfl))))))))) | exact mx_out_ul z4 e_m21 (Or.inr (Or.inr (Or.inr (Or.inr (Or.inr (Or.inr (Or.inr (Or.inr (Or.inr rfl))))))))) | exact mx_out_cp z4 e_m21 (fun j => (Or.inr (Or.inr (Or.inr (Or.inr (Or.inr (Or.inr (Or.inr (Or.inr (Or.inr rfl)))))))))) | exact mx_out_cl z4 e_m21 (fun j => (Or.inr (Or.inr (Or.inr (Or.inr (Or.inr (Or.inr (Or.inr (Or.inr (Or.inr rfl))))))))))
              obtain ⟨-, h⟩ := mx_chkE h
              obtain ⟨m22, e_m22, h⟩ := mx_letE h
              have z8 : mx_out (WSX12_readPair a) m m22 := by first | exact mx_out_up z7 e_m22 (Or.inr (Or.inr (Or.inr (Or.inr (Or.inr (Or.inr (Or.inr (Or.inr (Or.inr rfl))))))))) | exact mx_out_ul z7 e_m22 (Or.inr (Or.inr (Or.inr (Or.inr (Or.inr (Or.inr (Or.inr (Or.inr (Or.inr rfl))))))))) | exact mx_out_cp z7 e_m22 (fun j => (Or.inr (Or.inr (Or.inr (Or.inr (Or.inr (Or.inr (Or.inr (Or.inr (Or.inr rfl)))))))))) | exact mx_out_cl z7 e_m22 (fun j => (Or.inr (Or.inr (Or.inr (Or.inr (Or.inr (Or.inr (Or.inr (Or.inr (Or.inr rfl))))))))))
              obtain ⟨r24, h_r24, h⟩ := Option.bind_eq_some_iff.mp h
              have z9 : mx_out (WSX12_readPair a) m r24 := mx_out.tr z8 (mx_out.sub (ZX12_go h_r24) (fun b j hb => (Or.elim hb (fun h0 => (Or.inr (Or.inr (Or.inl h0)))) (fun g0 => (Or.elim g0 (fun h1 => (Or.inr (Or.inr (Or.inr (Or.inr (Or.inl h1)))))) (fun g1 => (Or.elim g1 (fun h2 => (Or.inr (Or.inr (Or.inr (Or.inr (Or.inr (Or.inl h2))))))) (fun g2 => (Or.elim g2 (fun h3 => (Or.inr (Or.inr (Or.inr (Or.inr (Or.inr (Or.inr (Or.inl h3)))))))) (fun g3 => (Or.elim g3 (fun h4 => (Or.inr (Or.inr (Or.inr (Or.inr (Or.inr (Or.inr (Or.inr (Or.inl h4))))))))) (fun g4 => (Or.inr (Or.inr (Or.inr (Or.inr (Or.inr (Or.inr (Or.inr (Or.inr (Or.inl g4)))))))))))))))))))))
              obtain rfl := Option.some.inj h
              exact z9
            · rw [if_neg hc20z] at h
              obtain ⟨r25, h_r25, h⟩ := Option.bind_eq_some_iff.mp h
              have z10 : mx_out (WSX12_readPair a) m r25.2 := mx_out.tr z4 (mx_out.sub (ZX12_bad h_r25) (fun b j hb => (Or.elim hb (fun h0 => (Or.inl h0)) (fun g0 => (Or.inr (Or.inl g0))))))
              obtain ⟨-, h⟩ := mx_chkE h
              obtain rfl := Option.some.inj h
              exact z10
          · rw [if_neg hc16z] at h
            obtain ⟨r17, h_r17, h⟩ := Option.bind_eq_some_iff.mp h
            have z11 : mx_out (WSX12_readPair a) m r17.2 := mx_out.tr z4 (mx_out.sub (ZX12_bad h_r17) (fun b j hb => (Or.elim hb (fun h0 => (Or.inl h0)) (fun g0 => (Or.inr (Or.inl g0))))))
            obtain ⟨-, h⟩ := mx_chkE h
            obtain rfl := Option.some.inj h
            exact z11
set_option maxRecDepth 20000 in
theorem ZX12_readPrice {a : Nat} {m : mB} {r : (Int32 × mB)} (h : FX12_readPrice a m = some r) : mx_out (WSX12_readPrice a) m r.2 := by
  unfold FX12_readPrice at h
  have z0 : mx_out (WSX12_readPrice a) m m := mx_out.rf
  obtain ⟨r1, h_r1, h⟩ := Option.bind_eq_some_iff.mp h
  have z1 : mx_out (WSX12_readPrice a) m r1 := mx_out.tr z0 (mx_out.sub (ZX12_go h_r1) (fun b j hb => (Or.elim hb (fun h0 => (Or.inr (Or.inr (Or.inl h0)))) (fun g0 => (Or.elim g0 (fun h1 => (Or.inr (Or.inr (Or.inr (Or.inr (Or.inl h1)))))) (fun g1 => (Or.elim g1 (fun h2 => (Or.inr (Or.inr (Or.inr (Or.inr (Or.inr (Or.inl h2))))))) (fun g2 => (Or.elim g2 (fun h3 => (Or.inr (Or.inr (Or.inr (Or.inr (Or.inr (Or.inr (Or.inl h3)))))))) (fun g3 => (Or.elim g3 (fun h4 => (Or.inr (Or.inr (Or.inr (Or.inr (Or.inr (Or.inr (Or.inr (Or.inl h4))))))))) (fun g4 => (Or.inr (Or.inr (Or.inr (Or.inr (Or.inr (Or.inr (Or.inr (Or.inr (Or.inl g4)))))))))))))))))))))
  obtain ⟨r2, h_r2, h⟩ := Option.bind_eq_some_iff.mp h
  have z2 : mx_out (WSX12_readPrice a) m r2.2 := mx_out.tr z1 (mx_out.sub (ZX12_isHere h_r2) (fun b j hb => (Or.elim hb (fun h0 => (Or.inl h0)) (fun g0 => (Or.elim g0 (fun h1 => (Or.inr (Or.inl h1))) (fun g1 => (Or.inr (Or.inr (Or.inr (Or.inl g1))))))))))
  by_cases hc3z : r2.1 = 0
  · rw [if_pos hc3z] at h
    obtain rfl := Option.some.inj h
    exact z2
  · rw [if_neg hc3z] at h
    obtain ⟨v4, -, h⟩ := mx_letE h
    obtain ⟨-, h⟩ := mx_chkE h
    by_cases hc6z : (r2.2.1 (a + 12) (Int32.toNatClampNeg v4)) = 0
    · rw [if_pos hc6z] at h
      obtain ⟨m7, e_m7, h⟩ := mx_letE h
      have z3 : mx_out (WSX12_readPrice a) m m7 := by first | exact mx_out_up z2 e_m7 (Or.inr (Or.inr (Or.inr (Or.inr (Or.inr (Or.inr (Or.inr (Or.inr (Or.inr (Or.inl rfl)))))))))) | exact mx_out_ul z2 e_m7 (Or.inr (Or.inr (Or.inr (Or.inr (Or.inr (Or.inr (Or.inr (Or.inr (Or.inr (Or.inl rfl)))))))))) | exact mx_out_cp z2 e_m7 (fun j => (Or.inr (Or.inr (Or.inr (Or.inr (Or.inr (Or.inr (Or.inr (Or.inr (Or.inr (Or.inl rfl))))))))))) | exact mx_out_cl z2 e_m7 (fun j => (Or.inr (Or.inr (Or.inr (Or.inr (Or.inr (Or.inr (Or.inr (Or.inr (Or.inr (Or.inl rfl)))))))))))
      obtain ⟨r8, h_r8, h⟩ := Option.bind_eq_some_iff.mp h
      have z4 : mx_out (WSX12_readPrice a) m r8 := mx_out.tr z3 (mx_out.sub (ZX12_go h_r8) (fun b j hb => (Or.elim hb (fun h0 => (Or.inr (Or.inr (Or.inl h0)))) (fun g0 => (Or.elim g0 (fun h1 => (Or.inr (Or.inr (Or.inr (Or.inr (Or.inl h1)))))) (fun g1 => (Or.elim g1 (fun h2 => (Or.inr (Or.inr (Or.inr (Or.inr (Or.inr (Or.inl h2))))))) (fun g2 => (Or.elim g2 (fun h3 => (Or.inr (Or.inr (Or.inr (Or.inr (Or.inr (Or.inr (Or.inl h3)))))))) (fun g3 => (Or.elim g3 (fun h4 => (Or.inr (Or.inr (Or.inr (Or.inr (Or.inr (Or.inr (Or.inr (Or.inl h4))))))))) (fun g4 => (Or.inr (Or.inr (Or.inr (Or.inr (Or.inr (Or.inr (Or.inr (Or.inr (Or.inl g4)))))))))))))))))))))
      obtain ⟨r9, h_r9, h⟩ := Option.bind_eq_some_iff.mp h
      have z5 : mx_out (WSX12_readPrice a) m r9.2 := mx_out.tr z4 (mx_out.sub (ZX12_readNumber h_r9) (fun b j hb => (Or.elim hb (fun h0 => (Or.inl h0)) (fun g0 => (Or.elim g0 (fun h1 => (Or.inr (Or.inl h1))) (fun g1 => (Or.elim g1 (fun h2 => (Or.inr (Or.inr (Or.inl h2)))) (fun g2 => (Or.elim g2 (fun h3 => (Or.inr (Or.inr (Or.inr (Or.inl h3))))) (fun g3 => (Or.elim g3 (fun h4 => (Or.inr (Or.inr (Or.inr (Or.inr (Or.inl h4)))))) (fun g4 => (Or.elim g4 (fun h5 => (Or.inr (Or.inr (Or.inr (Or.inr (Or.inr (Or.inl h5))))))) (fun g5 => (Or.elim g5 (fun h6 => (Or.inr (Or.inr (Or.inr (Or.inr (Or.inr (Or.inr (Or.inl h6)))))))) (fun g6 => (Or.elim g6 (fun h7 => (Or.inr (Or.inr (Or.inr (Or.inr (Or.inr (Or.inr (Or.inr (Or.inl h7))))))))) (fun g7 => (Or.inr (Or.inr (Or.inr (Or.inr (Or.inr (Or.inr (Or.inr (Or.inr (Or.inl g7)))))))))))))))))))))))))))
      obtain ⟨r10, h_r10, h⟩ := Option.bind_eq_some_iff.mp h
      have z6 : mx_out (WSX12_readPrice a) m r10.2 := mx_out.tr z5 (mx_out.sub (ZX12_noted h_r10) (fun b j hb => (Or.inr (Or.inr (Or.inr (Or.inr (Or.inr (Or.inr (Or.inr (Or.inr (Or.inr (Or.inr hb))))))))))))
      obtain ⟨-, h⟩ := mx_chkE h
      obtain rfl := Option.some.inj h
      exact z6
    · rw [if_neg hc6z] at h
      obtain ⟨r12, h_r12, h⟩ := Option.bind_eq_some_iff.mp h
      have z7 : mx_out (WSX12_readPrice a) m r12.2 := mx_out.tr z2 (mx_out.sub (ZX12_bad h_r12) (fun b j hb => (Or.elim hb (fun h0 => (Or.inl h0)) (fun g0 => (Or.inr (Or.inl g0))))))
      obtain ⟨-, h⟩ := mx_chkE h
      obtain rfl := Option.some.inj h
      exact z7
set_option maxRecDepth 20000 in
theorem ZX12_readOdd_L44 {q0 : Nat} {y1 : Int32} : ∀ (f : Nat) {y2 : Int32} {y3 : Int32} {m : mB} {q : ((Int32 × mB) ⊕ (Int32 × Int32 × mB))}, FX12_readOdd_L44 q0 y1 f y2 y3 m = some q → mx_out (WSX12_readOdd_L44 q0) m (Sum.elim (fun rr => rr.2) (fun u => u.2.2) q) := by
  intro f
  induction f with
  | zero => intro _ _ _ _ h; cases h
  | succ f ih =>
    intro y2 y3 m q h
    rw [FX12_readOdd_L44] at h
    have z0 : mx_out (WSX12_readOdd_L44 q0) m m := mx_out.rf
    refine mx_letK (J := fun k8 => k8 = some q → mx_out (WSX12_readOdd_L44 q0) m (Sum.elim (fun rr => rr.2) (fun u => u.2.2) q)) h ?_ (fun k8 z_k8 h => ?_)
    · intro h
      obtain ⟨r9, h_r9, h⟩ := Option.bind_eq_some_iff.mp h
      have z2 : mx_out (WSX12_readOdd_L44 q0) m r9.2 := mx_out.tr z0 (mx_out.sub (ZX12_isHere h_r9) (fun b j hb => (Or.elim hb (fun h0 => (Or.inl h0)) (fun g0 => (Or.elim g0 (fun h1 => (Or.inr (Or.inl h1))) (fun g1 => (Or.inr (Or.inr (Or.inr (Or.inl g1))))))))))
      by_cases hc10z : r9.1 = 0
      · rw [if_pos hc10z] at h
        obtain rfl := Option.some.inj h
        exact z2
      · rw [if_neg hc10z] at h
        obtain ⟨r11, h_r11, h⟩ := Option.bind_eq_some_iff.mp h
        by_cases hc12z : r11 = 0
        · rw [if_pos hc12z] at h
          obtain ⟨v13, -, h⟩ := mx_letE h
          obtain ⟨v14, -, h⟩ := mx_letE h
          obtain ⟨r15, h_r15, h⟩ := Option.bind_eq_some_iff.mp h
          have z3 : mx_out (WSX12_readOdd_L44 q0) m r15 := mx_out.tr z2 (mx_out.sub (ZX12_go h_r15) (fun b j hb => (Or.elim hb (fun h0 => (Or.inr (Or.inr (Or.inl h0)))) (fun g0 => (Or.elim g0 (fun h1 => (Or.inr (Or.inr (Or.inr (Or.inr (Or.inl h1)))))) (fun g1 => (Or.elim g1 (fun h2 => (Or.inr (Or.inr (Or.inr (Or.inr (Or.inr (Or.inl h2))))))) (fun g2 => (Or.elim g2 (fun h3 => (Or.inr (Or.inr (Or.inr (Or.inr (Or.inr (Or.inr (Or.inl h3)))))))) (fun g3 => (Or.elim g3 (fun h4 => (Or.inr (Or.inr (Or.inr (Or.inr (Or.inr (Or.inr (Or.inr (Or.inl h4))))))))) (fun g4 => (Or.inr (Or.inr (Or.inr (Or.inr (Or.inr (Or.inr (Or.inr (Or.inr g4))))))))))))))))))))
          exact mx_out.tr z3 (ih h)
        · rw [if_neg hc12z] at h
          obtain ⟨r16, h_r16, h⟩ := Option.bind_eq_some_iff.mp h
          have z4 : mx_out (WSX12_readOdd_L44 q0) m r16.2 := mx_out.tr z2 (mx_out.sub (ZX12_bad h_r16) (fun b j hb => (Or.elim hb (fun h0 => (Or.inl h0)) (fun g0 => (Or.inr (Or.inl g0))))))
          obtain ⟨-, h⟩ := mx_chkE h
          obtain rfl := Option.some.inj h
          exact z4
    by_cases hc7z : y3 < 3
    · rw [if_pos hc7z] at h
      exact z_k8 h
    · rw [if_neg hc7z] at h
      obtain ⟨r18, h_r18, h⟩ := Option.bind_eq_some_iff.mp h
      by_cases hc19z : r18 = 0
      · rw [if_pos hc19z] at h
        obtain rfl := Option.some.inj h
        exact z0
      · rw [if_neg hc19z] at h
        by_cases hc20z : 9 ≤ y3
        · rw [if_pos hc20z] at h
          obtain rfl := Option.some.inj h
          exact z0
        · rw [if_neg hc20z] at h
          exact z_k8 h
set_option maxRecDepth 20000 in
theorem ZX12_readOdd {a : Nat} {m : mB} {r : (Int32 × mB)} (h : FX12_readOdd a m = some r) : mx_out (WSX12_readOdd a) m r.2 := by
  unfold FX12_readOdd at h
  have z0 : mx_out (WSX12_readOdd a) m m := mx_out.rf
  obtain ⟨r1, h_r1, h⟩ := Option.bind_eq_some_iff.mp h
  have z5 : mx_out (WSX12_readOdd a) m r1.2 := mx_out.tr z0 (mx_out.sub (ZX12_readFirst h_r1) (fun b j hb => (Or.elim hb (fun h0 => (Or.inl h0)) (fun g0 => (Or.elim g0 (fun h1 => (Or.inr (Or.inl h1))) (fun g1 => (Or.elim g1 (fun h2 => (Or.inr (Or.inr (Or.inl h2)))) (fun g2 => (Or.elim g2 (fun h3 => (Or.inr (Or.inr (Or.inr (Or.inr (Or.inl h3)))))) (fun g3 => (Or.elim g3 (fun h4 => (Or.inr (Or.inr (Or.inr (Or.inr (Or.inr (Or.inl h4))))))) (fun g4 => (Or.elim g4 (fun h5 => (Or.inr (Or.inr (Or.inr (Or.inr (Or.inr (Or.inr (Or.inl h5)))))))) (fun g5 => (Or.elim g5 (fun h6 => (Or.inr (Or.inr (Or.inr (Or.inr (Or.inr (Or.inr (Or.inr (Or.inl h6))))))))) (fun g6 => (Or.inr (Or.inr (Or.inr (Or.inr (Or.inr (Or.inr (Or.inr (Or.inr (Or.inl g6)))))))))))))))))))))))))
  by_cases hc2z : r1.1 = 0
  · rw [if_pos hc2z] at h
    obtain rfl := Option.some.inj h
    exact z5
  · rw [if_neg hc2z] at h
    obtain ⟨v3, -, h⟩ := mx_letE h
    obtain ⟨r4, h_r4, h⟩ := Option.bind_eq_some_iff.mp h
    have z6 : mx_out (WSX12_readOdd a) m r4.2 := mx_out.tr z5 (mx_out.sub (ZX12_readNumber h_r4) (fun b j hb => (Or.elim hb (fun h0 => (Or.inl h0)) (fun g0 => (Or.elim g0 (fun h1 => (Or.inr (Or.inl h1))) (fun g1 => (Or.elim g1 (fun h2 => (Or.inr (Or.inr (Or.inl h2)))) (fun g2 => (Or.elim g2 (fun h3 => (Or.inr (Or.inr (Or.inr (Or.inl h3))))) (fun g3 => (Or.elim g3 (fun h4 => (Or.inr (Or.inr (Or.inr (Or.inr (Or.inl h4)))))) (fun g4 => (Or.elim g4 (fun h5 => (Or.inr (Or.inr (Or.inr (Or.inr (Or.inr (Or.inl h5))))))) (fun g5 => (Or.elim g5 (fun h6 => (Or.inr (Or.inr (Or.inr (Or.inr (Or.inr (Or.inr (Or.inl h6)))))))) (fun g6 => (Or.elim g6 (fun h7 => (Or.inr (Or.inr (Or.inr (Or.inr (Or.inr (Or.inr (Or.inr (Or.inl h7))))))))) (fun g7 => (Or.inr (Or.inr (Or.inr (Or.inr (Or.inr (Or.inr (Or.inr (Or.inr (Or.inl g7)))))))))))))))))))))))))))
    obtain ⟨r5, h_r5, h⟩ := Option.bind_eq_some_iff.mp h
    have z7 : mx_out (WSX12_readOdd a) m r5.2 := mx_out.tr z6 (mx_out.sub (ZX12_noted h_r5) (fun b j hb => (Or.inr (Or.inr (Or.inr (Or.inr (Or.inr (Or.inr (Or.inr (Or.inr (Or.inr hb)))))))))))
    by_cases hc6z : r5.1 = 0
    · rw [if_pos hc6z] at h
      obtain rfl := Option.some.inj h
      exact z7
    · rw [if_neg hc6z] at h
      obtain ⟨q21, h_q21, h⟩ := Option.bind_eq_some_iff.mp h
      have z8 := mx_out.tr z7 (mx_out.sub (S := (WSX12_readOdd a)) (ZX12_readOdd_L44 mx_FU h_q21) (fun b j hb => (Or.elim hb (fun h0 => (Or.inl h0)) (fun g0 => (Or.elim g0 (fun h1 => (Or.inr (Or.inl h1))) (fun g1 => (Or.elim g1 (fun h2 => (Or.inr (Or.inr (Or.inl h2)))) (fun g2 => (Or.elim g2 (fun h3 => (Or.inr (Or.inr (Or.inr (Or.inl h3))))) (fun g3 => (Or.elim g3 (fun h4 => (Or.inr (Or.inr (Or.inr (Or.inr (Or.inl h4)))))) (fun g4 => (Or.elim g4 (fun h5 => (Or.inr (Or.inr (Or.inr (Or.inr (Or.inr (Or.inl h5))))))) (fun g5 => (Or.elim g5 (fun h6 => (Or.inr (Or.inr (Or.inr (Or.inr (Or.inr (Or.inr (Or.inl h6)))))))) (fun g6 => (Or.elim g6 (fun h7 => (Or.inr (Or.inr (Or.inr (Or.inr (Or.inr (Or.inr (Or.inr (Or.inl h7))))))))) (fun g7 => (Or.inr (Or.inr (Or.inr (Or.inr (Or.inr (Or.inr (Or.inr (Or.inr (Or.inl g7)))))))))))))))))))))))))))
      rcases q21 with rr23 | u22
      · rw [Sum.elim_inl] at h
        obtain rfl := Option.some.inj h
        exact z8
      · rw [Sum.elim_inr] at h
        obtain ⟨r24, h_r24, h⟩ := Option.bind_eq_some_iff.mp h
        by_cases hc25z : r24 = 0
        · rw [if_pos hc25z] at h
          obtain ⟨r26, h_r26, h⟩ := Option.bind_eq_some_iff.mp h
          have z9 : mx_out (WSX12_readOdd a) m r26.2 := mx_out.tr z8 (mx_out.sub (ZX12_bad h_r26) (fun b j hb => (Or.elim hb (fun h0 => (Or.inl h0)) (fun g0 => (Or.inr (Or.inl g0))))))
          obtain ⟨-, h⟩ := mx_chkE h
          obtain rfl := Option.some.inj h
          exact z9
        · rw [if_neg hc25z] at h
          by_cases hc28z : (u22.2.1 - u22.2.1 / 2 * 2) = 0
          · rw [if_pos hc28z] at h
            obtain ⟨r36, h_r36, h⟩ := Option.bind_eq_some_iff.mp h
            have z10 : mx_out (WSX12_readOdd a) m r36.2 := mx_out.tr z8 (mx_out.sub (ZX12_bad h_r36) (fun b j hb => (Or.elim hb (fun h0 => (Or.inl h0)) (fun g0 => (Or.inr (Or.inl g0))))))
            obtain ⟨-, h⟩ := mx_chkE h
            obtain rfl := Option.some.inj h
            exact z10
          · rw [if_neg hc28z] at h
            obtain ⟨r29, h_r29, h⟩ := Option.bind_eq_some_iff.mp h
            by_cases hc30z : r29 = 0
            · rw [if_pos hc30z] at h
              obtain ⟨-, h⟩ := mx_chkE h
              obtain ⟨m31, e_m31, h⟩ := mx_letE h
              have z11 : mx_out (WSX12_readOdd a) m m31 := by first | exact mx_out_up z8 e_m31 (Or.inr (Or.inr (Or.inr (Or.inr (Or.inr (Or.inr (Or.inr (Or.inr (Or.inr rfl))))))))) | exact mx_out_ul z8 e_m31 (Or.inr (Or.inr (Or.inr (Or.inr (Or.inr (Or.inr (Or.inr (Or.inr (Or.inr rfl))))))))) | exact mx_out_cp z8 e_m31 (fun j => (Or.inr (Or.inr (Or.inr (Or.inr (Or.inr (Or.inr (Or.inr (Or.inr (Or.inr rfl)))))))))) | exact mx_out_cl z8 e_m31 (fun j => (Or.inr (Or.inr (Or.inr (Or.inr (Or.inr (Or.inr (Or.inr (Or.inr (Or.inr rfl))))))))))
              obtain ⟨m33, e_m33, h⟩ := mx_letE h
              have z12 : mx_out (WSX12_readOdd a) m m33 := by first | exact mx_out_up z11 e_m33 (Or.inr (Or.inr (Or.inr (Or.inr (Or.inr (Or.inr (Or.inr (Or.inr (Or.inr rfl))))))))) | exact mx_out_ul z11 e_m33 (Or.inr (Or.inr (Or.inr (Or.inr (Or.inr (Or.inr (Or.inr (Or.inr (Or.inr rfl))))))))) | exact mx_out_cp z11 e_m33 (fun j => (Or.inr (Or.inr (Or.inr (Or.inr (Or.inr (Or.inr (Or.inr (Or.inr (Or.inr rfl)))))))))) | exact mx_out_cl z11 e_m33 (fun j => (Or.inr (Or.inr (Or.inr (Or.inr (Or.inr (Or.inr (Or.inr (Or.inr (Or.inr rfl))))))))))
              obtain rfl := Option.some.inj h
              exact z12
            · rw [if_neg hc30z] at h
              obtain ⟨r34, h_r34, h⟩ := Option.bind_eq_some_iff.mp h
              have z13 : mx_out (WSX12_readOdd a) m r34.2 := mx_out.tr z8 (mx_out.sub (ZX12_bad h_r34) (fun b j hb => (Or.elim hb (fun h0 => (Or.inl h0)) (fun g0 => (Or.inr (Or.inl g0))))))
              obtain ⟨-, h⟩ := mx_chkE h
              obtain rfl := Option.some.inj h
              exact z13
set_option maxRecDepth 20000 in
theorem ZX12_readLine {a : Nat} {m : mB} {r : (Int32 × mB)} (h : FX12_readLine a m = some r) : mx_out (WSX12_readLine a) m r.2 := by
  unfold FX12_readLine at h
  have z0 : mx_out (WSX12_readLine a) m m := mx_out.rf
  obtain ⟨r1, h_r1, h⟩ := Option.bind_eq_some_iff.mp h
  by_cases hc2z : r1 = 0
  · rw [if_pos hc2z] at h
    obtain ⟨r3, h_r3, h⟩ := Option.bind_eq_some_iff.mp h
    by_cases hc4z : r3 = 0
    · rw [if_pos hc4z] at h
      obtain ⟨r5, h_r5, h⟩ := Option.bind_eq_some_iff.mp h
      by_cases hc6z : r5 = 0
      · rw [if_pos hc6z] at h
        obtain ⟨r7, h_r7, h⟩ := Option.bind_eq_some_iff.mp h
        by_cases hc8z : r7 = 0
        · rw [if_pos hc8z] at h
          obtain ⟨r9, h_r9, h⟩ := Option.bind_eq_some_iff.mp h
          by_cases hc10z : r9 = 0
          · rw [if_pos hc10z] at h
            obtain ⟨r11, h_r11, h⟩ := Option.bind_eq_some_iff.mp h
            have z1 : mx_out (WSX12_readLine a) m r11.2 := mx_out.tr z0 (mx_out.sub (ZX12_bad h_r11) (fun b j hb => (Or.elim hb (fun h0 => (Or.inl h0)) (fun g0 => (Or.inr (Or.inl g0))))))
            obtain ⟨-, h⟩ := mx_chkE h
            obtain rfl := Option.some.inj h
            exact z1
          · rw [if_neg hc10z] at h
            obtain ⟨r13, h_r13, h⟩ := Option.bind_eq_some_iff.mp h
            have z2 : mx_out (WSX12_readLine a) m r13.2 := mx_out.tr z0 (mx_out.sub (ZX12_readOdd h_r13) (fun b j hb => (Or.elim hb (fun h0 => (Or.inl h0)) (fun g0 => (Or.elim g0 (fun h1 => (Or.inr (Or.inl h1))) (fun g1 => (Or.elim g1 (fun h2 => (Or.inr (Or.inr (Or.inl h2)))) (fun g2 => (Or.elim g2 (fun h3 => (Or.inr (Or.inr (Or.inr (Or.inl h3))))) (fun g3 => (Or.elim g3 (fun h4 => (Or.inr (Or.inr (Or.inr (Or.inr (Or.inl h4)))))) (fun g4 => (Or.elim g4 (fun h5 => (Or.inr (Or.inr (Or.inr (Or.inr (Or.inr (Or.inl h5))))))) (fun g5 => (Or.elim g5 (fun h6 => (Or.inr (Or.inr (Or.inr (Or.inr (Or.inr (Or.inr (Or.inl h6)))))))) (fun g6 => (Or.elim g6 (fun h7 => (Or.inr (Or.inr (Or.inr (Or.inr (Or.inr (Or.inr (Or.inr (Or.inl h7))))))))) (fun g7 => (Or.elim g7 (fun h8 => (Or.inr (Or.inr (Or.inr (Or.inr (Or.inr (Or.inr (Or.inr (Or.inr (Or.inl h8)))))))))) (fun g8 => (Or.inr (Or.inr (Or.inr (Or.inr (Or.inr (Or.inr (Or.inr (Or.inr (Or.inr (Or.inr (Or.inl g8)))))))))))))))))))))))))))))))
            obtain ⟨-, h⟩ := mx_chkE h
            obtain rfl := Option.some.inj h
            exact z2
        · rw [if_neg hc8z] at h
          obtain ⟨r15, h_r15, h⟩ := Option.bind_eq_some_iff.mp h
          have z3 : mx_out (WSX12_readLine a) m r15.2 := mx_out.tr z0 (mx_out.sub (ZX12_readPrice h_r15) (fun b j hb => (Or.elim hb (fun h0 => (Or.inl h0)) (fun g0 => (Or.elim g0 (fun h1 => (Or.inr (Or.inl h1))) (fun g1 => (Or.elim g1 (fun h2 => (Or.inr (Or.inr (Or.inl h2)))) (fun g2 => (Or.elim g2 (fun h3 => (Or.inr (Or.inr (Or.inr (Or.inl h3))))) (fun g3 => (Or.elim g3 (fun h4 => (Or.inr (Or.inr (Or.inr (Or.inr (Or.inl h4)))))) (fun g4 => (Or.elim g4 (fun h5 => (Or.inr (Or.inr (Or.inr (Or.inr (Or.inr (Or.inl h5))))))) (fun g5 => (Or.elim g5 (fun h6 => (Or.inr (Or.inr (Or.inr (Or.inr (Or.inr (Or.inr (Or.inl h6)))))))) (fun g6 => (Or.elim g6 (fun h7 => (Or.inr (Or.inr (Or.inr (Or.inr (Or.inr (Or.inr (Or.inr (Or.inl h7))))))))) (fun g7 => (Or.elim g7 (fun h8 => (Or.inr (Or.inr (Or.inr (Or.inr (Or.inr (Or.inr (Or.inr (Or.inr (Or.inl h8)))))))))) (fun g8 => (Or.elim g8 (fun h9 => (Or.inr (Or.inr (Or.inr (Or.inr (Or.inr (Or.inr (Or.inr (Or.inr (Or.inr (Or.inl h9))))))))))) (fun g9 => (Or.inr (Or.inr (Or.inr (Or.inr (Or.inr (Or.inr (Or.inr (Or.inr (Or.inr (Or.inr (Or.inl g9)))))))))))))))))))))))))))))))))
          obtain ⟨-, h⟩ := mx_chkE h
          obtain rfl := Option.some.inj h
          exact z3
      · rw [if_neg hc6z] at h
        obtain ⟨r17, h_r17, h⟩ := Option.bind_eq_some_iff.mp h
        have z4 : mx_out (WSX12_readLine a) m r17.2 := mx_out.tr z0 (mx_out.sub (ZX12_readPair h_r17) (fun b j hb => (Or.elim hb (fun h0 => (Or.inl h0)) (fun g0 => (Or.elim g0 (fun h1 => (Or.inr (Or.inl h1))) (fun g1 => (Or.elim g1 (fun h2 => (Or.inr (Or.inr (Or.inl h2)))) (fun g2 => (Or.elim g2 (fun h3 => (Or.inr (Or.inr (Or.inr (Or.inl h3))))) (fun g3 => (Or.elim g3 (fun h4 => (Or.inr (Or.inr (Or.inr (Or.inr (Or.inl h4)))))) (fun g4 => (Or.elim g4 (fun h5 => (Or.inr (Or.inr (Or.inr (Or.inr (Or.inr (Or.inl h5))))))) (fun g5 => (Or.elim g5 (fun h6 => (Or.inr (Or.inr (Or.inr (Or.inr (Or.inr (Or.inr (Or.inl h6)))))))) (fun g6 => (Or.elim g6 (fun h7 => (Or.inr (Or.inr (Or.inr (Or.inr (Or.inr (Or.inr (Or.inr (Or.inl h7))))))))) (fun g7 => (Or.elim g7 (fun h8 => (Or.inr (Or.inr (Or.inr (Or.inr (Or.inr (Or.inr (Or.inr (Or.inr (Or.inl h8)))))))))) (fun g8 => (Or.inr (Or.inr (Or.inr (Or.inr (Or.inr (Or.inr (Or.inr (Or.inr (Or.inr (Or.inr (Or.inl g8)))))))))))))))))))))))))))))))
        obtain ⟨-, h⟩ := mx_chkE h
        obtain rfl := Option.some.inj h
        exact z4
    · rw [if_neg hc4z] at h
      obtain ⟨r19, h_r19, h⟩ := Option.bind_eq_some_iff.mp h
      have z5 : mx_out (WSX12_readLine a) m r19.2 := mx_out.tr z0 (mx_out.sub (ZX12_readLink h_r19) (fun b j hb => (Or.elim hb (fun h0 => (Or.inl h0)) (fun g0 => (Or.elim g0 (fun h1 => (Or.inr (Or.inl h1))) (fun g1 => (Or.elim g1 (fun h2 => (Or.inr (Or.inr (Or.inl h2)))) (fun g2 => (Or.elim g2 (fun h3 => (Or.inr (Or.inr (Or.inr (Or.inl h3))))) (fun g3 => (Or.elim g3 (fun h4 => (Or.inr (Or.inr (Or.inr (Or.inr (Or.inl h4)))))) (fun g4 => (Or.elim g4 (fun h5 => (Or.inr (Or.inr (Or.inr (Or.inr (Or.inr (Or.inl h5))))))) (fun g5 => (Or.elim g5 (fun h6 => (Or.inr (Or.inr (Or.inr (Or.inr (Or.inr (Or.inr (Or.inl h6)))))))) (fun g6 => (Or.elim g6 (fun h7 => (Or.inr (Or.inr (Or.inr (Or.inr (Or.inr (Or.inr (Or.inr (Or.inl h7))))))))) (fun g7 => (Or.elim g7 (fun h8 => (Or.inr (Or.inr (Or.inr (Or.inr (Or.inr (Or.inr (Or.inr (Or.inr (Or.inl h8)))))))))) (fun g8 => (Or.inr (Or.inr (Or.inr (Or.inr (Or.inr (Or.inr (Or.inr (Or.inr (Or.inr (Or.inr (Or.inl g8)))))))))))))))))))))))))))))))
      obtain ⟨-, h⟩ := mx_chkE h
      obtain rfl := Option.some.inj h
      exact z5
  · rw [if_neg hc2z] at h
    obtain ⟨r21, h_r21, h⟩ := Option.bind_eq_some_iff.mp h
    have z6 : mx_out (WSX12_readLine a) m r21.2 := mx_out.tr z0 (mx_out.sub (ZX12_readPoint h_r21) (fun b j hb => (Or.elim hb (fun h0 => (Or.inl h0)) (fun g0 => (Or.elim g0 (fun h1 => (Or.inr (Or.inl h1))) (fun g1 => (Or.elim g1 (fun h2 => (Or.inr (Or.inr (Or.inl h2)))) (fun g2 => (Or.elim g2 (fun h3 => (Or.inr (Or.inr (Or.inr (Or.inr (Or.inl h3)))))) (fun g3 => (Or.elim g3 (fun h4 => (Or.inr (Or.inr (Or.inr (Or.inr (Or.inr (Or.inl h4))))))) (fun g4 => (Or.elim g4 (fun h5 => (Or.inr (Or.inr (Or.inr (Or.inr (Or.inr (Or.inr (Or.inl h5)))))))) (fun g5 => (Or.elim g5 (fun h6 => (Or.inr (Or.inr (Or.inr (Or.inr (Or.inr (Or.inr (Or.inr (Or.inl h6))))))))) (fun g6 => (Or.elim g6 (fun h7 => (Or.inr (Or.inr (Or.inr (Or.inr (Or.inr (Or.inr (Or.inr (Or.inr (Or.inl h7)))))))))) (fun g7 => (Or.elim g7 (fun h8 => (Or.inr (Or.inr (Or.inr (Or.inr (Or.inr (Or.inr (Or.inr (Or.inr (Or.inr (Or.inr (Or.inl h8)))))))))))) (fun g8 => (Or.inr (Or.inr (Or.inr (Or.inr (Or.inr (Or.inr (Or.inr (Or.inr (Or.inr (Or.inr (Or.inr g8)))))))))))))))))))))))))))))))
    obtain ⟨-, h⟩ := mx_chkE h
    obtain rfl := Option.some.inj h
    exact z6
set_option maxRecDepth 20000 in
theorem ZX12_network_L9 {q0 : Nat} : ∀ (f : Nat) {y1 : Int32} {m : mB} {q : (mB)}, FX12_network_L9 q0 f y1 m = some q → mx_out (WSX12_network_L9 q0) m q := by
  intro f
  induction f with
  | zero => intro _ _ _ h; cases h
  | succ f ih =>
    intro y1 m q h
    rw [FX12_network_L9] at h
    have z0 : mx_out (WSX12_network_L9 q0) m m := mx_out.rf
    by_cases hc2z : 125 ≤ y1
    · rw [if_pos hc2z] at h
      obtain rfl := Option.some.inj h
      exact z0
    · rw [if_neg hc2z] at h
      obtain ⟨-, h⟩ := mx_chkE h
      obtain ⟨m3, e_m3, h⟩ := mx_letE h
      have z1 : mx_out (WSX12_network_L9 q0) m m3 := by first | exact mx_out_up z0 e_m3 rfl | exact mx_out_ul z0 e_m3 rfl | exact mx_out_cp z0 e_m3 (fun j => rfl) | exact mx_out_cl z0 e_m3 (fun j => rfl)
      obtain ⟨v5, -, h⟩ := mx_letE h
      exact mx_out.tr z1 (ih h)
set_option maxRecDepth 20000 in
theorem ZX12_network_L30 {q0 : Nat} : ∀ (f : Nat) {y1 : Int32} {m : mB} {q : (mB)}, FX12_network_L30 q0 f y1 m = some q → mx_out (WSX12_network_L30 q0) m q := by
  intro f
  induction f with
  | zero => intro _ _ _ h; cases h
  | succ f ih =>
    intro y1 m q h
    rw [FX12_network_L30] at h
    have z0 : mx_out (WSX12_network_L30 q0) m m := mx_out.rf
    by_cases hc7z : 10 ≤ y1
    · rw [if_pos hc7z] at h
      obtain rfl := Option.some.inj h
      exact z0
    · rw [if_neg hc7z] at h
      obtain ⟨-, h⟩ := mx_chkE h
      obtain ⟨m8, e_m8, h⟩ := mx_letE h
      have z2 : mx_out (WSX12_network_L30 q0) m m8 := by first | exact mx_out_up z0 e_m8 (Or.inr rfl) | exact mx_out_ul z0 e_m8 (Or.inr rfl) | exact mx_out_cp z0 e_m8 (fun j => (Or.inr rfl)) | exact mx_out_cl z0 e_m8 (fun j => (Or.inr rfl))
      obtain ⟨-, h⟩ := mx_chkE h
      obtain ⟨m10, e_m10, h⟩ := mx_letE h
      have z3 : mx_out (WSX12_network_L30 q0) m m10 := by first | exact mx_out_up z2 e_m10 (Or.inl rfl) | exact mx_out_ul z2 e_m10 (Or.inl rfl) | exact mx_out_cp z2 e_m10 (fun j => (Or.inl rfl)) | exact mx_out_cl z2 e_m10 (fun j => (Or.inl rfl))
      obtain ⟨v12, -, h⟩ := mx_letE h
      exact mx_out.tr z3 (ih h)
set_option maxRecDepth 20000 in
theorem ZX12_network_L61 {q0 : Nat} : ∀ (f : Nat) {y1 : Int32} {m : mB} {q : ((Int32 × mB) ⊕ (Int32 × mB))}, FX12_network_L61 q0 f y1 m = some q → mx_out (WSX12_network_L61 q0) m (Sum.elim (fun rr => rr.2) (fun u => u.2) q) := by
  intro f
  induction f with
  | zero => intro _ _ _ h; cases h
  | succ f ih =>
    intro y1 m q h
    rw [FX12_network_L61] at h
    have z0 : mx_out (WSX12_network_L61 q0) m m := mx_out.rf
    by_cases hc14z : (m.1 q0 7) = 0
    · rw [if_pos hc14z] at h
      obtain rfl := Option.some.inj h
      exact z0
    · rw [if_neg hc14z] at h
      obtain ⟨r15, h_r15, h⟩ := Option.bind_eq_some_iff.mp h
      have z4 : mx_out (WSX12_network_L61 q0) m r15.2 := mx_out.tr z0 (mx_out.sub (ZX12_readLine h_r15) (fun b j hb => (Or.elim hb (fun h0 => (Or.inl h0)) (fun g0 => (Or.elim g0 (fun h1 => (Or.inr (Or.inl h1))) (fun g1 => (Or.elim g1 (fun h2 => (Or.inr (Or.inr (Or.inl h2)))) (fun g2 => (Or.elim g2 (fun h3 => (Or.inr (Or.inr (Or.inr (Or.inl h3))))) (fun g3 => (Or.elim g3 (fun h4 => (Or.inr (Or.inr (Or.inr (Or.inr (Or.inl h4)))))) (fun g4 => (Or.elim g4 (fun h5 => (Or.inr (Or.inr (Or.inr (Or.inr (Or.inr (Or.inl h5))))))) (fun g5 => (Or.elim g5 (fun h6 => (Or.inr (Or.inr (Or.inr (Or.inr (Or.inr (Or.inr (Or.inl h6)))))))) (fun g6 => (Or.elim g6 (fun h7 => (Or.inr (Or.inr (Or.inr (Or.inr (Or.inr (Or.inr (Or.inr (Or.inl h7))))))))) (fun g7 => (Or.elim g7 (fun h8 => (Or.inr (Or.inr (Or.inr (Or.inr (Or.inr (Or.inr (Or.inr (Or.inr (Or.inl h8)))))))))) (fun g8 => (Or.elim g8 (fun h9 => (Or.inr (Or.inr (Or.inr (Or.inr (Or.inr (Or.inr (Or.inr (Or.inr (Or.inr (Or.inl h9))))))))))) (fun g9 => (Or.elim g9 (fun h10 => (Or.inr (Or.inr (Or.inr (Or.inr (Or.inr (Or.inr (Or.inr (Or.inr (Or.inr (Or.inr (Or.inl h10)))))))))))) (fun g10 => (Or.inr (Or.inr (Or.inr (Or.inr (Or.inr (Or.inr (Or.inr (Or.inr (Or.inr (Or.inr (Or.inr g10)))))))))))))))))))))))))))))))))))
      by_cases hc16z : r15.1 = 0
      · rw [if_pos hc16z] at h
        obtain rfl := Option.some.inj h
        exact z4
      · rw [if_neg hc16z] at h
        obtain ⟨r17, h_r17, h⟩ := Option.bind_eq_some_iff.mp h
        have z5 : mx_out (WSX12_network_L61 q0) m r17.2 := mx_out.tr z4 (mx_out.sub (ZX12_readEnd h_r17) (fun b j hb => (Or.elim hb (fun h0 => (Or.inl h0)) (fun g0 => (Or.elim g0 (fun h1 => (Or.inr (Or.inl h1))) (fun g1 => (Or.elim g1 (fun h2 => (Or.inr (Or.inr (Or.inl h2)))) (fun g2 => (Or.elim g2 (fun h3 => (Or.inr (Or.inr (Or.inr (Or.inr (Or.inl h3)))))) (fun g3 => (Or.elim g3 (fun h4 => (Or.inr (Or.inr (Or.inr (Or.inr (Or.inr (Or.inl h4))))))) (fun g4 => (Or.elim g4 (fun h5 => (Or.inr (Or.inr (Or.inr (Or.inr (Or.inr (Or.inr (Or.inl h5)))))))) (fun g5 => (Or.elim g5 (fun h6 => (Or.inr (Or.inr (Or.inr (Or.inr (Or.inr (Or.inr (Or.inr (Or.inl h6))))))))) (fun g6 => (Or.inr (Or.inr (Or.inr (Or.inr (Or.inr (Or.inr (Or.inr (Or.inr (Or.inl g6)))))))))))))))))))))))))
        by_cases hc18z : r17.1 = 0
        · rw [if_pos hc18z] at h
          obtain rfl := Option.some.inj h
          exact z5
        · rw [if_neg hc18z] at h
          obtain ⟨v19, -, h⟩ := mx_letE h
          exact mx_out.tr z5 (ih h)
set_option maxRecDepth 20000 in
theorem ZX12_network_L97 {q0 : Nat} {y1 : Int32} : ∀ (f : Nat) {y2 : Int32} {m : mB} {q : (mB)}, FX12_network_L97 q0 y1 f y2 m = some q → mx_out (WSX12_network_L97 q0) m q := by
  intro f
  induction f with
  | zero => intro _ _ _ h; cases h
  | succ f ih =>
    intro y2 m q h
    rw [FX12_network_L97] at h
    have z0 : mx_out (WSX12_network_L97 q0) m m := mx_out.rf
    by_cases hc23z : 125 ≤ y2
    · rw [if_pos hc23z] at h
      obtain rfl := Option.some.inj h
      exact z0
    · rw [if_neg hc23z] at h
      obtain ⟨-, h⟩ := mx_chkE h
      obtain ⟨-, h⟩ := mx_chkE h
      obtain ⟨m25, e_m25, h⟩ := mx_letE h
      have z6 : mx_out (WSX12_network_L97 q0) m m25 := by first | exact mx_out_up z0 e_m25 rfl | exact mx_out_ul z0 e_m25 rfl | exact mx_out_cp z0 e_m25 (fun j => rfl) | exact mx_out_cl z0 e_m25 (fun j => rfl)
      obtain ⟨v27, -, h⟩ := mx_letE h
      exact mx_out.tr z6 (ih h)
set_option maxRecDepth 20000 in
theorem ZX12_network_L123 {q0 : Nat} {y1 : Int32} : ∀ (f : Nat) {y2 : Int32} {m : mB} {q : (mB)}, FX12_network_L123 q0 y1 f y2 m = some q → mx_out (WSX12_network_L123 q0) m q := by
  intro f
  induction f with
  | zero => intro _ _ _ h; cases h
  | succ f ih =>
    intro y2 m q h
    rw [FX12_network_L123] at h
    have z0 : mx_out (WSX12_network_L123 q0) m m := mx_out.rf
    by_cases hc29z : 10 ≤ y2
    · rw [if_pos hc29z] at h
      obtain rfl := Option.some.inj h
      exact z0
    · rw [if_neg hc29z] at h
      obtain ⟨-, h⟩ := mx_chkE h
      obtain ⟨m31, e_m31, h⟩ := mx_letE h
      have z7 : mx_out (WSX12_network_L123 q0) m m31 := by first | exact mx_out_up z0 e_m31 rfl | exact mx_out_ul z0 e_m31 rfl | exact mx_out_cp z0 e_m31 (fun j => rfl) | exact mx_out_cl z0 e_m31 (fun j => rfl)
      obtain ⟨v32, -, h⟩ := mx_letE h
      exact mx_out.tr z7 (ih h)
set_option maxRecDepth 20000 in
theorem ZX12_network {a : Nat} {m : mB} {r : (Int32 × mB)} (h : FX12_network a m = some r) : mx_out (WSX12_network a) m r.2 := by
  unfold FX12_network at h
  have z0 : mx_out (WSX12_network a) m m := mx_out.rf
  obtain ⟨r1, h_r1, h⟩ := Option.bind_eq_some_iff.mp h
  have z8 : mx_out (WSX12_network a) m r1 := mx_out.tr z0 (mx_out.sub (ZX12_begin h_r1) (fun b j hb => (Or.elim hb (fun h0 => (Or.inl h0)) (fun g0 => (Or.elim g0 (fun h1 => (Or.inr (Or.inl h1))) (fun g1 => (Or.elim g1 (fun h2 => (Or.inr (Or.inr (Or.inr (Or.inl h2))))) (fun g2 => (Or.elim g2 (fun h3 => (Or.inr (Or.inr (Or.inr (Or.inr (Or.inr (Or.inl h3))))))) (fun g3 => (Or.elim g3 (fun h4 => (Or.inr (Or.inr (Or.inr (Or.inr (Or.inr (Or.inr (Or.inr (Or.inl h4))))))))) (fun g4 => (Or.elim g4 (fun h5 => (Or.inr (Or.inr (Or.inr (Or.inr (Or.inr (Or.inr (Or.inr (Or.inr (Or.inl h5)))))))))) (fun g5 => (Or.elim g5 (fun h6 => (Or.inr (Or.inr (Or.inr (Or.inr (Or.inr (Or.inr (Or.inr (Or.inr (Or.inr (Or.inl h6))))))))))) (fun g6 => (Or.elim g6 (fun h7 => (Or.inr (Or.inr (Or.inr (Or.inr (Or.inr (Or.inr (Or.inr (Or.inr (Or.inr (Or.inr (Or.inl h7)))))))))))) (fun g7 => (Or.elim g7 (fun h8 => (Or.inr (Or.inr (Or.inr (Or.inr (Or.inr (Or.inr (Or.inr (Or.inr (Or.inr (Or.inr (Or.inr (Or.inl h8))))))))))))) (fun g8 => (Or.elim g8 (fun h9 => (Or.inr (Or.inr (Or.inr (Or.inr (Or.inr (Or.inr (Or.inr (Or.inr (Or.inr (Or.inr (Or.inr (Or.inr (Or.inl h9)))))))))))))) (fun g9 => (Or.inr (Or.inr (Or.inr (Or.inr (Or.inr (Or.inr (Or.inr (Or.inr (Or.inr (Or.inr (Or.inr (Or.inr (Or.inr (Or.inl g9))))))))))))))))))))))))))))))))))))
  obtain ⟨q6, h_q6, h⟩ := Option.bind_eq_some_iff.mp h
  have z9 := mx_out.tr z8 (mx_out.sub (S := (WSX12_network a)) (ZX12_network_L9 mx_FU h_q6) (fun b j hb => (Or.inr (Or.inr (Or.inr (Or.inr (Or.inr (Or.inr (Or.inr (Or.inr (Or.inr (Or.inr (Or.inr (Or.inr (Or.inr (Or.inr (Or.inr (Or.inr (Or.inl hb)))))))))))))))))))
  obtain ⟨q13, h_q13, h⟩ := Option.bind_eq_some_iff.mp h
  have z10 := mx_out.tr z9 (mx_out.sub (S := (WSX12_network a)) (ZX12_network_L30 mx_FU h_q13) (fun b j hb => (Or.elim hb (fun h0 => (Or.inr (Or.inr (Or.inr (Or.inr (Or.inr (Or.inr (Or.inr (Or.inr (Or.inr (Or.inr (Or.inr (Or.inr (Or.inr (Or.inr (Or.inl h0)))))))))))))))) (fun g0 => (Or.inr (Or.inr (Or.inr (Or.inr (Or.inr (Or.inr (Or.inr (Or.inr (Or.inr (Or.inr (Or.inr (Or.inr (Or.inr (Or.inr (Or.inr (Or.inr (Or.inl g0)))))))))))))))))))))
  obtain ⟨q20, h_q20, h⟩ := Option.bind_eq_some_iff.mp h
  have z11 := mx_out.tr z10 (mx_out.sub (S := (WSX12_network a)) (ZX12_network_L61 mx_FU h_q20) (fun b j hb => (Or.elim hb (fun h0 => (Or.inr (Or.inl h0))) (fun g0 => (Or.elim g0 (fun h1 => (Or.inr (Or.inr (Or.inl h1)))) (fun g1 => (Or.elim g1 (fun h2 => (Or.inr (Or.inr (Or.inr (Or.inl h2))))) (fun g2 => (Or.elim g2 (fun h3 => (Or.inr (Or.inr (Or.inr (Or.inr (Or.inl h3)))))) (fun g3 => (Or.elim g3 (fun h4 => (Or.inr (Or.inr (Or.inr (Or.inr (Or.inr (Or.inr (Or.inr (Or.inr (Or.inr (Or.inl h4))))))))))) (fun g4 => (Or.elim g4 (fun h5 => (Or.inr (Or.inr (Or.inr (Or.inr (Or.inr (Or.inr (Or.inr (Or.inr (Or.inr (Or.inr (Or.inl h5)))))))))))) (fun g5 => (Or.elim g5 (fun h6 => (Or.inr (Or.inr (Or.inr (Or.inr (Or.inr (Or.inr (Or.inr (Or.inr (Or.inr (Or.inr (Or.inr (Or.inl h6))))))))))))) (fun g6 => (Or.elim g6 (fun h7 => (Or.inr (Or.inr (Or.inr (Or.inr (Or.inr (Or.inr (Or.inr (Or.inr (Or.inr (Or.inr (Or.inr (Or.inr (Or.inl h7)))))))))))))) (fun g7 => (Or.elim g7 (fun h8 => (Or.inr (Or.inr (Or.inr (Or.inr (Or.inr (Or.inr (Or.inr (Or.inr (Or.inr (Or.inr (Or.inr (Or.inr (Or.inr (Or.inl h8))))))))))))))) (fun g8 => (Or.elim g8 (fun h9 => (Or.inr (Or.inr (Or.inr (Or.inr (Or.inr (Or.inr (Or.inr (Or.inr (Or.inr (Or.inr (Or.inr (Or.inr (Or.inr (Or.inr (Or.inl h9)))))))))))))))) (fun g9 => (Or.elim g9 (fun h10 => (Or.inr (Or.inr (Or.inr (Or.inr (Or.inr (Or.inr (Or.inr (Or.inr (Or.inr (Or.inr (Or.inr (Or.inr (Or.inr (Or.inr (Or.inr (Or.inr (Or.inl h10)))))))))))))))))) (fun g10 => (Or.inr (Or.inr (Or.inr (Or.inr (Or.inr (Or.inr (Or.inr (Or.inr (Or.inr (Or.inr (Or.inr (Or.inr (Or.inr (Or.inr (Or.inr (Or.inr (Or.inr (Or.inr g10))))))))))))))))))))))))))))))))))))))))))
  rcases q20 with rr22 | u21
  · rw [Sum.elim_inl] at h
    obtain rfl := Option.some.inj h
    exact z11
  · rw [Sum.elim_inr] at h
    obtain ⟨q28, h_q28, h⟩ := Option.bind_eq_some_iff.mp h
    have z12 := mx_out.tr z11 (mx_out.sub (S := (WSX12_network a)) (ZX12_network_L97 mx_FU h_q28) (fun b j hb => (Or.inr (Or.inr (Or.inr (Or.inr (Or.inr (Or.inr (Or.inr (Or.inr (Or.inr (Or.inr (Or.inr (Or.inr (Or.inr (Or.inr (Or.inr (Or.inl hb))))))))))))))))))
    obtain ⟨q33, h_q33, h⟩ := Option.bind_eq_some_iff.mp h
    have z13 := mx_out.tr z12 (mx_out.sub (S := (WSX12_network a)) (ZX12_network_L123 mx_FU h_q33) (fun b j hb => (Or.inr (Or.inr (Or.inr (Or.inr (Or.inr (Or.inr (Or.inr (Or.inr (Or.inr (Or.inr (Or.inr (Or.inr (Or.inr (Or.inr (Or.inr (Or.inr (Or.inr (Or.inl hb))))))))))))))))))))
    obtain ⟨r34, h_r34, h⟩ := Option.bind_eq_some_iff.mp h
    have z14 : mx_out (WSX12_network a) m r34 := mx_out.tr z13 (mx_out.sub (ZX12_startSo h_r34) (fun b j hb => (Or.inr (Or.inr (Or.inr (Or.inr (Or.inr (Or.inr (Or.inr (Or.inr (Or.inr (Or.inr (Or.inr (Or.inr (Or.inr (Or.inr (Or.inr (Or.inl hb))))))))))))))))))
    obtain ⟨m35, e_m35, h⟩ := mx_letE h
    have z15 : mx_out (WSX12_network a) m m35 := by first | exact mx_out_up z14 e_m35 (Or.inr (Or.inr (Or.inr (Or.inr (Or.inr (Or.inr (Or.inl ⟨rfl, rfl⟩))))))) | exact mx_out_ul z14 e_m35 (Or.inr (Or.inr (Or.inr (Or.inr (Or.inr (Or.inr (Or.inl ⟨rfl, rfl⟩))))))) | exact mx_out_cp z14 e_m35 (fun j => (Or.inr (Or.inr (Or.inr (Or.inr (Or.inr (Or.inr (Or.inl ⟨rfl, rfl⟩)))))))) | exact mx_out_cl z14 e_m35 (fun j => (Or.inr (Or.inr (Or.inr (Or.inr (Or.inr (Or.inr (Or.inl ⟨rfl, rfl⟩))))))))
    obtain rfl := Option.some.inj h
    exact z15
set_option maxRecDepth 20000 in
theorem ZX12_fault {a : Nat} {m : mB} {r : (Int32 × mB)} (h : FX12_fault a m = some r) : mx_out (WSX12_fault a) m r.2 := by
  unfold FX12_fault at h
  have z0 : mx_out (WSX12_fault a) m m := mx_out.rf
  obtain ⟨m1, e_m1, h⟩ := mx_letE h
  have z1 : mx_out (WSX12_fault a) m m1 := by first | exact mx_out_up z0 e_m1 ⟨rfl, rfl⟩ | exact mx_out_ul z0 e_m1 ⟨rfl, rfl⟩ | exact mx_out_cp z0 e_m1 (fun j => ⟨rfl, rfl⟩) | exact mx_out_cl z0 e_m1 (fun j => ⟨rfl, rfl⟩)
  obtain rfl := Option.some.inj h
  exact z1
set_option maxRecDepth 20000 in
theorem ZX12_point {a : Nat} {x0 : Int32} {x1 : Int32} {m : mB} {r : (Int32 × mB)} (h : FX12_point a x0 x1 m = some r) : mx_out (WSX12_point a) m r.2 := by
  unfold FX12_point at h
  have z0 : mx_out (WSX12_point a) m m := mx_out.rf
  obtain ⟨m1, e_m1, h⟩ := mx_letE h
  have z1 : mx_out (WSX12_point a) m m1 := by first | exact mx_out_up z0 e_m1 ⟨rfl, rfl⟩ | exact mx_out_ul z0 e_m1 ⟨rfl, rfl⟩ | exact mx_out_cp z0 e_m1 (fun j => ⟨rfl, rfl⟩) | exact mx_out_cl z0 e_m1 (fun j => ⟨rfl, rfl⟩)
  obtain ⟨r2, h_r2, h⟩ := Option.bind_eq_some_iff.mp h
  by_cases hc3z : r2 = 0
  · rw [if_pos hc3z] at h
    obtain ⟨r26, h_r26, h⟩ := Option.bind_eq_some_iff.mp h
    have z2 : mx_out (WSX12_point a) m r26.2 := mx_out.tr z1 (mx_out.sub (ZX12_refuse h_r26) (fun b j hb => hb))
    obtain rfl := Option.some.inj h
    exact z2
  · rw [if_neg hc3z] at h
    by_cases hc4 : x1 = 0
    · rw [if_pos hc4] at h
      obtain ⟨-, h⟩ := mx_chkE h
      obtain rfl := Option.some.inj h
      exact z1
    · rw [if_neg hc4] at h
      by_cases hc6 : x1 = 1
      · rw [if_pos hc6] at h
        obtain ⟨-, h⟩ := mx_chkE h
        obtain rfl := Option.some.inj h
        exact z1
      · rw [if_neg hc6] at h
        by_cases hc8 : x1 = 2
        · rw [if_pos hc8] at h
          by_cases hc9z : x1 = 3
          · rw [if_pos hc9z] at h
            obtain ⟨r11, h_r11, h⟩ := Option.bind_eq_some_iff.mp h
            obtain rfl := Option.some.inj h
            exact z1
          · rw [if_neg hc9z] at h
            obtain ⟨r10, h_r10, h⟩ := Option.bind_eq_some_iff.mp h
            obtain rfl := Option.some.inj h
            exact z1
        · rw [if_neg hc8] at h
          by_cases hc12 : x1 = 3
          · rw [if_pos hc12] at h
            by_cases hc13z : x1 = 3
            · rw [if_pos hc13z] at h
              obtain ⟨r15, h_r15, h⟩ := Option.bind_eq_some_iff.mp h
              obtain rfl := Option.some.inj h
              exact z1
            · rw [if_neg hc13z] at h
              obtain ⟨r14, h_r14, h⟩ := Option.bind_eq_some_iff.mp h
              obtain rfl := Option.some.inj h
              exact z1
          · rw [if_neg hc12] at h
            by_cases hc16 : x1 = 4
            · rw [if_pos hc16] at h
              obtain ⟨q24, h_q24, h⟩ := Option.bind_eq_some_iff.mp h
              obtain rfl := Option.some.inj h
              exact z1
            · rw [if_neg hc16] at h
              obtain ⟨r25, h_r25, h⟩ := Option.bind_eq_some_iff.mp h
              have z3 : mx_out (WSX12_point a) m r25.2 := mx_out.tr z1 (mx_out.sub (ZX12_refuse h_r25) (fun b j hb => hb))
              obtain rfl := Option.some.inj h
              exact z3
set_option maxRecDepth 20000 in
theorem ZX12_leaf_L121 {q0 : Nat} : ∀ (f : Nat) {y3 : Int32} {m : mB} {q : (mB)}, FX12_leaf_L121 q0 f y3 m = some q → mx_out (WSX12_leaf_L121 q0) m q := by
  intro f
  induction f with
  | zero => intro _ _ _ h; cases h
  | succ f ih =>
    intro y3 m q h
    rw [FX12_leaf_L121] at h
    have z0 : mx_out (WSX12_leaf_L121 q0) m m := mx_out.rf
    by_cases hc7z : (m.1 (q0 + 2) 1) ≤ y3
    · rw [if_pos hc7z] at h
      obtain rfl := Option.some.inj h
      exact z0
    · rw [if_neg hc7z] at h
      obtain ⟨-, h⟩ := mx_chkE h
      obtain ⟨-, h⟩ := mx_chkE h
      obtain ⟨-, h⟩ := mx_chkE h
      by_cases hc11z : (m.1 (q0 + 16) (Int32.toNatClampNeg (m.1 (q0 + 2) (Int32.toNatClampNeg (3 + y3))))) = (m.1 (q0 + 2) (Int32.toNatClampNeg (33 + y3)))
      · rw [if_pos hc11z] at h
        obtain ⟨-, h⟩ := mx_chkE h
        obtain ⟨m14, e_m14, h⟩ := mx_letE h
        have z1 : mx_out (WSX12_leaf_L121 q0) m m14 := by first | exact mx_out_up z0 e_m14 rfl | exact mx_out_ul z0 e_m14 rfl | exact mx_out_cp z0 e_m14 (fun j => rfl) | exact mx_out_cl z0 e_m14 (fun j => rfl)
        obtain ⟨v15, -, h⟩ := mx_letE h
        exact mx_out.tr z1 (ih h)
      · rw [if_neg hc11z] at h
        obtain ⟨v12, -, h⟩ := mx_letE h
        exact mx_out.tr z0 (ih h)
set_option maxRecDepth 20000 in
theorem ZX12_leaf_L192 {q0 : Nat} : ∀ (f : Nat) {y3 : Int32} {m : mB} {q : (mB)}, FX12_leaf_L192 q0 f y3 m = some q → mx_out (WSX12_leaf_L192 q0) m q := by
  intro f
  induction f with
  | zero => intro _ _ _ h; cases h
  | succ f ih =>
    intro y3 m q h
    rw [FX12_leaf_L192] at h
    have z0 : mx_out (WSX12_leaf_L192 q0) m m := mx_out.rf
    by_cases hc20z : (m.1 (q0 + 2) 0) ≤ y3
    · rw [if_pos hc20z] at h
      obtain rfl := Option.some.inj h
      exact z0
    · rw [if_neg hc20z] at h
      obtain ⟨-, h⟩ := mx_chkE h
      obtain ⟨-, h⟩ := mx_chkE h
      obtain ⟨m23, e_m23, h⟩ := mx_letE h
      have z2 : mx_out (WSX12_leaf_L192 q0) m m23 := by first | exact mx_out_up z0 e_m23 rfl | exact mx_out_ul z0 e_m23 rfl | exact mx_out_cp z0 e_m23 (fun j => rfl) | exact mx_out_cl z0 e_m23 (fun j => rfl)
      obtain ⟨v24, -, h⟩ := mx_letE h
      exact mx_out.tr z2 (ih h)
set_option maxRecDepth 20000 in
theorem ZX12_leaf_L50 {q0 : Nat} : ∀ (f : Nat) {y3 : Int32} {m : mB} {q : (mB)}, FX12_leaf_L50 q0 f y3 m = some q → mx_out (WSX12_leaf_L50 q0) m q := by
  intro f
  induction f with
  | zero => intro _ _ _ h; cases h
  | succ f ih =>
    intro y3 m q h
    rw [FX12_leaf_L50] at h
    have z0 : mx_out (WSX12_leaf_L50 q0) m m := mx_out.rf
    by_cases hc35z : (m.1 (q0 + 2) 0) ≤ y3
    · rw [if_pos hc35z] at h
      obtain rfl := Option.some.inj h
      exact z0
    · rw [if_neg hc35z] at h
      obtain ⟨-, h⟩ := mx_chkE h
      obtain ⟨m37, e_m37, h⟩ := mx_letE h
      have z3 : mx_out (WSX12_leaf_L50 q0) m m37 := by first | exact mx_out_up z0 e_m37 rfl | exact mx_out_ul z0 e_m37 rfl | exact mx_out_cp z0 e_m37 (fun j => rfl) | exact mx_out_cl z0 e_m37 (fun j => rfl)
      obtain ⟨v38, -, h⟩ := mx_letE h
      exact mx_out.tr z3 (ih h)
set_option maxRecDepth 20000 in
theorem ZX12_leaf {a : Nat} {x0 : Int32} {x1 : Int32} {m : mB} {r : mB} (h : FX12_leaf a x0 x1 m = some r) : mx_out (WSX12_leaf a) m r := by
  unfold FX12_leaf at h
  have z0 : mx_out (WSX12_leaf a) m m := mx_out.rf
  by_cases hc1z : (m.1 a 46) = 0
  · rw [if_pos hc1z] at h
    obtain ⟨-, h⟩ := mx_chkE h
    obtain ⟨m29, e_m29, h⟩ := mx_letE h
    have z4 : mx_out (WSX12_leaf a) m m29 := by first | exact mx_out_up z0 e_m29 (Or.inr (Or.inr (Or.inr (Or.inr (Or.inr (Or.inr (Or.inl rfl))))))) | exact mx_out_ul z0 e_m29 (Or.inr (Or.inr (Or.inr (Or.inr (Or.inr (Or.inr (Or.inl rfl))))))) | exact mx_out_cp z0 e_m29 (fun j => (Or.inr (Or.inr (Or.inr (Or.inr (Or.inr (Or.inr (Or.inl rfl)))))))) | exact mx_out_cl z0 e_m29 (fun j => (Or.inr (Or.inr (Or.inr (Or.inr (Or.inr (Or.inr (Or.inl rfl))))))))
    refine mx_letK (J := fun k32 => ∀ {m31 : mB}, k32 m31 = some r → mx_out (WSX12_leaf a) m m31 → mx_out (WSX12_leaf a) m r) h ?_ (fun k32 z_k32 h => ?_)
    · intro m31 h z5
      dsimp only at h
      by_cases hc33z : (m31.1 a 41) < x0
      · rw [if_pos hc33z] at h
        obtain ⟨m34, e_m34, h⟩ := mx_letE h
        have z6 : mx_out (WSX12_leaf a) m m34 := by first | exact mx_out_up z5 e_m34 (Or.inl ⟨rfl, rfl⟩) | exact mx_out_ul z5 e_m34 (Or.inl ⟨rfl, rfl⟩) | exact mx_out_cp z5 e_m34 (fun j => (Or.inl ⟨rfl, rfl⟩)) | exact mx_out_cl z5 e_m34 (fun j => (Or.inl ⟨rfl, rfl⟩))
        obtain ⟨q39, h_q39, h⟩ := Option.bind_eq_some_iff.mp h
        have z7 := mx_out.tr z6 (mx_out.sub (S := (WSX12_leaf a)) (ZX12_leaf_L50 mx_FU h_q39) (fun b j hb => (Or.inr (Or.inr (Or.inr (Or.inr (Or.inl hb)))))))
        obtain rfl := Option.some.inj h
        exact z7
      · rw [if_neg hc33z] at h
        obtain rfl := Option.some.inj h
        exact z5
    by_cases hc30z : x0 ≤ (m29.1 (a + 19) (Int32.toNatClampNeg x1))
    · rw [if_pos hc30z] at h
      exact z_k32 h z4
    · rw [if_neg hc30z] at h
      obtain ⟨m40, e_m40, h⟩ := mx_letE h
      have z8 : mx_out (WSX12_leaf a) m m40 := by first | exact mx_out_up z4 e_m40 (Or.inr (Or.inr (Or.inr (Or.inr (Or.inr (Or.inl rfl)))))) | exact mx_out_ul z4 e_m40 (Or.inr (Or.inr (Or.inr (Or.inr (Or.inr (Or.inl rfl)))))) | exact mx_out_cp z4 e_m40 (fun j => (Or.inr (Or.inr (Or.inr (Or.inr (Or.inr (Or.inl rfl))))))) | exact mx_out_cl z4 e_m40 (fun j => (Or.inr (Or.inr (Or.inr (Or.inr (Or.inr (Or.inl rfl)))))))
      exact z_k32 h z8
  · rw [if_neg hc1z] at h
    refine mx_letK (J := fun k4 => ∀ {m3 : mB}, k4 m3 = some r → mx_out (WSX12_leaf a) m m3 → mx_out (WSX12_leaf a) m r) h ?_ (fun k4 z_k4 h => ?_)
    · intro m3 h z9
      dsimp only at h
      by_cases hc5z : x0 = (m3.1 a 41)
      · rw [if_pos hc5z] at h
        obtain ⟨m6, e_m6, h⟩ := mx_letE h
        have z10 : mx_out (WSX12_leaf a) m m6 := by first | exact mx_out_up z9 e_m6 (Or.inr (Or.inr (Or.inl ⟨rfl, rfl⟩))) | exact mx_out_ul z9 e_m6 (Or.inr (Or.inr (Or.inl ⟨rfl, rfl⟩))) | exact mx_out_cp z9 e_m6 (fun j => (Or.inr (Or.inr (Or.inl ⟨rfl, rfl⟩)))) | exact mx_out_cl z9 e_m6 (fun j => (Or.inr (Or.inr (Or.inl ⟨rfl, rfl⟩))))
        obtain ⟨q16, h_q16, h⟩ := Option.bind_eq_some_iff.mp h
        have z11 := mx_out.tr z10 (mx_out.sub (S := (WSX12_leaf a)) (ZX12_leaf_L121 mx_FU h_q16) (fun b j hb => (Or.inr (Or.inr (Or.inr (Or.inr (Or.inr (Or.inr (Or.inr (Or.inl hb))))))))))
        obtain ⟨r17, h_r17, h⟩ := Option.bind_eq_some_iff.mp h
        by_cases hc18z : r17 = 0
        · rw [if_pos hc18z] at h
          obtain rfl := Option.some.inj h
          exact z11
        · rw [if_neg hc18z] at h
          obtain ⟨m19, e_m19, h⟩ := mx_letE h
          have z12 : mx_out (WSX12_leaf a) m m19 := by first | exact mx_out_up z11 e_m19 (Or.inr (Or.inr (Or.inr (Or.inl ⟨rfl, rfl⟩)))) | exact mx_out_ul z11 e_m19 (Or.inr (Or.inr (Or.inr (Or.inl ⟨rfl, rfl⟩)))) | exact mx_out_cp z11 e_m19 (fun j => (Or.inr (Or.inr (Or.inr (Or.inl ⟨rfl, rfl⟩))))) | exact mx_out_cl z11 e_m19 (fun j => (Or.inr (Or.inr (Or.inr (Or.inl ⟨rfl, rfl⟩)))))
          obtain ⟨q25, h_q25, h⟩ := Option.bind_eq_some_iff.mp h
          have z13 := mx_out.tr z12 (mx_out.sub (S := (WSX12_leaf a)) (ZX12_leaf_L192 mx_FU h_q25) (fun b j hb => (Or.inr (Or.inr (Or.inr (Or.inr (Or.inr (Or.inr (Or.inr (Or.inr hb))))))))))
          obtain rfl := Option.some.inj h
          exact z13
      · rw [if_neg hc5z] at h
        obtain rfl := Option.some.inj h
        exact z9
    by_cases hc2z : (m.1 a 41) ≤ x0
    · rw [if_pos hc2z] at h
      exact z_k4 h z0
    · rw [if_neg hc2z] at h
      by_cases hc26z : x0 ≤ (m.1 a 42)
      · rw [if_pos hc26z] at h
        exact z_k4 h z0
      · rw [if_neg hc26z] at h
        obtain ⟨m27, e_m27, h⟩ := mx_letE h
        have z14 : mx_out (WSX12_leaf a) m m27 := by first | exact mx_out_up z0 e_m27 (Or.inr (Or.inl ⟨rfl, rfl⟩)) | exact mx_out_ul z0 e_m27 (Or.inr (Or.inl ⟨rfl, rfl⟩)) | exact mx_out_cp z0 e_m27 (fun j => (Or.inr (Or.inl ⟨rfl, rfl⟩))) | exact mx_out_cl z0 e_m27 (fun j => (Or.inr (Or.inl ⟨rfl, rfl⟩)))
        exact z_k4 h z14
set_option maxRecDepth 20000 in
theorem ZX12_walk_L55 {rec : Nat → Int32 → Int32 → Int32 → mB → Option mB} {q0 : Nat} {y2 : Int32} {y3 : Int32} {y4 : Int32} (zrec : ∀ {a : Nat} {x0 : Int32} {x1 : Int32} {x2 : Int32} {m : mB} {r : mB}, rec a x0 x1 x2 m = some r → mx_out (WSX12_walk a) m r) : ∀ (f : Nat) {y5 : Int32} {m : mB} {q : (mB)}, FX12_walk_L55 rec q0 y2 y3 y4 f y5 m = some q → mx_out (WSX12_walk_L55 q0) m q := by
  intro f
  induction f with
  | zero => intro _ _ _ h; cases h
  | succ f ih =>
    intro y5 m q h
    rw [FX12_walk_L55] at h
    have z0 : mx_out (WSX12_walk_L55 q0) m m := mx_out.rf
    by_cases hc8z : (m.1 (q0 + 2) 0) ≤ y5
    · rw [if_pos hc8z] at h
      obtain rfl := Option.some.inj h
      exact z0
    · rw [if_neg hc8z] at h
      obtain ⟨-, h⟩ := mx_chkE h
      by_cases hc10z : (m.1 (q0 + 16) (Int32.toNatClampNeg y5)) = (-1)
      · rw [if_pos hc10z] at h
        obtain ⟨r12, h_r12, h⟩ := Option.bind_eq_some_iff.mp h
        by_cases hc13z : r12 = 0
        · rw [if_pos hc13z] at h
          obtain ⟨v23, -, h⟩ := mx_letE h
          exact mx_out.tr z0 (ih h)
        · rw [if_neg hc13z] at h
          obtain ⟨-, h⟩ := mx_chkE h
          obtain ⟨m14, e_m14, h⟩ := mx_letE h
          have z1 : mx_out (WSX12_walk_L55 q0) m m14 := by first | exact mx_out_up z0 e_m14 (Or.inr (Or.inr (Or.inr (Or.inr (Or.inl rfl))))) | exact mx_out_ul z0 e_m14 (Or.inr (Or.inr (Or.inr (Or.inr (Or.inl rfl))))) | exact mx_out_cp z0 e_m14 (fun j => (Or.inr (Or.inr (Or.inr (Or.inr (Or.inl rfl)))))) | exact mx_out_cl z0 e_m14 (fun j => (Or.inr (Or.inr (Or.inr (Or.inr (Or.inl rfl))))))
          obtain ⟨m16, e_m16, h⟩ := mx_letE h
          have z2 : mx_out (WSX12_walk_L55 q0) m m16 := by first | exact mx_out_up z1 e_m16 (Or.inr (Or.inr (Or.inr (Or.inr (Or.inl rfl))))) | exact mx_out_ul z1 e_m16 (Or.inr (Or.inr (Or.inr (Or.inr (Or.inl rfl))))) | exact mx_out_cp z1 e_m16 (fun j => (Or.inr (Or.inr (Or.inr (Or.inr (Or.inl rfl)))))) | exact mx_out_cl z1 e_m16 (fun j => (Or.inr (Or.inr (Or.inr (Or.inr (Or.inl rfl))))))
          obtain ⟨r17, h_r17, h⟩ := Option.bind_eq_some_iff.mp h
          obtain ⟨-, h⟩ := mx_chkE h
          obtain ⟨r19, h_r19, h⟩ := Option.bind_eq_some_iff.mp h
          have z3 : mx_out (WSX12_walk_L55 q0) m r19 := mx_out.tr z2 (mx_out.sub (zrec h_r19) (fun b j hb => (Or.elim hb (fun h0 => (Or.inl h0)) (fun g0 => (Or.elim g0 (fun h1 => (Or.inr (Or.inl h1))) (fun g1 => (Or.elim g1 (fun h2 => (Or.inr (Or.inr (Or.inl h2)))) (fun g2 => (Or.elim g2 (fun h3 => (Or.inr (Or.inr (Or.inr (Or.inl h3))))) (fun g3 => (Or.elim g3 (fun h4 => (Or.inr (Or.inr (Or.inr (Or.inr (Or.inl h4)))))) (fun g4 => (Or.elim g4 (fun h5 => (Or.inr (Or.inr (Or.inr (Or.inr (Or.inr (Or.inl h5))))))) (fun g5 => (Or.elim g5 (fun h6 => (Or.inr (Or.inr (Or.inr (Or.inr (Or.inr (Or.inr (Or.inl h6)))))))) (fun g6 => (Or.elim g6 (fun h7 => (Or.inr (Or.inr (Or.inr (Or.inr (Or.inr (Or.inr (Or.inr (Or.inl h7))))))))) (fun g7 => (Or.elim g7 (fun h8 => (Or.inr (Or.inr (Or.inr (Or.inr (Or.inr (Or.inr (Or.inr (Or.inr (Or.inl h8)))))))))) (fun g8 => (Or.inr (Or.inr (Or.inr (Or.inr (Or.inr (Or.inr (Or.inr (Or.inr (Or.inr g8)))))))))))))))))))))))))))))
          obtain ⟨m20, e_m20, h⟩ := mx_letE h
          have z4 : mx_out (WSX12_walk_L55 q0) m m20 := by first | exact mx_out_up z3 e_m20 (Or.inr (Or.inr (Or.inr (Or.inr (Or.inl rfl))))) | exact mx_out_ul z3 e_m20 (Or.inr (Or.inr (Or.inr (Or.inr (Or.inl rfl))))) | exact mx_out_cp z3 e_m20 (fun j => (Or.inr (Or.inr (Or.inr (Or.inr (Or.inl rfl)))))) | exact mx_out_cl z3 e_m20 (fun j => (Or.inr (Or.inr (Or.inr (Or.inr (Or.inl rfl))))))
          obtain ⟨m21, e_m21, h⟩ := mx_letE h
          have z5 : mx_out (WSX12_walk_L55 q0) m m21 := by first | exact mx_out_up z4 e_m21 (Or.inr (Or.inr (Or.inr (Or.inr (Or.inl rfl))))) | exact mx_out_ul z4 e_m21 (Or.inr (Or.inr (Or.inr (Or.inr (Or.inl rfl))))) | exact mx_out_cp z4 e_m21 (fun j => (Or.inr (Or.inr (Or.inr (Or.inr (Or.inl rfl)))))) | exact mx_out_cl z4 e_m21 (fun j => (Or.inr (Or.inr (Or.inr (Or.inr (Or.inl rfl))))))
          obtain ⟨v22, -, h⟩ := mx_letE h
          exact mx_out.tr z5 (ih h)
      · rw [if_neg hc10z] at h
        obtain ⟨v11, -, h⟩ := mx_letE h
        exact mx_out.tr z0 (ih h)
set_option maxRecDepth 20000 in
theorem ZX12_walk_B {rec : Nat → Int32 → Int32 → Int32 → mB → Option mB} {a : Nat} {x0 : Int32} {x1 : Int32} {x2 : Int32} {m : mB} {r : mB} (zrec : ∀ {a : Nat} {x0 : Int32} {x1 : Int32} {x2 : Int32} {m : mB} {r : mB}, rec a x0 x1 x2 m = some r → mx_out (WSX12_walk a) m r) (h : FX12_walk_B rec a x0 x1 x2 m = some r) : mx_out (WSX12_walk a) m r := by
  unfold FX12_walk_B at h
  have z0 : mx_out (WSX12_walk a) m m := mx_out.rf
  obtain ⟨q5, h_q5, h⟩ := Option.bind_eq_some_iff.mp h
  by_cases hc6z : q5 = (m.1 (a + 2) 0)
  · rw [if_pos hc6z] at h
    obtain ⟨r26, h_r26, h⟩ := Option.bind_eq_some_iff.mp h
    have z6 : mx_out (WSX12_walk a) m r26 := mx_out.tr z0 (mx_out.sub (ZX12_leaf h_r26) (fun b j hb => (Or.elim hb (fun h0 => (Or.inl h0)) (fun g0 => (Or.elim g0 (fun h1 => (Or.inr (Or.inl h1))) (fun g1 => (Or.elim g1 (fun h2 => (Or.inr (Or.inr (Or.inl h2)))) (fun g2 => (Or.elim g2 (fun h3 => (Or.inr (Or.inr (Or.inr (Or.inl h3))))) (fun g3 => (Or.elim g3 (fun h4 => (Or.inr (Or.inr (Or.inr (Or.inr (Or.inr (Or.inl h4))))))) (fun g4 => (Or.elim g4 (fun h5 => (Or.inr (Or.inr (Or.inr (Or.inr (Or.inr (Or.inr (Or.inl h5)))))))) (fun g5 => (Or.elim g5 (fun h6 => (Or.inr (Or.inr (Or.inr (Or.inr (Or.inr (Or.inr (Or.inr (Or.inl h6))))))))) (fun g6 => (Or.elim g6 (fun h7 => (Or.inr (Or.inr (Or.inr (Or.inr (Or.inr (Or.inr (Or.inr (Or.inr (Or.inl h7)))))))))) (fun g7 => (Or.inr (Or.inr (Or.inr (Or.inr (Or.inr (Or.inr (Or.inr (Or.inr (Or.inr g7)))))))))))))))))))))))))))
    obtain rfl := Option.some.inj h
    exact z6
  · rw [if_neg hc6z] at h
    obtain ⟨v7, -, h⟩ := mx_letE h
    obtain ⟨q24, h_q24, h⟩ := Option.bind_eq_some_iff.mp h
    have z7 := mx_out.tr z0 (mx_out.sub (S := (WSX12_walk a)) (ZX12_walk_L55 zrec mx_FU h_q24) (fun b j hb => (Or.elim hb (fun h0 => (Or.inl h0)) (fun g0 => (Or.elim g0 (fun h1 => (Or.inr (Or.inl h1))) (fun g1 => (Or.elim g1 (fun h2 => (Or.inr (Or.inr (Or.inl h2)))) (fun g2 => (Or.elim g2 (fun h3 => (Or.inr (Or.inr (Or.inr (Or.inl h3))))) (fun g3 => (Or.elim g3 (fun h4 => (Or.inr (Or.inr (Or.inr (Or.inr (Or.inl h4)))))) (fun g4 => (Or.elim g4 (fun h5 => (Or.inr (Or.inr (Or.inr (Or.inr (Or.inr (Or.inl h5))))))) (fun g5 => (Or.elim g5 (fun h6 => (Or.inr (Or.inr (Or.inr (Or.inr (Or.inr (Or.inr (Or.inl h6)))))))) (fun g6 => (Or.elim g6 (fun h7 => (Or.inr (Or.inr (Or.inr (Or.inr (Or.inr (Or.inr (Or.inr (Or.inl h7))))))))) (fun g7 => (Or.elim g7 (fun h8 => (Or.inr (Or.inr (Or.inr (Or.inr (Or.inr (Or.inr (Or.inr (Or.inr (Or.inl h8)))))))))) (fun g8 => (Or.inr (Or.inr (Or.inr (Or.inr (Or.inr (Or.inr (Or.inr (Or.inr (Or.inr g8)))))))))))))))))))))))))))))
    obtain ⟨r25, h_r25, h⟩ := Option.bind_eq_some_iff.mp h
    have z8 : mx_out (WSX12_walk a) m r25 := mx_out.tr z7 (mx_out.sub (zrec h_r25) (fun b j hb => (Or.elim hb (fun h0 => (Or.inl h0)) (fun g0 => (Or.elim g0 (fun h1 => (Or.inr (Or.inl h1))) (fun g1 => (Or.elim g1 (fun h2 => (Or.inr (Or.inr (Or.inl h2)))) (fun g2 => (Or.elim g2 (fun h3 => (Or.inr (Or.inr (Or.inr (Or.inl h3))))) (fun g3 => (Or.elim g3 (fun h4 => (Or.inr (Or.inr (Or.inr (Or.inr (Or.inl h4)))))) (fun g4 => (Or.elim g4 (fun h5 => (Or.inr (Or.inr (Or.inr (Or.inr (Or.inr (Or.inl h5))))))) (fun g5 => (Or.elim g5 (fun h6 => (Or.inr (Or.inr (Or.inr (Or.inr (Or.inr (Or.inr (Or.inl h6)))))))) (fun g6 => (Or.elim g6 (fun h7 => (Or.inr (Or.inr (Or.inr (Or.inr (Or.inr (Or.inr (Or.inr (Or.inl h7))))))))) (fun g7 => (Or.elim g7 (fun h8 => (Or.inr (Or.inr (Or.inr (Or.inr (Or.inr (Or.inr (Or.inr (Or.inr (Or.inl h8)))))))))) (fun g8 => (Or.inr (Or.inr (Or.inr (Or.inr (Or.inr (Or.inr (Or.inr (Or.inr (Or.inr g8)))))))))))))))))))))))))))))
    obtain rfl := Option.some.inj h
    exact z8
theorem ZX12_walk : ∀ (D : Nat) {a : Nat} {x0 : Int32} {x1 : Int32} {x2 : Int32} {m : mB} {r : mB}, FX12_walk D a x0 x1 x2 m = some r → mx_out (WSX12_walk a) m r := by
  intro D
  induction D with
  | zero => intro _ _ _ _ _ _ h; cases h
  | succ D ih =>
    intro a x0 x1 x2 m r h
    rw [FX12_walk] at h
    exact ZX12_walk_B (rec := FX12_walk D) (fun {_ _ _ _} {_} {_} hz => ih hz) h
set_option maxRecDepth 20000 in
theorem ZX12_survey_L7 {q0 : Nat} : ∀ (f : Nat) {y1 : Int32} {m : mB} {q : (mB)}, FX12_survey_L7 q0 f y1 m = some q → mx_out (WSX12_survey_L7 q0) m q := by
  intro f
  induction f with
  | zero => intro _ _ _ h; cases h
  | succ f ih =>
    intro y1 m q h
    rw [FX12_survey_L7] at h
    have z0 : mx_out (WSX12_survey_L7 q0) m m := mx_out.rf
    by_cases hc2z : 5 < y1
    · rw [if_pos hc2z] at h
      obtain rfl := Option.some.inj h
      exact z0
    · rw [if_neg hc2z] at h
      obtain ⟨-, h⟩ := mx_chkE h
      obtain ⟨m3, e_m3, h⟩ := mx_letE h
      have z1 : mx_out (WSX12_survey_L7 q0) m m3 := by first | exact mx_out_up z0 e_m3 (Or.inl rfl) | exact mx_out_ul z0 e_m3 (Or.inl rfl) | exact mx_out_cp z0 e_m3 (fun j => (Or.inl rfl)) | exact mx_out_cl z0 e_m3 (fun j => (Or.inl rfl))
      obtain ⟨m5, e_m5, h⟩ := mx_letE h
      have z2 : mx_out (WSX12_survey_L7 q0) m m5 := by first | exact mx_out_up z1 e_m5 (Or.inr rfl) | exact mx_out_ul z1 e_m5 (Or.inr rfl) | exact mx_out_cp z1 e_m5 (fun j => (Or.inr rfl)) | exact mx_out_cl z1 e_m5 (fun j => (Or.inr rfl))
      obtain ⟨v6, -, h⟩ := mx_letE h
      exact mx_out.tr z2 (ih h)
set_option maxRecDepth 20000 in
theorem ZX12_survey_L34 {q0 : Nat} : ∀ (f : Nat) {y1 : Int32} {m : mB} {q : (mB)}, FX12_survey_L34 q0 f y1 m = some q → mx_out (WSX12_survey_L34 q0) m q := by
  intro f
  induction f with
  | zero => intro _ _ _ h; cases h
  | succ f ih =>
    intro y1 m q h
    rw [FX12_survey_L34] at h
    have z0 : mx_out (WSX12_survey_L34 q0) m m := mx_out.rf
    by_cases hc8z : 10 ≤ y1
    · rw [if_pos hc8z] at h
      obtain rfl := Option.some.inj h
      exact z0
    · rw [if_neg hc8z] at h
      obtain ⟨-, h⟩ := mx_chkE h
      obtain ⟨m9, e_m9, h⟩ := mx_letE h
      have z3 : mx_out (WSX12_survey_L34 q0) m m9 := by first | exact mx_out_up z0 e_m9 rfl | exact mx_out_ul z0 e_m9 rfl | exact mx_out_cp z0 e_m9 (fun j => rfl) | exact mx_out_cl z0 e_m9 (fun j => rfl)
      obtain ⟨v11, -, h⟩ := mx_letE h
      exact mx_out.tr z3 (ih h)
set_option maxRecDepth 20000 in
theorem ZX12_survey {a : Nat} {m : mB} {r : mB} (h : FX12_survey a m = some r) : mx_out (WSX12_survey a) m r := by
  unfold FX12_survey at h
  have z0 : mx_out (WSX12_survey a) m m := mx_out.rf
  obtain ⟨m1, e_m1, h⟩ := mx_letE h
  have z4 : mx_out (WSX12_survey a) m m1 := by first | exact mx_out_up z0 e_m1 (Or.inl ⟨rfl, rfl⟩) | exact mx_out_ul z0 e_m1 (Or.inl ⟨rfl, rfl⟩) | exact mx_out_cp z0 e_m1 (fun j => (Or.inl ⟨rfl, rfl⟩)) | exact mx_out_cl z0 e_m1 (fun j => (Or.inl ⟨rfl, rfl⟩))
  obtain ⟨q7, h_q7, h⟩ := Option.bind_eq_some_iff.mp h
  have z5 := mx_out.tr z4 (mx_out.sub (S := (WSX12_survey a)) (ZX12_survey_L7 mx_FU h_q7) (fun b j hb => (Or.elim hb (fun h0 => (Or.inr (Or.inr (Or.inr (Or.inr (Or.inr (Or.inr (Or.inr (Or.inl h0))))))))) (fun g0 => (Or.inr (Or.inr (Or.inr (Or.inr (Or.inr (Or.inr (Or.inr (Or.inr (Or.inl g0)))))))))))))
  obtain ⟨q12, h_q12, h⟩ := Option.bind_eq_some_iff.mp h
  have z6 := mx_out.tr z5 (mx_out.sub (S := (WSX12_survey a)) (ZX12_survey_L34 mx_FU h_q12) (fun b j hb => (Or.inr (Or.inr (Or.inr (Or.inr (Or.inr (Or.inl hb))))))))
  obtain ⟨m13, e_m13, h⟩ := mx_letE h
  have z7 : mx_out (WSX12_survey a) m m13 := by first | exact mx_out_up z6 e_m13 (Or.inr (Or.inr (Or.inr (Or.inr (Or.inl ⟨rfl, rfl⟩))))) | exact mx_out_ul z6 e_m13 (Or.inr (Or.inr (Or.inr (Or.inr (Or.inl ⟨rfl, rfl⟩))))) | exact mx_out_cp z6 e_m13 (fun j => (Or.inr (Or.inr (Or.inr (Or.inr (Or.inl ⟨rfl, rfl⟩)))))) | exact mx_out_cl z6 e_m13 (fun j => (Or.inr (Or.inr (Or.inr (Or.inr (Or.inl ⟨rfl, rfl⟩))))))
  obtain ⟨r14, h_r14, h⟩ := Option.bind_eq_some_iff.mp h
  have z8 : mx_out (WSX12_survey a) m r14 := mx_out.tr z7 (mx_out.sub (ZX12_walk 64 h_r14) (fun b j hb => (Or.elim hb (fun h0 => (Or.inl h0)) (fun g0 => (Or.elim g0 (fun h1 => (Or.inr (Or.inl h1))) (fun g1 => (Or.elim g1 (fun h2 => (Or.inr (Or.inr (Or.inl h2)))) (fun g2 => (Or.elim g2 (fun h3 => (Or.inr (Or.inr (Or.inr (Or.inl h3))))) (fun g3 => (Or.elim g3 (fun h4 => (Or.inr (Or.inr (Or.inr (Or.inr (Or.inr (Or.inl h4))))))) (fun g4 => (Or.elim g4 (fun h5 => (Or.inr (Or.inr (Or.inr (Or.inr (Or.inr (Or.inr (Or.inl h5)))))))) (fun g5 => (Or.elim g5 (fun h6 => (Or.inr (Or.inr (Or.inr (Or.inr (Or.inr (Or.inr (Or.inr (Or.inl h6))))))))) (fun g6 => (Or.elim g6 (fun h7 => (Or.inr (Or.inr (Or.inr (Or.inr (Or.inr (Or.inr (Or.inr (Or.inr (Or.inl h7)))))))))) (fun g7 => (Or.elim g7 (fun h8 => (Or.inr (Or.inr (Or.inr (Or.inr (Or.inr (Or.inr (Or.inr (Or.inr (Or.inr (Or.inl h8))))))))))) (fun g8 => (Or.inr (Or.inr (Or.inr (Or.inr (Or.inr (Or.inr (Or.inr (Or.inr (Or.inr (Or.inr g8))))))))))))))))))))))))))))))
  obtain rfl := Option.some.inj h
  exact z8
set_option maxRecDepth 20000 in
theorem ZX12_surveyMost_L21 {q0 : Nat} : ∀ (f : Nat) {y1 : Int32} {m : mB} {q : (mB)}, FX12_surveyMost_L21 q0 f y1 m = some q → mx_out (WSX12_surveyMost_L21 q0) m q := by
  intro f
  induction f with
  | zero => intro _ _ _ h; cases h
  | succ f ih =>
    intro y1 m q h
    rw [FX12_surveyMost_L21] at h
    have z0 : mx_out (WSX12_surveyMost_L21 q0) m m := mx_out.rf
    by_cases hc5z : 30 ≤ y1
    · rw [if_pos hc5z] at h
      obtain rfl := Option.some.inj h
      exact z0
    · rw [if_neg hc5z] at h
      obtain ⟨-, h⟩ := mx_chkE h
      obtain ⟨m6, e_m6, h⟩ := mx_letE h
      have z1 : mx_out (WSX12_surveyMost_L21 q0) m m6 := by first | exact mx_out_up z0 e_m6 rfl | exact mx_out_ul z0 e_m6 rfl | exact mx_out_cp z0 e_m6 (fun j => rfl) | exact mx_out_cl z0 e_m6 (fun j => rfl)
      obtain ⟨v8, -, h⟩ := mx_letE h
      exact mx_out.tr z1 (ih h)
set_option maxRecDepth 20000 in
theorem ZX12_surveyMost_L42 {q0 : Nat} : ∀ (f : Nat) {y1 : Int32} {m : mB} {q : (mB)}, FX12_surveyMost_L42 q0 f y1 m = some q → mx_out (WSX12_surveyMost_L42 q0) m q := by
  intro f
  induction f with
  | zero => intro _ _ _ h; cases h
  | succ f ih =>
    intro y1 m q h
    rw [FX12_surveyMost_L42] at h
    have z0 : mx_out (WSX12_surveyMost_L42 q0) m m := mx_out.rf
    by_cases hc10z : 110 ≤ y1
    · rw [if_pos hc10z] at h
      obtain rfl := Option.some.inj h
      exact z0
    · rw [if_neg hc10z] at h
      obtain ⟨-, h⟩ := mx_chkE h
      obtain ⟨m11, e_m11, h⟩ := mx_letE h
      have z2 : mx_out (WSX12_surveyMost_L42 q0) m m11 := by first | exact mx_out_up z0 e_m11 rfl | exact mx_out_ul z0 e_m11 rfl | exact mx_out_cp z0 e_m11 (fun j => rfl) | exact mx_out_cl z0 e_m11 (fun j => rfl)
      obtain ⟨v13, -, h⟩ := mx_letE h
      exact mx_out.tr z2 (ih h)
set_option maxRecDepth 20000 in
theorem ZX12_surveyMost {a : Nat} {m : mB} {r : mB} (h : FX12_surveyMost a m = some r) : mx_out (WSX12_surveyMost a) m r := by
  unfold FX12_surveyMost at h
  have z0 : mx_out (WSX12_surveyMost a) m m := mx_out.rf
  obtain ⟨r1, h_r1, h⟩ := Option.bind_eq_some_iff.mp h
  have z3 : mx_out (WSX12_surveyMost a) m r1 := mx_out.tr z0 (mx_out.sub (ZX12_survey h_r1) (fun b j hb => (Or.elim hb (fun h0 => (Or.inl h0)) (fun g0 => (Or.elim g0 (fun h1 => (Or.inr (Or.inl h1))) (fun g1 => (Or.elim g1 (fun h2 => (Or.inr (Or.inr (Or.inl h2)))) (fun g2 => (Or.elim g2 (fun h3 => (Or.inr (Or.inr (Or.inr (Or.inl h3))))) (fun g3 => (Or.elim g3 (fun h4 => (Or.inr (Or.inr (Or.inr (Or.inr (Or.inl h4)))))) (fun g4 => (Or.elim g4 (fun h5 => (Or.inr (Or.inr (Or.inr (Or.inr (Or.inr (Or.inl h5))))))) (fun g5 => (Or.elim g5 (fun h6 => (Or.inr (Or.inr (Or.inr (Or.inr (Or.inr (Or.inr (Or.inl h6)))))))) (fun g6 => (Or.elim g6 (fun h7 => (Or.inr (Or.inr (Or.inr (Or.inr (Or.inr (Or.inr (Or.inr (Or.inl h7))))))))) (fun g7 => (Or.elim g7 (fun h8 => (Or.inr (Or.inr (Or.inr (Or.inr (Or.inr (Or.inr (Or.inr (Or.inr (Or.inl h8)))))))))) (fun g8 => (Or.elim g8 (fun h9 => (Or.inr (Or.inr (Or.inr (Or.inr (Or.inr (Or.inr (Or.inr (Or.inr (Or.inr (Or.inl h9))))))))))) (fun g9 => (Or.inr (Or.inr (Or.inr (Or.inr (Or.inr (Or.inr (Or.inr (Or.inr (Or.inr (Or.inr g9))))))))))))))))))))))))))))))))
  obtain ⟨m2, e_m2, h⟩ := mx_letE h
  have z4 : mx_out (WSX12_surveyMost a) m m2 := by first | exact mx_out_up z3 e_m2 (Or.inr (Or.inl ⟨rfl, rfl⟩)) | exact mx_out_ul z3 e_m2 (Or.inr (Or.inl ⟨rfl, rfl⟩)) | exact mx_out_cp z3 e_m2 (fun j => (Or.inr (Or.inl ⟨rfl, rfl⟩))) | exact mx_out_cl z3 e_m2 (fun j => (Or.inr (Or.inl ⟨rfl, rfl⟩)))
  obtain ⟨m3, e_m3, h⟩ := mx_letE h
  have z5 : mx_out (WSX12_surveyMost a) m m3 := by first | exact mx_out_up z4 e_m3 (Or.inr (Or.inr (Or.inl ⟨rfl, rfl⟩))) | exact mx_out_ul z4 e_m3 (Or.inr (Or.inr (Or.inl ⟨rfl, rfl⟩))) | exact mx_out_cp z4 e_m3 (fun j => (Or.inr (Or.inr (Or.inl ⟨rfl, rfl⟩)))) | exact mx_out_cl z4 e_m3 (fun j => (Or.inr (Or.inr (Or.inl ⟨rfl, rfl⟩))))
  obtain ⟨m4, e_m4, h⟩ := mx_letE h
  have z6 : mx_out (WSX12_surveyMost a) m m4 := by first | exact mx_out_up z5 e_m4 (Or.inr (Or.inr (Or.inr (Or.inl ⟨rfl, rfl⟩)))) | exact mx_out_ul z5 e_m4 (Or.inr (Or.inr (Or.inr (Or.inl ⟨rfl, rfl⟩)))) | exact mx_out_cp z5 e_m4 (fun j => (Or.inr (Or.inr (Or.inr (Or.inl ⟨rfl, rfl⟩))))) | exact mx_out_cl z5 e_m4 (fun j => (Or.inr (Or.inr (Or.inr (Or.inl ⟨rfl, rfl⟩)))))
  obtain ⟨q9, h_q9, h⟩ := Option.bind_eq_some_iff.mp h
  have z7 := mx_out.tr z6 (mx_out.sub (S := (WSX12_surveyMost a)) (ZX12_surveyMost_L21 mx_FU h_q9) (fun b j hb => (Or.inr (Or.inr (Or.inr (Or.inr (Or.inr (Or.inr (Or.inr (Or.inr (Or.inr (Or.inl hb))))))))))))
  obtain ⟨q14, h_q14, h⟩ := Option.bind_eq_some_iff.mp h
  have z8 := mx_out.tr z7 (mx_out.sub (S := (WSX12_surveyMost a)) (ZX12_surveyMost_L42 mx_FU h_q14) (fun b j hb => (Or.inr (Or.inr (Or.inr (Or.inr (Or.inr (Or.inr (Or.inr (Or.inr (Or.inr (Or.inr hb))))))))))))
  obtain ⟨m15, e_m15, h⟩ := mx_letE h
  have z9 : mx_out (WSX12_surveyMost a) m m15 := by first | exact mx_out_up z8 e_m15 (Or.inr (Or.inr (Or.inr (Or.inr (Or.inl ⟨rfl, rfl⟩))))) | exact mx_out_ul z8 e_m15 (Or.inr (Or.inr (Or.inr (Or.inr (Or.inl ⟨rfl, rfl⟩))))) | exact mx_out_cp z8 e_m15 (fun j => (Or.inr (Or.inr (Or.inr (Or.inr (Or.inl ⟨rfl, rfl⟩)))))) | exact mx_out_cl z8 e_m15 (fun j => (Or.inr (Or.inr (Or.inr (Or.inr (Or.inl ⟨rfl, rfl⟩))))))
  obtain ⟨r16, h_r16, h⟩ := Option.bind_eq_some_iff.mp h
  have z10 : mx_out (WSX12_surveyMost a) m r16 := mx_out.tr z9 (mx_out.sub (ZX12_walk 64 h_r16) (fun b j hb => (Or.elim hb (fun h0 => (Or.inl h0)) (fun g0 => (Or.elim g0 (fun h1 => (Or.inr (Or.inl h1))) (fun g1 => (Or.elim g1 (fun h2 => (Or.inr (Or.inr (Or.inl h2)))) (fun g2 => (Or.elim g2 (fun h3 => (Or.inr (Or.inr (Or.inr (Or.inl h3))))) (fun g3 => (Or.elim g3 (fun h4 => (Or.inr (Or.inr (Or.inr (Or.inr (Or.inr (Or.inl h4))))))) (fun g4 => (Or.elim g4 (fun h5 => (Or.inr (Or.inr (Or.inr (Or.inr (Or.inr (Or.inr (Or.inl h5)))))))) (fun g5 => (Or.elim g5 (fun h6 => (Or.inr (Or.inr (Or.inr (Or.inr (Or.inr (Or.inr (Or.inr (Or.inl h6))))))))) (fun g6 => (Or.elim g6 (fun h7 => (Or.inr (Or.inr (Or.inr (Or.inr (Or.inr (Or.inr (Or.inr (Or.inr (Or.inl h7)))))))))) (fun g7 => (Or.elim g7 (fun h8 => (Or.inr (Or.inr (Or.inr (Or.inr (Or.inr (Or.inr (Or.inr (Or.inr (Or.inr (Or.inl h8))))))))))) (fun g8 => (Or.inr (Or.inr (Or.inr (Or.inr (Or.inr (Or.inr (Or.inr (Or.inr (Or.inr (Or.inr g8))))))))))))))))))))))))))))))
  obtain rfl := Option.some.inj h
  exact z10
set_option maxRecDepth 20000 in
theorem ZX12_fateOf {a : Nat} {x0 : Int32} {m : mB} {r : (Int32 × mB)} (h : FX12_fateOf a x0 m = some r) : mx_out (WSX12_fateOf a) m r.2 := by
  unfold FX12_fateOf at h
  have z0 : mx_out (WSX12_fateOf a) m m := mx_out.rf
  obtain ⟨m1, e_m1, h⟩ := mx_letE h
  have z1 : mx_out (WSX12_fateOf a) m m1 := by first | exact mx_out_up z0 e_m1 (Or.inr (Or.inr (Or.inr (Or.inr (Or.inr (Or.inl ⟨rfl, rfl⟩)))))) | exact mx_out_ul z0 e_m1 (Or.inr (Or.inr (Or.inr (Or.inr (Or.inr (Or.inl ⟨rfl, rfl⟩)))))) | exact mx_out_cp z0 e_m1 (fun j => (Or.inr (Or.inr (Or.inr (Or.inr (Or.inr (Or.inl ⟨rfl, rfl⟩))))))) | exact mx_out_cl z0 e_m1 (fun j => (Or.inr (Or.inr (Or.inr (Or.inr (Or.inr (Or.inl ⟨rfl, rfl⟩)))))))
  obtain ⟨r2, h_r2, h⟩ := Option.bind_eq_some_iff.mp h
  have z2 : mx_out (WSX12_fateOf a) m r2 := mx_out.tr z1 (mx_out.sub (ZX12_surveyMost h_r2) (fun b j hb => (Or.elim hb (fun h0 => (Or.inl h0)) (fun g0 => (Or.elim g0 (fun h1 => (Or.inr (Or.inl h1))) (fun g1 => (Or.elim g1 (fun h2 => (Or.inr (Or.inr (Or.inl h2)))) (fun g2 => (Or.elim g2 (fun h3 => (Or.inr (Or.inr (Or.inr (Or.inl h3))))) (fun g3 => (Or.elim g3 (fun h4 => (Or.inr (Or.inr (Or.inr (Or.inr (Or.inl h4)))))) (fun g4 => (Or.elim g4 (fun h5 => (Or.inr (Or.inr (Or.inr (Or.inr (Or.inr (Or.inr (Or.inl h5)))))))) (fun g5 => (Or.elim g5 (fun h6 => (Or.inr (Or.inr (Or.inr (Or.inr (Or.inr (Or.inr (Or.inr (Or.inl h6))))))))) (fun g6 => (Or.elim g6 (fun h7 => (Or.inr (Or.inr (Or.inr (Or.inr (Or.inr (Or.inr (Or.inr (Or.inr (Or.inl h7)))))))))) (fun g7 => (Or.elim g7 (fun h8 => (Or.inr (Or.inr (Or.inr (Or.inr (Or.inr (Or.inr (Or.inr (Or.inr (Or.inr (Or.inl h8))))))))))) (fun g8 => (Or.elim g8 (fun h9 => (Or.inr (Or.inr (Or.inr (Or.inr (Or.inr (Or.inr (Or.inr (Or.inr (Or.inr (Or.inr (Or.inl h9)))))))))))) (fun g9 => (Or.inr (Or.inr (Or.inr (Or.inr (Or.inr (Or.inr (Or.inr (Or.inr (Or.inr (Or.inr (Or.inr g9)))))))))))))))))))))))))))))))))
  obtain ⟨-, h⟩ := mx_chkE h
  by_cases hc4z : (r2.1 (a + 21) (Int32.toNatClampNeg x0)) = 0
  · rw [if_pos hc4z] at h
    obtain rfl := Option.some.inj h
    exact z2
  · rw [if_neg hc4z] at h
    by_cases hc5z : (r2.1 (a + 21) (Int32.toNatClampNeg x0)) = (r2.1 a 43)
    · rw [if_pos hc5z] at h
      obtain rfl := Option.some.inj h
      exact z2
    · rw [if_neg hc5z] at h
      obtain rfl := Option.some.inj h
      exact z2
set_option maxRecDepth 20000 in
theorem ZX12_link {a : Nat} {x0 : Int32} {x1 : Int32} {m : mB} {r : (Int32 × mB)} (h : FX12_link a x0 x1 m = some r) : mx_out (WSX12_link a) m r.2 := by
  unfold FX12_link at h
  have z0 : mx_out (WSX12_link a) m m := mx_out.rf
  obtain ⟨m1, e_m1, h⟩ := mx_letE h
  have z1 : mx_out (WSX12_link a) m m1 := by first | exact mx_out_up z0 e_m1 (Or.inl ⟨rfl, rfl⟩) | exact mx_out_ul z0 e_m1 (Or.inl ⟨rfl, rfl⟩) | exact mx_out_cp z0 e_m1 (fun j => (Or.inl ⟨rfl, rfl⟩)) | exact mx_out_cl z0 e_m1 (fun j => (Or.inl ⟨rfl, rfl⟩))
  obtain ⟨r2, h_r2, h⟩ := Option.bind_eq_some_iff.mp h
  by_cases hc3z : r2 = 0
  · rw [if_pos hc3z] at h
    obtain rfl := Option.some.inj h
    exact z1
  · rw [if_neg hc3z] at h
    by_cases hc4 : x1 = 0
    · rw [if_pos hc4] at h
      obtain ⟨-, h⟩ := mx_chkE h
      obtain rfl := Option.some.inj h
      exact z1
    · rw [if_neg hc4] at h
      by_cases hc6 : x1 = 1
      · rw [if_pos hc6] at h
        obtain ⟨-, h⟩ := mx_chkE h
        obtain rfl := Option.some.inj h
        exact z1
      · rw [if_neg hc6] at h
        by_cases hc8 : x1 = 2
        · rw [if_pos hc8] at h
          obtain ⟨-, h⟩ := mx_chkE h
          obtain rfl := Option.some.inj h
          exact z1
        · rw [if_neg hc8] at h
          by_cases hc10 : x1 = 3
          · rw [if_pos hc10] at h
            obtain ⟨r11, h_r11, h⟩ := Option.bind_eq_some_iff.mp h
            by_cases hc12z : r11 = 0
            · rw [if_pos hc12z] at h
              obtain rfl := Option.some.inj h
              exact z1
            · rw [if_neg hc12z] at h
              obtain rfl := Option.some.inj h
              exact z1
          · rw [if_neg hc10] at h
            by_cases hc13 : x1 = 4
            · rw [if_pos hc13] at h
              obtain ⟨r14, h_r14, h⟩ := Option.bind_eq_some_iff.mp h
              have z2 : mx_out (WSX12_link a) m r14.2 := mx_out.tr z1 (mx_out.sub (ZX12_fateOf h_r14) (fun b j hb => (Or.elim hb (fun h0 => (Or.inr (Or.inl h0))) (fun g0 => (Or.elim g0 (fun h1 => (Or.inr (Or.inr (Or.inl h1)))) (fun g1 => (Or.elim g1 (fun h2 => (Or.inr (Or.inr (Or.inr (Or.inl h2))))) (fun g2 => (Or.elim g2 (fun h3 => (Or.inr (Or.inr (Or.inr (Or.inr (Or.inl h3)))))) (fun g3 => (Or.elim g3 (fun h4 => (Or.inr (Or.inr (Or.inr (Or.inr (Or.inr (Or.inl h4))))))) (fun g4 => (Or.elim g4 (fun h5 => (Or.inr (Or.inr (Or.inr (Or.inr (Or.inr (Or.inr (Or.inl h5)))))))) (fun g5 => (Or.elim g5 (fun h6 => (Or.inr (Or.inr (Or.inr (Or.inr (Or.inr (Or.inr (Or.inr (Or.inl h6))))))))) (fun g6 => (Or.elim g6 (fun h7 => (Or.inr (Or.inr (Or.inr (Or.inr (Or.inr (Or.inr (Or.inr (Or.inr (Or.inl h7)))))))))) (fun g7 => (Or.elim g7 (fun h8 => (Or.inr (Or.inr (Or.inr (Or.inr (Or.inr (Or.inr (Or.inr (Or.inr (Or.inr (Or.inl h8))))))))))) (fun g8 => (Or.elim g8 (fun h9 => (Or.inr (Or.inr (Or.inr (Or.inr (Or.inr (Or.inr (Or.inr (Or.inr (Or.inr (Or.inr (Or.inl h9)))))))))))) (fun g9 => (Or.elim g9 (fun h10 => (Or.inr (Or.inr (Or.inr (Or.inr (Or.inr (Or.inr (Or.inr (Or.inr (Or.inr (Or.inr (Or.inr (Or.inl h10))))))))))))) (fun g10 => (Or.inr (Or.inr (Or.inr (Or.inr (Or.inr (Or.inr (Or.inr (Or.inr (Or.inr (Or.inr (Or.inr (Or.inr g10))))))))))))))))))))))))))))))))))))
              obtain rfl := Option.some.inj h
              exact z2
            · rw [if_neg hc13] at h
              obtain rfl := Option.some.inj h
              exact z1
set_option maxRecDepth 20000 in
theorem ZX12_slack {a : Nat} {x0 : Int32} {m : mB} {r : (Int32 × mB)} (h : FX12_slack a x0 m = some r) : mx_out (WSX12_slack a) m r.2 := by
  unfold FX12_slack at h
  have z0 : mx_out (WSX12_slack a) m m := mx_out.rf
  obtain ⟨m1, e_m1, h⟩ := mx_letE h
  have z1 : mx_out (WSX12_slack a) m m1 := by first | exact mx_out_up z0 e_m1 ⟨rfl, rfl⟩ | exact mx_out_ul z0 e_m1 ⟨rfl, rfl⟩ | exact mx_out_cp z0 e_m1 (fun j => ⟨rfl, rfl⟩) | exact mx_out_cl z0 e_m1 (fun j => ⟨rfl, rfl⟩)
  obtain ⟨r2, h_r2, h⟩ := Option.bind_eq_some_iff.mp h
  by_cases hc3z : r2 = 0
  · rw [if_pos hc3z] at h
    obtain ⟨r4, h_r4, h⟩ := Option.bind_eq_some_iff.mp h
    have z2 : mx_out (WSX12_slack a) m r4.2 := mx_out.tr z1 (mx_out.sub (ZX12_refuse h_r4) (fun b j hb => hb))
    obtain rfl := Option.some.inj h
    exact z2
  · rw [if_neg hc3z] at h
    obtain ⟨r5, h_r5, h⟩ := Option.bind_eq_some_iff.mp h
    obtain rfl := Option.some.inj h
    exact z1
set_option maxRecDepth 20000 in
theorem ZX12_odd {a : Nat} {x0 : Int32} {x1 : Int32} {m : mB} {r : (Int32 × mB)} (h : FX12_odd a x0 x1 m = some r) : mx_out (WSX12_odd a) m r.2 := by
  unfold FX12_odd at h
  have z0 : mx_out (WSX12_odd a) m m := mx_out.rf
  obtain ⟨m1, e_m1, h⟩ := mx_letE h
  have z1 : mx_out (WSX12_odd a) m m1 := by first | exact mx_out_up z0 e_m1 ⟨rfl, rfl⟩ | exact mx_out_ul z0 e_m1 ⟨rfl, rfl⟩ | exact mx_out_cp z0 e_m1 (fun j => ⟨rfl, rfl⟩) | exact mx_out_cl z0 e_m1 (fun j => ⟨rfl, rfl⟩)
  obtain ⟨r2, h_r2, h⟩ := Option.bind_eq_some_iff.mp h
  by_cases hc3z : r2 = 0
  · rw [if_pos hc3z] at h
    obtain rfl := Option.some.inj h
    exact z1
  · rw [if_neg hc3z] at h
    by_cases hc4 : x1 = 0
    · rw [if_pos hc4] at h
      obtain ⟨-, h⟩ := mx_chkE h
      obtain rfl := Option.some.inj h
      exact z1
    · rw [if_neg hc4] at h
      by_cases hc6 : x1 = 1
      · rw [if_pos hc6] at h
        obtain ⟨-, h⟩ := mx_chkE h
        obtain rfl := Option.some.inj h
        exact z1
      · rw [if_neg hc6] at h
        by_cases hc8 : x1 = 2
        · rw [if_pos hc8] at h
          obtain ⟨-, h⟩ := mx_chkE h
          obtain ⟨r10, h_r10, h⟩ := Option.bind_eq_some_iff.mp h
          obtain rfl := Option.some.inj h
          exact z1
        · rw [if_neg hc8] at h
          obtain rfl := Option.some.inj h
          exact z1
set_option maxRecDepth 20000 in
theorem ZX12_now {a : Nat} {x0 : Int32} {m : mB} {r : (Int32 × mB)} (h : FX12_now a x0 m = some r) : mx_out (WSX12_now a) m r.2 := by
  unfold FX12_now at h
  have z0 : mx_out (WSX12_now a) m m := mx_out.rf
  obtain ⟨m1, e_m1, h⟩ := mx_letE h
  have z1 : mx_out (WSX12_now a) m m1 := by first | exact mx_out_up z0 e_m1 ⟨rfl, rfl⟩ | exact mx_out_ul z0 e_m1 ⟨rfl, rfl⟩ | exact mx_out_cp z0 e_m1 (fun j => ⟨rfl, rfl⟩) | exact mx_out_cl z0 e_m1 (fun j => ⟨rfl, rfl⟩)
  by_cases hc2 : x0 = 0
  · rw [if_pos hc2] at h
    obtain ⟨r3, h_r3, h⟩ := Option.bind_eq_some_iff.mp h
    obtain rfl := Option.some.inj h
    exact z1
  · rw [if_neg hc2] at h
    by_cases hc4 : x0 = 1
    · rw [if_pos hc4] at h
      obtain ⟨r5, h_r5, h⟩ := Option.bind_eq_some_iff.mp h
      obtain rfl := Option.some.inj h
      exact z1
    · rw [if_neg hc4] at h
      by_cases hc6 : x0 = 2
      · rw [if_pos hc6] at h
        obtain ⟨q13, h_q13, h⟩ := Option.bind_eq_some_iff.mp h
        obtain rfl := Option.some.inj h
        exact z1
      · rw [if_neg hc6] at h
        by_cases hc14 : x0 = 3
        · rw [if_pos hc14] at h
          obtain ⟨q21, h_q21, h⟩ := Option.bind_eq_some_iff.mp h
          obtain rfl := Option.some.inj h
          exact z1
        · rw [if_neg hc14] at h
          by_cases hc22 : x0 = 4
          · rw [if_pos hc22] at h
            obtain ⟨r23, h_r23, h⟩ := Option.bind_eq_some_iff.mp h
            obtain rfl := Option.some.inj h
            exact z1
          · rw [if_neg hc22] at h
            by_cases hc24 : x0 = 5
            · rw [if_pos hc24] at h
              obtain rfl := Option.some.inj h
              exact z1
            · rw [if_neg hc24] at h
              by_cases hc25 : x0 = 6
              · rw [if_pos hc25] at h
                obtain rfl := Option.some.inj h
                exact z1
              · rw [if_neg hc25] at h
                obtain rfl := Option.some.inj h
                exact z1
set_option maxRecDepth 20000 in
theorem ZX12_goesOn_L25 {rec : Nat → Int32 → Int32 → Int32 → mB → Option (Int32 × mB)} {q0 : Nat} {y1 : Int32} {y2 : Int32} {y3 : Int32} {y4 : Int32} (zrec : ∀ {a : Nat} {x0 : Int32} {x1 : Int32} {x2 : Int32} {m : mB} {r : (Int32 × mB)}, rec a x0 x1 x2 m = some r → mx_out (WSX12_goesOn a) m r.2) : ∀ (f : Nat) {y5 : Int32} {m : mB} {q : ((Int32 × mB) ⊕ (mB))}, FX12_goesOn_L25 rec q0 y1 y2 y3 y4 f y5 m = some q → mx_out (WSX12_goesOn_L25 q0) m (Sum.elim (fun rr => rr.2) (fun u => u) q) := by
  intro f
  induction f with
  | zero => intro _ _ _ h; cases h
  | succ f ih =>
    intro y5 m q h
    rw [FX12_goesOn_L25] at h
    have z0 : mx_out (WSX12_goesOn_L25 q0) m m := mx_out.rf
    by_cases hc4z : (m.1 (q0 + 2) 0) ≤ y5
    · rw [if_pos hc4z] at h
      obtain rfl := Option.some.inj h
      exact z0
    · rw [if_neg hc4z] at h
      obtain ⟨r5, h_r5, h⟩ := Option.bind_eq_some_iff.mp h
      by_cases hc6z : r5 = 0
      · rw [if_pos hc6z] at h
        obtain ⟨r8, h_r8, h⟩ := Option.bind_eq_some_iff.mp h
        by_cases hc9z : r8 = 0
        · rw [if_pos hc9z] at h
          obtain ⟨v10, -, h⟩ := mx_letE h
          exact mx_out.tr z0 (ih h)
        · rw [if_neg hc9z] at h
          obtain ⟨r11, h_r11, h⟩ := Option.bind_eq_some_iff.mp h
          by_cases hc12z : (y1 - y1 / 2 * 2) = 0
          · rw [if_pos hc12z] at h
            by_cases hc20z : r11 = 1
            · rw [if_pos hc20z] at h
              obtain ⟨-, h⟩ := mx_chkE h
              obtain ⟨m21, e_m21, h⟩ := mx_letE h
              have z1 : mx_out (WSX12_goesOn_L25 q0) m m21 := by first | exact mx_out_up z0 e_m21 rfl | exact mx_out_ul z0 e_m21 rfl | exact mx_out_cp z0 e_m21 (fun j => rfl) | exact mx_out_cl z0 e_m21 (fun j => rfl)
              obtain ⟨r23, h_r23, h⟩ := Option.bind_eq_some_iff.mp h
              have z2 : mx_out (WSX12_goesOn_L25 q0) m r23.2 := mx_out.tr z1 (mx_out.sub (zrec h_r23) (fun b j hb => hb))
              by_cases hc24z : r23.1 = 0
              · rw [if_pos hc24z] at h
                obtain ⟨v25, -, h⟩ := mx_letE h
                exact mx_out.tr z2 (ih h)
              · rw [if_neg hc24z] at h
                obtain rfl := Option.some.inj h
                exact z2
            · rw [if_neg hc20z] at h
              obtain ⟨v26, -, h⟩ := mx_letE h
              exact mx_out.tr z0 (ih h)
          · rw [if_neg hc12z] at h
            by_cases hc13z : r11 = 0
            · rw [if_pos hc13z] at h
              obtain ⟨-, h⟩ := mx_chkE h
              obtain ⟨m14, e_m14, h⟩ := mx_letE h
              have z3 : mx_out (WSX12_goesOn_L25 q0) m m14 := by first | exact mx_out_up z0 e_m14 rfl | exact mx_out_ul z0 e_m14 rfl | exact mx_out_cp z0 e_m14 (fun j => rfl) | exact mx_out_cl z0 e_m14 (fun j => rfl)
              obtain ⟨r16, h_r16, h⟩ := Option.bind_eq_some_iff.mp h
              have z4 : mx_out (WSX12_goesOn_L25 q0) m r16.2 := mx_out.tr z3 (mx_out.sub (zrec h_r16) (fun b j hb => hb))
              by_cases hc17z : r16.1 = 0
              · rw [if_pos hc17z] at h
                obtain ⟨v18, -, h⟩ := mx_letE h
                exact mx_out.tr z4 (ih h)
              · rw [if_neg hc17z] at h
                obtain rfl := Option.some.inj h
                exact z4
            · rw [if_neg hc13z] at h
              obtain ⟨v19, -, h⟩ := mx_letE h
              exact mx_out.tr z0 (ih h)
      · rw [if_neg hc6z] at h
        obtain ⟨v7, -, h⟩ := mx_letE h
        exact mx_out.tr z0 (ih h)
set_option maxRecDepth 20000 in
theorem ZX12_goesOn_B {rec : Nat → Int32 → Int32 → Int32 → mB → Option (Int32 × mB)} {a : Nat} {x0 : Int32} {x1 : Int32} {x2 : Int32} {m : mB} {r : (Int32 × mB)} (zrec : ∀ {a : Nat} {x0 : Int32} {x1 : Int32} {x2 : Int32} {m : mB} {r : (Int32 × mB)}, rec a x0 x1 x2 m = some r → mx_out (WSX12_goesOn a) m r.2) (h : FX12_goesOn_B rec a x0 x1 x2 m = some r) : mx_out (WSX12_goesOn a) m r.2 := by
  unfold FX12_goesOn_B at h
  have z0 : mx_out (WSX12_goesOn a) m m := mx_out.rf
  obtain ⟨-, h⟩ := mx_chkE h
  obtain ⟨v2, -, h⟩ := mx_letE h
  by_cases hc3z : x0 = x1
  · rw [if_pos hc3z] at h
    obtain ⟨r30, h_r30, h⟩ := Option.bind_eq_some_iff.mp h
    obtain ⟨-, h⟩ := mx_chkE h
    obtain rfl := Option.some.inj h
    exact z0
  · rw [if_neg hc3z] at h
    obtain ⟨q27, h_q27, h⟩ := Option.bind_eq_some_iff.mp h
    have z5 := mx_out.tr z0 (mx_out.sub (S := (WSX12_goesOn a)) (ZX12_goesOn_L25 zrec mx_FU h_q27) (fun b j hb => hb))
    rcases q27 with rr29 | u28
    · rw [Sum.elim_inl] at h
      obtain rfl := Option.some.inj h
      exact z5
    · rw [Sum.elim_inr] at h
      obtain rfl := Option.some.inj h
      exact z5
theorem ZX12_goesOn : ∀ (D : Nat) {a : Nat} {x0 : Int32} {x1 : Int32} {x2 : Int32} {m : mB} {r : (Int32 × mB)}, FX12_goesOn D a x0 x1 x2 m = some r → mx_out (WSX12_goesOn a) m r.2 := by
  intro D
  induction D with
  | zero => intro _ _ _ _ _ _ h; cases h
  | succ D ih =>
    intro a x0 x1 x2 m r h
    rw [FX12_goesOn] at h
    exact ZX12_goesOn_B (rec := FX12_goesOn D) (fun {_ _ _ _} {_} {_} hz => ih hz) h
set_option maxRecDepth 20000 in
theorem ZX12_layPath_L9 {q0 : Nat} {y1 : Int32} : ∀ (f : Nat) {y2 : Int32} {m : mB} {q : ((Int32 × mB) ⊕ (mB))}, FX12_layPath_L9 q0 y1 f y2 m = some q → mx_out (WSX12_layPath_L9 q0) m (Sum.elim (fun rr => rr.2) (fun u => u) q) := by
  intro f
  induction f with
  | zero => intro _ _ _ h; cases h
  | succ f ih =>
    intro y2 m q h
    rw [FX12_layPath_L9] at h
    have z0 : mx_out (WSX12_layPath_L9 q0) m m := mx_out.rf
    by_cases hc2z : (m.1 (q0 + 2) 0) < y2
    · rw [if_pos hc2z] at h
      obtain rfl := Option.some.inj h
      exact z0
    · rw [if_neg hc2z] at h
      obtain ⟨r3, h_r3, h⟩ := Option.bind_eq_some_iff.mp h
      have z1 : mx_out (WSX12_layPath_L9 q0) m r3.2 := mx_out.tr z0 (mx_out.sub (ZX12_goesOn 64 h_r3) (fun b j hb => hb))
      by_cases hc4z : r3.1 = 0
      · rw [if_pos hc4z] at h
        obtain ⟨v5, -, h⟩ := mx_letE h
        exact mx_out.tr z1 (ih h)
      · rw [if_neg hc4z] at h
        obtain rfl := Option.some.inj h
        exact z1
set_option maxRecDepth 20000 in
theorem ZX12_layPath {a : Nat} {x0 : Int32} {m : mB} {r : (Int32 × mB)} (h : FX12_layPath a x0 m = some r) : mx_out (WSX12_layPath a) m r.2 := by
  unfold FX12_layPath at h
  have z0 : mx_out (WSX12_layPath a) m m := mx_out.rf
  obtain ⟨m1, e_m1, h⟩ := mx_letE h
  have z2 : mx_out (WSX12_layPath a) m m1 := by first | exact mx_out_up z0 e_m1 rfl | exact mx_out_ul z0 e_m1 rfl | exact mx_out_cp z0 e_m1 (fun j => rfl) | exact mx_out_cl z0 e_m1 (fun j => rfl)
  obtain ⟨q6, h_q6, h⟩ := Option.bind_eq_some_iff.mp h
  have z3 := mx_out.tr z2 (mx_out.sub (S := (WSX12_layPath a)) (ZX12_layPath_L9 mx_FU h_q6) (fun b j hb => hb))
  rcases q6 with rr8 | u7
  · rw [Sum.elim_inl] at h
    obtain rfl := Option.some.inj h
    exact z3
  · rw [Sum.elim_inr] at h
    obtain rfl := Option.some.inj h
    exact z3
set_option maxRecDepth 20000 in
theorem ZX12_turnPath_L2 {q0 : Nat} {q1 : Nat} {w1 : Nat} {y2 : Int32} : ∀ (f : Nat) {y3 : Int32} {m : mB} {q : (mB)}, FX12_turnPath_L2 q0 q1 w1 y2 f y3 m = some q → mx_out (WSX12_turnPath_L2 q0 q1) m q := by
  intro f
  induction f with
  | zero => intro _ _ _ h; cases h
  | succ f ih =>
    intro y3 m q h
    rw [FX12_turnPath_L2] at h
    have z0 : mx_out (WSX12_turnPath_L2 q0 q1) m m := mx_out.rf
    by_cases hc1z : y2 ≤ y3
    · rw [if_pos hc1z] at h
      obtain rfl := Option.some.inj h
      exact z0
    · rw [if_neg hc1z] at h
      obtain ⟨-, h⟩ := mx_chkE h
      obtain ⟨-, h⟩ := mx_chkE h
      obtain ⟨-, h⟩ := mx_chkE h
      obtain ⟨m4, e_m4, h⟩ := mx_letE h
      have z1 : mx_out (WSX12_turnPath_L2 q0 q1) m m4 := by first | exact mx_out_up z0 e_m4 rfl | exact mx_out_ul z0 e_m4 rfl | exact mx_out_cp z0 e_m4 (fun j => rfl) | exact mx_out_cl z0 e_m4 (fun j => rfl)
      obtain ⟨-, h⟩ := mx_chkE h
      obtain ⟨m6, e_m6, h⟩ := mx_letE h
      have z2 : mx_out (WSX12_turnPath_L2 q0 q1) m m6 := by first | exact mx_out_up z1 e_m6 rfl | exact mx_out_ul z1 e_m6 rfl | exact mx_out_cp z1 e_m6 (fun j => rfl) | exact mx_out_cl z1 e_m6 (fun j => rfl)
      obtain ⟨v8, -, h⟩ := mx_letE h
      exact mx_out.tr z2 (ih h)
set_option maxRecDepth 20000 in
theorem ZX12_turnPath {a : Nat} {p0 : Nat} {n0 : Nat} {x1 : Int32} {m : mB} {r : mB} (h : FX12_turnPath a p0 n0 x1 m = some r) : mx_out (WSX12_turnPath a p0) m r := by
  unfold FX12_turnPath at h
  have z0 : mx_out (WSX12_turnPath a p0) m m := mx_out.rf
  obtain ⟨q9, h_q9, h⟩ := Option.bind_eq_some_iff.mp h
  have z3 := mx_out.tr z0 (mx_out.sub (S := (WSX12_turnPath a p0)) (ZX12_turnPath_L2 mx_FU h_q9) (fun b j hb => hb))
  obtain ⟨m10, e_m10, h⟩ := mx_letE h
  have z4 : mx_out (WSX12_turnPath a p0) m m10 := by first | exact mx_out_up z3 e_m10 rfl | exact mx_out_ul z3 e_m10 rfl | exact mx_out_cp z3 e_m10 (fun j => rfl) | exact mx_out_cl z3 e_m10 (fun j => rfl)
  obtain rfl := Option.some.inj h
  exact z4
set_option maxRecDepth 20000 in
theorem ZX12_flowers_L31 {rec : Nat → Int32 → Int32 → Int32 → mB → Option (Int32 × mB)} {q0 : Nat} {y1 : Int32} {y2 : Int32} {y3 : Int32} {y4 : Int32} (zrec : ∀ {a : Nat} {x0 : Int32} {x1 : Int32} {x2 : Int32} {m : mB} {r : (Int32 × mB)}, rec a x0 x1 x2 m = some r → mx_out (WSX12_flowers a) m r.2) : ∀ (f : Nat) {y5 : Int32} {m : mB} {q : ((Int32 × mB) ⊕ (mB))}, FX12_flowers_L31 rec q0 y1 y2 y3 y4 f y5 m = some q → mx_out (WSX12_flowers_L31 q0) m (Sum.elim (fun rr => rr.2) (fun u => u) q) := by
  intro f
  induction f with
  | zero => intro _ _ _ h; cases h
  | succ f ih =>
    intro y5 m q h
    rw [FX12_flowers_L31] at h
    have z0 : mx_out (WSX12_flowers_L31 q0) m m := mx_out.rf
    by_cases hc4z : (m.1 (q0 + 2) 0) ≤ y5
    · rw [if_pos hc4z] at h
      obtain rfl := Option.some.inj h
      exact z0
    · rw [if_neg hc4z] at h
      obtain ⟨r5, h_r5, h⟩ := Option.bind_eq_some_iff.mp h
      by_cases hc6z : r5 = 0
      · rw [if_pos hc6z] at h
        obtain ⟨r8, h_r8, h⟩ := Option.bind_eq_some_iff.mp h
        by_cases hc9z : r8 = 0
        · rw [if_pos hc9z] at h
          obtain ⟨v10, -, h⟩ := mx_letE h
          exact mx_out.tr z0 (ih h)
        · rw [if_neg hc9z] at h
          refine mx_letK (J := fun k12 => k12 = some q → mx_out (WSX12_flowers_L31 q0) m (Sum.elim (fun rr => rr.2) (fun u => u) q)) h ?_ (fun k12 z_k12 h => ?_)
          · intro h
            obtain ⟨-, h⟩ := mx_chkE h
            obtain ⟨m13, e_m13, h⟩ := mx_letE h
            have z2 : mx_out (WSX12_flowers_L31 q0) m m13 := by first | exact mx_out_up z0 e_m13 rfl | exact mx_out_ul z0 e_m13 rfl | exact mx_out_cp z0 e_m13 (fun j => rfl) | exact mx_out_cl z0 e_m13 (fun j => rfl)
            obtain ⟨r15, h_r15, h⟩ := Option.bind_eq_some_iff.mp h
            have z3 : mx_out (WSX12_flowers_L31 q0) m r15.2 := mx_out.tr z2 (mx_out.sub (zrec h_r15) (fun b j hb => hb))
            by_cases hc16z : r15.1 = 0
            · rw [if_pos hc16z] at h
              obtain ⟨v17, -, h⟩ := mx_letE h
              exact mx_out.tr z3 (ih h)
            · rw [if_neg hc16z] at h
              obtain rfl := Option.some.inj h
              exact z3
          by_cases hc11z : (y1 - y1 / 2 * 2) = 0
          · rw [if_pos hc11z] at h
            obtain ⟨r18, h_r18, h⟩ := Option.bind_eq_some_iff.mp h
            by_cases hc19z : r18 = 0
            · rw [if_pos hc19z] at h
              obtain ⟨v20, -, h⟩ := mx_letE h
              exact mx_out.tr z0 (ih h)
            · rw [if_neg hc19z] at h
              exact z_k12 h
          · rw [if_neg hc11z] at h
            exact z_k12 h
      · rw [if_neg hc6z] at h
        obtain ⟨v7, -, h⟩ := mx_letE h
        exact mx_out.tr z0 (ih h)
set_option maxRecDepth 20000 in
theorem ZX12_flowers_B {rec : Nat → Int32 → Int32 → Int32 → mB → Option (Int32 × mB)} {a : Nat} {x0 : Int32} {x1 : Int32} {x2 : Int32} {m : mB} {r : (Int32 × mB)} (zrec : ∀ {a : Nat} {x0 : Int32} {x1 : Int32} {x2 : Int32} {m : mB} {r : (Int32 × mB)}, rec a x0 x1 x2 m = some r → mx_out (WSX12_flowers a) m r.2) (h : FX12_flowers_B rec a x0 x1 x2 m = some r) : mx_out (WSX12_flowers a) m r.2 := by
  unfold FX12_flowers_B at h
  have z0 : mx_out (WSX12_flowers a) m m := mx_out.rf
  obtain ⟨-, h⟩ := mx_chkE h
  obtain ⟨v2, -, h⟩ := mx_letE h
  by_cases hc3z : x0 = x1
  · rw [if_pos hc3z] at h
    obtain ⟨r24, h_r24, h⟩ := Option.bind_eq_some_iff.mp h
    obtain ⟨-, h⟩ := mx_chkE h
    obtain rfl := Option.some.inj h
    exact z0
  · rw [if_neg hc3z] at h
    obtain ⟨q21, h_q21, h⟩ := Option.bind_eq_some_iff.mp h
    have z4 := mx_out.tr z0 (mx_out.sub (S := (WSX12_flowers a)) (ZX12_flowers_L31 zrec mx_FU h_q21) (fun b j hb => hb))
    rcases q21 with rr23 | u22
    · rw [Sum.elim_inl] at h
      obtain rfl := Option.some.inj h
      exact z4
    · rw [Sum.elim_inr] at h
      obtain rfl := Option.some.inj h
      exact z4
theorem ZX12_flowers : ∀ (D : Nat) {a : Nat} {x0 : Int32} {x1 : Int32} {x2 : Int32} {m : mB} {r : (Int32 × mB)}, FX12_flowers D a x0 x1 x2 m = some r → mx_out (WSX12_flowers a) m r.2 := by
  intro D
  induction D with
  | zero => intro _ _ _ _ _ _ h; cases h
  | succ D ih =>
    intro a x0 x1 x2 m r h
    rw [FX12_flowers] at h
    exact ZX12_flowers_B (rec := FX12_flowers D) (fun {_ _ _ _} {_} {_} hz => ih hz) h
set_option maxRecDepth 20000 in
theorem ZX12_grow_L42 {q0 : Nat} {y2 : Int32} : ∀ (f : Nat) {y3 : Int32} {m : mB} {q : (mB)}, FX12_grow_L42 q0 y2 f y3 m = some q → mx_out (WSX12_grow_L42 q0) m q := by
  intro f
  induction f with
  | zero => intro _ _ _ h; cases h
  | succ f ih =>
    intro y3 m q h
    rw [FX12_grow_L42] at h
    have z0 : mx_out (WSX12_grow_L42 q0) m m := mx_out.rf
    by_cases hc9z : y2 ≤ y3
    · rw [if_pos hc9z] at h
      obtain rfl := Option.some.inj h
      exact z0
    · rw [if_neg hc9z] at h
      obtain ⟨-, h⟩ := mx_chkE h
      obtain ⟨m11, e_m11, h⟩ := mx_letE h
      have z1 : mx_out (WSX12_grow_L42 q0) m m11 := by first | exact mx_out_up z0 e_m11 rfl | exact mx_out_ul z0 e_m11 rfl | exact mx_out_cp z0 e_m11 (fun j => rfl) | exact mx_out_cl z0 e_m11 (fun j => rfl)
      obtain ⟨v12, -, h⟩ := mx_letE h
      exact mx_out.tr z1 (ih h)
set_option maxRecDepth 20000 in
theorem ZX12_grow {a : Nat} {x0 : Int32} {m : mB} {r : (Int32 × mB)} (h : FX12_grow a x0 m = some r) : mx_out (WSX12_grow a) m r.2 := by
  unfold FX12_grow at h
  have z0 : mx_out (WSX12_grow a) m m := mx_out.rf
  obtain ⟨m1, e_m1, h⟩ := mx_letE h
  have z2 : mx_out (WSX12_grow a) m m1 := by first | exact mx_out_up z0 e_m1 (Or.inl ⟨rfl, rfl⟩) | exact mx_out_ul z0 e_m1 (Or.inl ⟨rfl, rfl⟩) | exact mx_out_cp z0 e_m1 (fun j => (Or.inl ⟨rfl, rfl⟩)) | exact mx_out_cl z0 e_m1 (fun j => (Or.inl ⟨rfl, rfl⟩))
  obtain ⟨r2, h_r2, h⟩ := Option.bind_eq_some_iff.mp h
  by_cases hc3z : r2 = 0
  · rw [if_pos hc3z] at h
    obtain rfl := Option.some.inj h
    exact z2
  · rw [if_neg hc3z] at h
    obtain ⟨r4, h_r4, h⟩ := Option.bind_eq_some_iff.mp h
    by_cases hc5z : r4 = 0
    · rw [if_pos hc5z] at h
      obtain rfl := Option.some.inj h
      exact z2
    · rw [if_neg hc5z] at h
      obtain ⟨r6, h_r6, h⟩ := Option.bind_eq_some_iff.mp h
      have z3 : mx_out (WSX12_grow a) m r6.2 := mx_out.tr z2 (mx_out.sub (ZX12_layPath h_r6) (fun b j hb => (Or.inr (Or.inr (Or.inl hb)))))
      by_cases hc7z : r6.1 = 0
      · rw [if_pos hc7z] at h
        obtain rfl := Option.some.inj h
        exact z3
      · rw [if_neg hc7z] at h
        obtain ⟨m8, e_m8, h⟩ := mx_letE h
        have z4 : mx_out (WSX12_grow a) m m8 := by first | exact mx_out_up z3 e_m8 (Or.inr (Or.inl ⟨rfl, rfl⟩)) | exact mx_out_ul z3 e_m8 (Or.inr (Or.inl ⟨rfl, rfl⟩)) | exact mx_out_cp z3 e_m8 (fun j => (Or.inr (Or.inl ⟨rfl, rfl⟩))) | exact mx_out_cl z3 e_m8 (fun j => (Or.inr (Or.inl ⟨rfl, rfl⟩)))
        obtain ⟨q13, h_q13, h⟩ := Option.bind_eq_some_iff.mp h
        have z5 := mx_out.tr z4 (mx_out.sub (S := (WSX12_grow a)) (ZX12_grow_L42 mx_FU h_q13) (fun b j hb => (Or.inr (Or.inr (Or.inr hb)))))
        obtain rfl := Option.some.inj h
        exact z5
set_option maxRecDepth 20000 in
theorem ZX12_growAt {a : Nat} {x0 : Int32} {m : mB} {r : (Int32 × mB)} (h : FX12_growAt a x0 m = some r) : mx_out (WSX12_growAt a) m r.2 := by
  unfold FX12_growAt at h
  have z0 : mx_out (WSX12_growAt a) m m := mx_out.rf
  obtain ⟨m1, e_m1, h⟩ := mx_letE h
  have z1 : mx_out (WSX12_growAt a) m m1 := by first | exact mx_out_up z0 e_m1 ⟨rfl, rfl⟩ | exact mx_out_ul z0 e_m1 ⟨rfl, rfl⟩ | exact mx_out_cp z0 e_m1 (fun j => ⟨rfl, rfl⟩) | exact mx_out_cl z0 e_m1 (fun j => ⟨rfl, rfl⟩)
  obtain ⟨r2, h_r2, h⟩ := Option.bind_eq_some_iff.mp h
  by_cases hc3z : r2 = 0
  · rw [if_pos hc3z] at h
    obtain rfl := Option.some.inj h
    exact z1
  · rw [if_neg hc3z] at h
    obtain ⟨-, h⟩ := mx_chkE h
    obtain rfl := Option.some.inj h
    exact z1
set_option maxRecDepth 20000 in
theorem ZX12_flower_L56 {q0 : Nat} {y2 : Int32} : ∀ (f : Nat) {y3 : Int32} {m : mB} {q : (mB)}, FX12_flower_L56 q0 y2 f y3 m = some q → mx_out (WSX12_flower_L56 q0) m q := by
  intro f
  induction f with
  | zero => intro _ _ _ h; cases h
  | succ f ih =>
    intro y3 m q h
    rw [FX12_flower_L56] at h
    have z0 : mx_out (WSX12_flower_L56 q0) m m := mx_out.rf
    by_cases hc9z : y2 ≤ y3
    · rw [if_pos hc9z] at h
      obtain rfl := Option.some.inj h
      exact z0
    · rw [if_neg hc9z] at h
      obtain ⟨-, h⟩ := mx_chkE h
      obtain ⟨m11, e_m11, h⟩ := mx_letE h
      have z4 : mx_out (WSX12_flower_L56 q0) m m11 := by first | exact mx_out_up z0 e_m11 rfl | exact mx_out_ul z0 e_m11 rfl | exact mx_out_cp z0 e_m11 (fun j => rfl) | exact mx_out_cl z0 e_m11 (fun j => rfl)
      obtain ⟨v12, -, h⟩ := mx_letE h
      exact mx_out.tr z4 (ih h)
set_option maxRecDepth 20000 in
theorem ZX12_flower_L24 {q0 : Nat} {y1 : Int32} : ∀ (f : Nat) {y2 : Int32} {m : mB} {q : ((Int32 × mB) ⊕ (mB))}, FX12_flower_L24 q0 y1 f y2 m = some q → mx_out (WSX12_flower_L24 q0) m (Sum.elim (fun rr => rr.2) (fun u => u) q) := by
  intro f
  induction f with
  | zero => intro _ _ _ h; cases h
  | succ f ih =>
    intro y2 m q h
    rw [FX12_flower_L24] at h
    have z0 : mx_out (WSX12_flower_L24 q0) m m := mx_out.rf
    by_cases hc5z : (m.1 (q0 + 2) 0) < y2
    · rw [if_pos hc5z] at h
      obtain rfl := Option.some.inj h
      exact z0
    · rw [if_neg hc5z] at h
      obtain ⟨r6, h_r6, h⟩ := Option.bind_eq_some_iff.mp h
      have z1 : mx_out (WSX12_flower_L24 q0) m r6.2 := mx_out.tr z0 (mx_out.sub (ZX12_flowers 64 h_r6) (fun b j hb => (Or.inr (Or.inl hb))))
      by_cases hc7z : r6.1 = 0
      · rw [if_pos hc7z] at h
        obtain ⟨v14, -, h⟩ := mx_letE h
        exact mx_out.tr z1 (ih h)
      · rw [if_neg hc7z] at h
        obtain ⟨m8, e_m8, h⟩ := mx_letE h
        have z2 : mx_out (WSX12_flower_L24 q0) m m8 := by first | exact mx_out_up z1 e_m8 (Or.inl ⟨rfl, rfl⟩) | exact mx_out_ul z1 e_m8 (Or.inl ⟨rfl, rfl⟩) | exact mx_out_cp z1 e_m8 (fun j => (Or.inl ⟨rfl, rfl⟩)) | exact mx_out_cl z1 e_m8 (fun j => (Or.inl ⟨rfl, rfl⟩))
        obtain ⟨q13, h_q13, h⟩ := Option.bind_eq_some_iff.mp h
        have z3 := mx_out.tr z2 (mx_out.sub (S := (WSX12_flower_L24 q0)) (ZX12_flower_L56 mx_FU h_q13) (fun b j hb => (Or.inr (Or.inr hb))))
        obtain rfl := Option.some.inj h
        exact z3
set_option maxRecDepth 20000 in
theorem ZX12_flower {a : Nat} {x0 : Int32} {m : mB} {r : (Int32 × mB)} (h : FX12_flower a x0 m = some r) : mx_out (WSX12_flower a) m r.2 := by
  unfold FX12_flower at h
  have z0 : mx_out (WSX12_flower a) m m := mx_out.rf
  obtain ⟨m1, e_m1, h⟩ := mx_letE h
  have z5 : mx_out (WSX12_flower a) m m1 := by first | exact mx_out_up z0 e_m1 (Or.inl ⟨rfl, rfl⟩) | exact mx_out_ul z0 e_m1 (Or.inl ⟨rfl, rfl⟩) | exact mx_out_cp z0 e_m1 (fun j => (Or.inl ⟨rfl, rfl⟩)) | exact mx_out_cl z0 e_m1 (fun j => (Or.inl ⟨rfl, rfl⟩))
  obtain ⟨r2, h_r2, h⟩ := Option.bind_eq_some_iff.mp h
  by_cases hc3z : r2 = 0
  · rw [if_pos hc3z] at h
    obtain rfl := Option.some.inj h
    exact z5
  · rw [if_neg hc3z] at h
    obtain ⟨m4, e_m4, h⟩ := mx_letE h
    have z6 : mx_out (WSX12_flower a) m m4 := by first | exact mx_out_up z5 e_m4 (Or.inr (Or.inr (Or.inl rfl))) | exact mx_out_ul z5 e_m4 (Or.inr (Or.inr (Or.inl rfl))) | exact mx_out_cp z5 e_m4 (fun j => (Or.inr (Or.inr (Or.inl rfl)))) | exact mx_out_cl z5 e_m4 (fun j => (Or.inr (Or.inr (Or.inl rfl))))
    obtain ⟨q15, h_q15, h⟩ := Option.bind_eq_some_iff.mp h
    have z7 := mx_out.tr z6 (mx_out.sub (S := (WSX12_flower a)) (ZX12_flower_L24 mx_FU h_q15) (fun b j hb => (Or.elim hb (fun h0 => (Or.inr (Or.inl h0))) (fun g0 => (Or.elim g0 (fun h1 => (Or.inr (Or.inr (Or.inl h1)))) (fun g1 => (Or.inr (Or.inr (Or.inr g1)))))))))
    rcases q15 with rr17 | u16
    · rw [Sum.elim_inl] at h
      obtain rfl := Option.some.inj h
      exact z7
    · rw [Sum.elim_inr] at h
      obtain rfl := Option.some.inj h
      exact z7
set_option maxRecDepth 20000 in
theorem ZX12_flowerAt {a : Nat} {x0 : Int32} {m : mB} {r : (Int32 × mB)} (h : FX12_flowerAt a x0 m = some r) : mx_out (WSX12_flowerAt a) m r.2 := by
  unfold FX12_flowerAt at h
  have z0 : mx_out (WSX12_flowerAt a) m m := mx_out.rf
  obtain ⟨m1, e_m1, h⟩ := mx_letE h
  have z1 : mx_out (WSX12_flowerAt a) m m1 := by first | exact mx_out_up z0 e_m1 ⟨rfl, rfl⟩ | exact mx_out_ul z0 e_m1 ⟨rfl, rfl⟩ | exact mx_out_cp z0 e_m1 (fun j => ⟨rfl, rfl⟩) | exact mx_out_cl z0 e_m1 (fun j => ⟨rfl, rfl⟩)
  obtain ⟨r2, h_r2, h⟩ := Option.bind_eq_some_iff.mp h
  by_cases hc3z : r2 = 0
  · rw [if_pos hc3z] at h
    obtain rfl := Option.some.inj h
    exact z1
  · rw [if_neg hc3z] at h
    obtain ⟨-, h⟩ := mx_chkE h
    obtain rfl := Option.some.inj h
    exact z1
set_option maxRecDepth 20000 in
theorem ZX12_save_L2 {q0 : Nat} {q1 : Nat} {w1 : Nat} {y2 : Int32} : ∀ (f : Nat) {y3 : Int32} {m : mB} {q : (mB)}, FX12_save_L2 q0 q1 w1 y2 f y3 m = some q → mx_out (WSX12_save_L2 q0 q1) m q := by
  intro f
  induction f with
  | zero => intro _ _ _ h; cases h
  | succ f ih =>
    intro y3 m q h
    rw [FX12_save_L2] at h
    have z0 : mx_out (WSX12_save_L2 q0 q1) m m := mx_out.rf
    by_cases hc1z : 65 ≤ y3
    · rw [if_pos hc1z] at h
      obtain rfl := Option.some.inj h
      exact z0
    · rw [if_neg hc1z] at h
      obtain ⟨-, h⟩ := mx_chkE h
      obtain ⟨-, h⟩ := mx_chkE h
      obtain ⟨m3, e_m3, h⟩ := mx_letE h
      have z1 : mx_out (WSX12_save_L2 q0 q1) m m3 := by first | exact mx_out_up z0 e_m3 rfl | exact mx_out_ul z0 e_m3 rfl | exact mx_out_cp z0 e_m3 (fun j => rfl) | exact mx_out_cl z0 e_m3 (fun j => rfl)
      obtain ⟨v5, -, h⟩ := mx_letE h
      exact mx_out.tr z1 (ih h)
set_option maxRecDepth 20000 in
theorem ZX12_save {a : Nat} {p0 : Nat} {n0 : Nat} {x1 : Int32} {m : mB} {r : mB} (h : FX12_save a p0 n0 x1 m = some r) : mx_out (WSX12_save a p0) m r := by
  unfold FX12_save at h
  have z0 : mx_out (WSX12_save a p0) m m := mx_out.rf
  obtain ⟨q6, h_q6, h⟩ := Option.bind_eq_some_iff.mp h
  have z2 := mx_out.tr z0 (mx_out.sub (S := (WSX12_save a p0)) (ZX12_save_L2 mx_FU h_q6) (fun b j hb => hb))
  obtain rfl := Option.some.inj h
  exact z2
set_option maxRecDepth 20000 in
theorem ZX12_comeBack_L2 {q0 : Nat} {q1 : Nat} {w1 : Nat} {y2 : Int32} : ∀ (f : Nat) {y3 : Int32} {m : mB} {q : (mB)}, FX12_comeBack_L2 q0 q1 w1 y2 f y3 m = some q → mx_out (WSX12_comeBack_L2 q0 q1) m q := by
  intro f
  induction f with
  | zero => intro _ _ _ h; cases h
  | succ f ih =>
    intro y3 m q h
    rw [FX12_comeBack_L2] at h
    have z0 : mx_out (WSX12_comeBack_L2 q0 q1) m m := mx_out.rf
    by_cases hc1z : 65 ≤ y3
    · rw [if_pos hc1z] at h
      obtain rfl := Option.some.inj h
      exact z0
    · rw [if_neg hc1z] at h
      obtain ⟨-, h⟩ := mx_chkE h
      obtain ⟨-, h⟩ := mx_chkE h
      obtain ⟨m3, e_m3, h⟩ := mx_letE h
      have z1 : mx_out (WSX12_comeBack_L2 q0 q1) m m3 := by first | exact mx_out_up z0 e_m3 rfl | exact mx_out_ul z0 e_m3 rfl | exact mx_out_cp z0 e_m3 (fun j => rfl) | exact mx_out_cl z0 e_m3 (fun j => rfl)
      obtain ⟨v5, -, h⟩ := mx_letE h
      exact mx_out.tr z1 (ih h)
set_option maxRecDepth 20000 in
theorem ZX12_comeBack {a : Nat} {p0 : Nat} {n0 : Nat} {x1 : Int32} {m : mB} {r : mB} (h : FX12_comeBack a p0 n0 x1 m = some r) : mx_out (WSX12_comeBack a p0) m r := by
  unfold FX12_comeBack at h
  have z0 : mx_out (WSX12_comeBack a p0) m m := mx_out.rf
  obtain ⟨q6, h_q6, h⟩ := Option.bind_eq_some_iff.mp h
  have z2 := mx_out.tr z0 (mx_out.sub (S := (WSX12_comeBack a p0)) (ZX12_comeBack_L2 mx_FU h_q6) (fun b j hb => hb))
  obtain rfl := Option.some.inj h
  exact z2
set_option maxRecDepth 20000 in
theorem ZX12_snap_L11 {q0 : Nat} : ∀ (f : Nat) {y1 : Int32} {m : mB} {q : (mB)}, FX12_snap_L11 q0 f y1 m = some q → mx_out (WSX12_snap_L11 q0) m q := by
  intro f
  induction f with
  | zero => intro _ _ _ h; cases h
  | succ f ih =>
    intro y1 m q h
    rw [FX12_snap_L11] at h
    have z0 : mx_out (WSX12_snap_L11 q0) m m := mx_out.rf
    by_cases hc6z : 455 ≤ y1
    · rw [if_pos hc6z] at h
      obtain rfl := Option.some.inj h
      exact z0
    · rw [if_neg hc6z] at h
      obtain ⟨-, h⟩ := mx_chkE h
      obtain ⟨-, h⟩ := mx_chkE h
      obtain ⟨m8, e_m8, h⟩ := mx_letE h
      have z1 : mx_out (WSX12_snap_L11 q0) m m8 := by first | exact mx_out_up z0 e_m8 rfl | exact mx_out_ul z0 e_m8 rfl | exact mx_out_cp z0 e_m8 (fun j => rfl) | exact mx_out_cl z0 e_m8 (fun j => rfl)
      obtain ⟨v10, -, h⟩ := mx_letE h
      exact mx_out.tr z1 (ih h)
set_option maxRecDepth 20000 in
theorem ZX12_snap {a : Nat} {m : mB} {r : mB} (h : FX12_snap a m = some r) : mx_out (WSX12_snap a) m r := by
  unfold FX12_snap at h
  have z0 : mx_out (WSX12_snap a) m m := mx_out.rf
  refine mx_letK (J := fun k3 => ∀ {m2 : mB}, k3 m2 = some r → mx_out (WSX12_snap a) m m2 → mx_out (WSX12_snap a) m r) h ?_ (fun k3 z_k3 h => ?_)
  · intro m2 h z2
    dsimp only at h
    obtain ⟨r4, h_r4, h⟩ := Option.bind_eq_some_iff.mp h
    have z3 : mx_out (WSX12_snap a) m r4 := mx_out.tr z2 (mx_out.sub (ZX12_save h_r4) (fun b j hb => (Or.inr hb)))
    obtain ⟨m5, e_m5, h⟩ := mx_letE h
    have z4 : mx_out (WSX12_snap a) m m5 := by first | exact mx_out_up z3 e_m5 (Or.inl ⟨rfl, rfl⟩) | exact mx_out_ul z3 e_m5 (Or.inl ⟨rfl, rfl⟩) | exact mx_out_cp z3 e_m5 (fun j => (Or.inl ⟨rfl, rfl⟩)) | exact mx_out_cl z3 e_m5 (fun j => (Or.inl ⟨rfl, rfl⟩))
    obtain rfl := Option.some.inj h
    exact z4
  by_cases hc1z : (m.1 a 25) = 8
  · rw [if_pos hc1z] at h
    obtain ⟨q11, h_q11, h⟩ := Option.bind_eq_some_iff.mp h
    have z5 := mx_out.tr z0 (mx_out.sub (S := (WSX12_snap a)) (ZX12_snap_L11 mx_FU h_q11) (fun b j hb => (Or.inr hb)))
    obtain ⟨m12, e_m12, h⟩ := mx_letE h
    have z6 : mx_out (WSX12_snap a) m m12 := by first | exact mx_out_up z5 e_m12 (Or.inl ⟨rfl, rfl⟩) | exact mx_out_ul z5 e_m12 (Or.inl ⟨rfl, rfl⟩) | exact mx_out_cp z5 e_m12 (fun j => (Or.inl ⟨rfl, rfl⟩)) | exact mx_out_cl z5 e_m12 (fun j => (Or.inl ⟨rfl, rfl⟩))
    exact z_k3 h z6
  · rw [if_neg hc1z] at h
    exact z_k3 h z0
set_option maxRecDepth 20000 in
theorem ZX12_refusal {a : Nat} {x0 : Int32} {x1 : Int32} {x2 : Int32} {x3 : Int32} {m : mB} {r : (Int32 × mB)} (h : FX12_refusal a x0 x1 x2 x3 m = some r) : mx_out (WSX12_refusal a) m r.2 := by
  unfold FX12_refusal at h
  have z0 : mx_out (WSX12_refusal a) m m := mx_out.rf
  by_cases hc1 : x0 = 0
  · rw [if_pos hc1] at h
    obtain ⟨r2, h_r2, h⟩ := Option.bind_eq_some_iff.mp h
    by_cases hc3z : r2 = 0
    · rw [if_pos hc3z] at h
      obtain rfl := Option.some.inj h
      exact z0
    · rw [if_neg hc3z] at h
      obtain ⟨r4, h_r4, h⟩ := Option.bind_eq_some_iff.mp h
      by_cases hc5z : r4 = 0
      · rw [if_pos hc5z] at h
        obtain rfl := Option.some.inj h
        exact z0
      · rw [if_neg hc5z] at h
        obtain ⟨r6, h_r6, h⟩ := Option.bind_eq_some_iff.mp h
        by_cases hc7z : r6 = 0
        · rw [if_pos hc7z] at h
          obtain rfl := Option.some.inj h
          exact z0
        · rw [if_neg hc7z] at h
          obtain rfl := Option.some.inj h
          exact z0
  · rw [if_neg hc1] at h
    by_cases hc8 : x0 = 1
    · rw [if_pos hc8] at h
      obtain ⟨r9, h_r9, h⟩ := Option.bind_eq_some_iff.mp h
      by_cases hc10z : r9 = 0
      · rw [if_pos hc10z] at h
        obtain rfl := Option.some.inj h
        exact z0
      · rw [if_neg hc10z] at h
        obtain rfl := Option.some.inj h
        exact z0
    · rw [if_neg hc8] at h
      by_cases hc11 : x0 = 2
      · rw [if_pos hc11] at h
        obtain ⟨r12, h_r12, h⟩ := Option.bind_eq_some_iff.mp h
        by_cases hc13z : r12 = 0
        · rw [if_pos hc13z] at h
          obtain rfl := Option.some.inj h
          exact z0
        · rw [if_neg hc13z] at h
          obtain ⟨r14, h_r14, h⟩ := Option.bind_eq_some_iff.mp h
          obtain ⟨-, h⟩ := mx_chkE h
          by_cases hc16z : (m.1 (a + 2) (Int32.toNatClampNeg (128 + r14))) = x3
          · rw [if_pos hc16z] at h
            obtain rfl := Option.some.inj h
            exact z0
          · rw [if_neg hc16z] at h
            obtain rfl := Option.some.inj h
            exact z0
      · rw [if_neg hc11] at h
        by_cases hc17 : x0 = 3
        · rw [if_pos hc17] at h
          obtain ⟨-, h⟩ := mx_chkE h
          by_cases hc19z : (m.1 (a + 2) (Int32.toNatClampNeg (168 + x1))) = x3
          · rw [if_pos hc19z] at h
            obtain rfl := Option.some.inj h
            exact z0
          · rw [if_neg hc19z] at h
            obtain rfl := Option.some.inj h
            exact z0
        · rw [if_neg hc17] at h
          by_cases hc20 : x0 = 4
          · rw [if_pos hc20] at h
            obtain ⟨-, h⟩ := mx_chkE h
            by_cases hc22z : (m.1 (a + 2) (Int32.toNatClampNeg (184 + x1))) = x3
            · rw [if_pos hc22z] at h
              obtain rfl := Option.some.inj h
              exact z0
            · rw [if_neg hc22z] at h
              obtain rfl := Option.some.inj h
              exact z0
          · rw [if_neg hc20] at h
            by_cases hc23 : x0 = 5
            · rw [if_pos hc23] at h
              obtain ⟨-, h⟩ := mx_chkE h
              by_cases hc25z : (m.1 (a + 2) (Int32.toNatClampNeg (184 + x1))) ≤ 0
              · rw [if_pos hc25z] at h
                obtain rfl := Option.some.inj h
                exact z0
              · rw [if_neg hc25z] at h
                obtain rfl := Option.some.inj h
                exact z0
            · rw [if_neg hc23] at h
              obtain ⟨r26, h_r26, h⟩ := Option.bind_eq_some_iff.mp h
              by_cases hc27z : r26 = 0
              · rw [if_pos hc27z] at h
                obtain rfl := Option.some.inj h
                exact z0
              · rw [if_neg hc27z] at h
                obtain ⟨r28, h_r28, h⟩ := Option.bind_eq_some_iff.mp h
                have z1 : mx_out (WSX12_refusal a) m r28.2 := mx_out.tr z0 (mx_out.sub (ZX12_layPath h_r28) (fun b j hb => hb))
                by_cases hc29z : r28.1 = 0
                · rw [if_pos hc29z] at h
                  obtain rfl := Option.some.inj h
                  exact z1
                · rw [if_neg hc29z] at h
                  obtain rfl := Option.some.inj h
                  exact z1
set_option maxRecDepth 20000 in
theorem ZX12_openOdd_L13 {q0 : Nat} : ∀ (f : Nat) {y2 : Int32} {m : mB} {q : (mB)}, FX12_openOdd_L13 q0 f y2 m = some q → mx_out (WSX12_openOdd_L13 q0) m q := by
  intro f
  induction f with
  | zero => intro _ _ _ h; cases h
  | succ f ih =>
    intro y2 m q h
    rw [FX12_openOdd_L13] at h
    have z0 : mx_out (WSX12_openOdd_L13 q0) m m := mx_out.rf
    by_cases hc2z : 5 ≤ y2
    · rw [if_pos hc2z] at h
      obtain rfl := Option.some.inj h
      exact z0
    · rw [if_neg hc2z] at h
      obtain ⟨-, h⟩ := mx_chkE h
      obtain ⟨-, h⟩ := mx_chkE h
      obtain ⟨m4, e_m4, h⟩ := mx_letE h
      have z1 : mx_out (WSX12_openOdd_L13 q0) m m4 := by first | exact mx_out_up z0 e_m4 rfl | exact mx_out_ul z0 e_m4 rfl | exact mx_out_cp z0 e_m4 (fun j => rfl) | exact mx_out_cl z0 e_m4 (fun j => rfl)
      obtain ⟨-, h⟩ := mx_chkE h
      obtain ⟨-, h⟩ := mx_chkE h
      obtain ⟨m7, e_m7, h⟩ := mx_letE h
      have z2 : mx_out (WSX12_openOdd_L13 q0) m m7 := by first | exact mx_out_up z1 e_m7 rfl | exact mx_out_ul z1 e_m7 rfl | exact mx_out_cp z1 e_m7 (fun j => rfl) | exact mx_out_cl z1 e_m7 (fun j => rfl)
      obtain ⟨v9, -, h⟩ := mx_letE h
      exact mx_out.tr z2 (ih h)
set_option maxRecDepth 20000 in
theorem ZX12_openOdd {a : Nat} {x0 : Int32} {m : mB} {r : mB} (h : FX12_openOdd a x0 m = some r) : mx_out (WSX12_openOdd a) m r := by
  unfold FX12_openOdd at h
  have z0 : mx_out (WSX12_openOdd a) m m := mx_out.rf
  obtain ⟨m1, e_m1, h⟩ := mx_letE h
  have z3 : mx_out (WSX12_openOdd a) m m1 := by first | exact mx_out_up z0 e_m1 rfl | exact mx_out_ul z0 e_m1 rfl | exact mx_out_cp z0 e_m1 (fun j => rfl) | exact mx_out_cl z0 e_m1 (fun j => rfl)
  obtain ⟨q10, h_q10, h⟩ := Option.bind_eq_some_iff.mp h
  have z4 := mx_out.tr z3 (mx_out.sub (S := (WSX12_openOdd a)) (ZX12_openOdd_L13 mx_FU h_q10) (fun b j hb => hb))
  obtain ⟨-, h⟩ := mx_chkE h
  obtain ⟨m11, e_m11, h⟩ := mx_letE h
  have z5 : mx_out (WSX12_openOdd a) m m11 := by first | exact mx_out_up z4 e_m11 rfl | exact mx_out_ul z4 e_m11 rfl | exact mx_out_cp z4 e_m11 (fun j => rfl) | exact mx_out_cl z4 e_m11 (fun j => rfl)
  obtain ⟨-, h⟩ := mx_chkE h
  obtain ⟨m13, e_m13, h⟩ := mx_letE h
  have z6 : mx_out (WSX12_openOdd a) m m13 := by first | exact mx_out_up z5 e_m13 rfl | exact mx_out_ul z5 e_m13 rfl | exact mx_out_cp z5 e_m13 (fun j => rfl) | exact mx_out_cl z5 e_m13 (fun j => rfl)
  obtain rfl := Option.some.inj h
  exact z6
set_option maxRecDepth 20000 in
theorem ZX12_live {a : Nat} {x0 : Int32} {x1 : Int32} {x2 : Int32} {x3 : Int32} {m : mB} {r : mB} (h : FX12_live a x0 x1 x2 x3 m = some r) : mx_out (WSX12_live a) m r := by
  unfold FX12_live at h
  have z0 : mx_out (WSX12_live a) m m := mx_out.rf
  by_cases hc1 : x0 = 0
  · rw [if_pos hc1] at h
    obtain ⟨-, h⟩ := mx_chkE h
    obtain ⟨m2, e_m2, h⟩ := mx_letE h
    have z1 : mx_out (WSX12_live a) m m2 := by first | exact mx_out_up z0 e_m2 (Or.inr rfl) | exact mx_out_ul z0 e_m2 (Or.inr rfl) | exact mx_out_cp z0 e_m2 (fun j => (Or.inr rfl)) | exact mx_out_cl z0 e_m2 (fun j => (Or.inr rfl))
    obtain ⟨-, h⟩ := mx_chkE h
    obtain ⟨m4, e_m4, h⟩ := mx_letE h
    have z2 : mx_out (WSX12_live a) m m4 := by first | exact mx_out_up z1 e_m4 (Or.inr rfl) | exact mx_out_ul z1 e_m4 (Or.inr rfl) | exact mx_out_cp z1 e_m4 (fun j => (Or.inr rfl)) | exact mx_out_cl z1 e_m4 (fun j => (Or.inr rfl))
    obtain rfl := Option.some.inj h
    exact z2
  · rw [if_neg hc1] at h
    by_cases hc6 : x0 = 1
    · rw [if_pos hc6] at h
      obtain ⟨-, h⟩ := mx_chkE h
      obtain ⟨-, h⟩ := mx_chkE h
      obtain ⟨m8, e_m8, h⟩ := mx_letE h
      have z3 : mx_out (WSX12_live a) m m8 := by first | exact mx_out_up z0 e_m8 (Or.inr rfl) | exact mx_out_ul z0 e_m8 (Or.inr rfl) | exact mx_out_cp z0 e_m8 (fun j => (Or.inr rfl)) | exact mx_out_cl z0 e_m8 (fun j => (Or.inr rfl))
      obtain ⟨m10, e_m10, h⟩ := mx_letE h
      have z4 : mx_out (WSX12_live a) m m10 := by first | exact mx_out_up z3 e_m10 (Or.inr rfl) | exact mx_out_ul z3 e_m10 (Or.inr rfl) | exact mx_out_cp z3 e_m10 (fun j => (Or.inr rfl)) | exact mx_out_cl z3 e_m10 (fun j => (Or.inr rfl))
      obtain rfl := Option.some.inj h
      exact z4
    · rw [if_neg hc6] at h
      by_cases hc11 : x0 = 2
      · rw [if_pos hc11] at h
        obtain ⟨r12, h_r12, h⟩ := Option.bind_eq_some_iff.mp h
        obtain ⟨-, h⟩ := mx_chkE h
        obtain ⟨m13, e_m13, h⟩ := mx_letE h
        have z5 : mx_out (WSX12_live a) m m13 := by first | exact mx_out_up z0 e_m13 (Or.inr rfl) | exact mx_out_ul z0 e_m13 (Or.inr rfl) | exact mx_out_cp z0 e_m13 (fun j => (Or.inr rfl)) | exact mx_out_cl z0 e_m13 (fun j => (Or.inr rfl))
        obtain rfl := Option.some.inj h
        exact z5
      · rw [if_neg hc11] at h
        by_cases hc15 : x0 = 3
        · rw [if_pos hc15] at h
          obtain ⟨-, h⟩ := mx_chkE h
          obtain ⟨m16, e_m16, h⟩ := mx_letE h
          have z6 : mx_out (WSX12_live a) m m16 := by first | exact mx_out_up z0 e_m16 (Or.inr rfl) | exact mx_out_ul z0 e_m16 (Or.inr rfl) | exact mx_out_cp z0 e_m16 (fun j => (Or.inr rfl)) | exact mx_out_cl z0 e_m16 (fun j => (Or.inr rfl))
          obtain rfl := Option.some.inj h
          exact z6
        · rw [if_neg hc15] at h
          by_cases hc18 : x0 = 4
          · rw [if_pos hc18] at h
            obtain ⟨-, h⟩ := mx_chkE h
            obtain ⟨m19, e_m19, h⟩ := mx_letE h
            have z7 : mx_out (WSX12_live a) m m19 := by first | exact mx_out_up z0 e_m19 (Or.inr rfl) | exact mx_out_ul z0 e_m19 (Or.inr rfl) | exact mx_out_cp z0 e_m19 (fun j => (Or.inr rfl)) | exact mx_out_cl z0 e_m19 (fun j => (Or.inr rfl))
            obtain rfl := Option.some.inj h
            exact z7
          · rw [if_neg hc18] at h
            by_cases hc21 : x0 = 5
            · rw [if_pos hc21] at h
              obtain ⟨r22, h_r22, h⟩ := Option.bind_eq_some_iff.mp h
              have z8 : mx_out (WSX12_live a) m r22 := mx_out.tr z0 (mx_out.sub (ZX12_openOdd h_r22) (fun b j hb => (Or.inr hb)))
              obtain rfl := Option.some.inj h
              exact z8
            · rw [if_neg hc21] at h
              obtain ⟨r23, h_r23, h⟩ := Option.bind_eq_some_iff.mp h
              have z9 : mx_out (WSX12_live a) m r23.2 := mx_out.tr z0 (mx_out.sub (ZX12_layPath h_r23) (fun b j hb => (Or.inl hb)))
              obtain ⟨r24, h_r24, h⟩ := Option.bind_eq_some_iff.mp h
              have z10 : mx_out (WSX12_live a) m r24 := mx_out.tr z9 (mx_out.sub (ZX12_turnPath h_r24) (fun b j hb => (Or.inr hb)))
              obtain rfl := Option.some.inj h
              exact z10
set_option maxRecDepth 20000 in
theorem ZX12_act {a : Nat} {x0 : Int32} {x1 : Int32} {x2 : Int32} {x3 : Int32} {x4 : Int32} {m : mB} {r : (Int32 × mB)} (h : FX12_act a x0 x1 x2 x3 x4 m = some r) : mx_out (WSX12_act a) m r.2 := by
  unfold FX12_act at h
  have z0 : mx_out (WSX12_act a) m m := mx_out.rf
  by_cases hc1z : x4 = 0
  · rw [if_pos hc1z] at h
    obtain rfl := Option.some.inj h
    exact z0
  · rw [if_neg hc1z] at h
    obtain ⟨r2, h_r2, h⟩ := Option.bind_eq_some_iff.mp h
    have z1 : mx_out (WSX12_act a) m r2.2 := mx_out.tr z0 (mx_out.sub (ZX12_refusal h_r2) (fun b j hb => (Or.inr (Or.inl hb))))
    by_cases hc3z : r2.1 = 0
    · rw [if_pos hc3z] at h
      obtain ⟨r4, h_r4, h⟩ := Option.bind_eq_some_iff.mp h
      have z2 : mx_out (WSX12_act a) m r4 := mx_out.tr z1 (mx_out.sub (ZX12_snap h_r4) (fun b j hb => (Or.elim hb (fun h0 => (Or.inl h0)) (fun g0 => (Or.inr (Or.inr (Or.inr g0)))))))
      obtain ⟨r5, h_r5, h⟩ := Option.bind_eq_some_iff.mp h
      have z3 : mx_out (WSX12_act a) m r5 := mx_out.tr z2 (mx_out.sub (ZX12_live h_r5) (fun b j hb => (Or.elim hb (fun h0 => (Or.inr (Or.inl h0))) (fun g0 => (Or.inr (Or.inr (Or.inl g0)))))))
      obtain rfl := Option.some.inj h
      exact z3
    · rw [if_neg hc3z] at h
      obtain rfl := Option.some.inj h
      exact z1
set_option maxRecDepth 20000 in
theorem ZX12_pair {a : Nat} {x0 : Int32} {x1 : Int32} {m : mB} {r : (Int32 × mB)} (h : FX12_pair a x0 x1 m = some r) : mx_out (WSX12_pair a) m r.2 := by
  unfold FX12_pair at h
  have z0 : mx_out (WSX12_pair a) m m := mx_out.rf
  obtain ⟨m1, e_m1, h⟩ := mx_letE h
  have z1 : mx_out (WSX12_pair a) m m1 := by first | exact mx_out_up z0 e_m1 (Or.inl ⟨rfl, rfl⟩) | exact mx_out_ul z0 e_m1 (Or.inl ⟨rfl, rfl⟩) | exact mx_out_cp z0 e_m1 (fun j => (Or.inl ⟨rfl, rfl⟩)) | exact mx_out_cl z0 e_m1 (fun j => (Or.inl ⟨rfl, rfl⟩))
  obtain ⟨r2, h_r2, h⟩ := Option.bind_eq_some_iff.mp h
  obtain ⟨r3, h_r3, h⟩ := Option.bind_eq_some_iff.mp h
  have z2 : mx_out (WSX12_pair a) m r3.2 := mx_out.tr z1 (mx_out.sub (ZX12_act h_r3) (fun b j hb => (Or.elim hb (fun h0 => (Or.inr (Or.inl h0))) (fun g0 => (Or.elim g0 (fun h1 => (Or.inr (Or.inr (Or.inl h1)))) (fun g1 => (Or.elim g1 (fun h2 => (Or.inr (Or.inr (Or.inr (Or.inl h2))))) (fun g2 => (Or.inr (Or.inr (Or.inr (Or.inr g2))))))))))))
  obtain rfl := Option.some.inj h
  exact z2
set_option maxRecDepth 20000 in
theorem ZX12_part {a : Nat} {x0 : Int32} {m : mB} {r : (Int32 × mB)} (h : FX12_part a x0 m = some r) : mx_out (WSX12_part a) m r.2 := by
  unfold FX12_part at h
  have z0 : mx_out (WSX12_part a) m m := mx_out.rf
  obtain ⟨m1, e_m1, h⟩ := mx_letE h
  have z1 : mx_out (WSX12_part a) m m1 := by first | exact mx_out_up z0 e_m1 (Or.inl ⟨rfl, rfl⟩) | exact mx_out_ul z0 e_m1 (Or.inl ⟨rfl, rfl⟩) | exact mx_out_cp z0 e_m1 (fun j => (Or.inl ⟨rfl, rfl⟩)) | exact mx_out_cl z0 e_m1 (fun j => (Or.inl ⟨rfl, rfl⟩))
  obtain ⟨r2, h_r2, h⟩ := Option.bind_eq_some_iff.mp h
  obtain ⟨r3, h_r3, h⟩ := Option.bind_eq_some_iff.mp h
  have z2 : mx_out (WSX12_part a) m r3.2 := mx_out.tr z1 (mx_out.sub (ZX12_act h_r3) (fun b j hb => (Or.elim hb (fun h0 => (Or.inr (Or.inl h0))) (fun g0 => (Or.elim g0 (fun h1 => (Or.inr (Or.inr (Or.inl h1)))) (fun g1 => (Or.elim g1 (fun h2 => (Or.inr (Or.inr (Or.inr (Or.inl h2))))) (fun g2 => (Or.inr (Or.inr (Or.inr (Or.inr g2))))))))))))
  obtain rfl := Option.some.inj h
  exact z2
set_option maxRecDepth 20000 in
theorem ZX12_weigh {a : Nat} {x0 : Int32} {x1 : Int32} {x2 : Int32} {m : mB} {r : (Int32 × mB)} (h : FX12_weigh a x0 x1 x2 m = some r) : mx_out (WSX12_weigh a) m r.2 := by
  unfold FX12_weigh at h
  have z0 : mx_out (WSX12_weigh a) m m := mx_out.rf
  obtain ⟨m1, e_m1, h⟩ := mx_letE h
  have z1 : mx_out (WSX12_weigh a) m m1 := by first | exact mx_out_up z0 e_m1 (Or.inl ⟨rfl, rfl⟩) | exact mx_out_ul z0 e_m1 (Or.inl ⟨rfl, rfl⟩) | exact mx_out_cp z0 e_m1 (fun j => (Or.inl ⟨rfl, rfl⟩)) | exact mx_out_cl z0 e_m1 (fun j => (Or.inl ⟨rfl, rfl⟩))
  obtain ⟨r2, h_r2, h⟩ := Option.bind_eq_some_iff.mp h
  by_cases hc3z : r2 = 0
  · rw [if_pos hc3z] at h
    obtain ⟨r4, h_r4, h⟩ := Option.bind_eq_some_iff.mp h
    have z2 : mx_out (WSX12_weigh a) m r4.2 := mx_out.tr z1 (mx_out.sub (ZX12_act h_r4) (fun b j hb => (Or.elim hb (fun h0 => (Or.inr (Or.inl h0))) (fun g0 => (Or.elim g0 (fun h1 => (Or.inr (Or.inr (Or.inl h1)))) (fun g1 => (Or.elim g1 (fun h2 => (Or.inr (Or.inr (Or.inr (Or.inl h2))))) (fun g2 => (Or.inr (Or.inr (Or.inr (Or.inr g2))))))))))))
    obtain rfl := Option.some.inj h
    exact z2
  · rw [if_neg hc3z] at h
    obtain ⟨r5, h_r5, h⟩ := Option.bind_eq_some_iff.mp h
    by_cases hc6z : r5 = 0
    · rw [if_pos hc6z] at h
      obtain ⟨r7, h_r7, h⟩ := Option.bind_eq_some_iff.mp h
      have z3 : mx_out (WSX12_weigh a) m r7.2 := mx_out.tr z1 (mx_out.sub (ZX12_act h_r7) (fun b j hb => (Or.elim hb (fun h0 => (Or.inr (Or.inl h0))) (fun g0 => (Or.elim g0 (fun h1 => (Or.inr (Or.inr (Or.inl h1)))) (fun g1 => (Or.elim g1 (fun h2 => (Or.inr (Or.inr (Or.inr (Or.inl h2))))) (fun g2 => (Or.inr (Or.inr (Or.inr (Or.inr g2))))))))))))
      obtain rfl := Option.some.inj h
      exact z3
    · rw [if_neg hc6z] at h
      obtain ⟨r8, h_r8, h⟩ := Option.bind_eq_some_iff.mp h
      have z4 : mx_out (WSX12_weigh a) m r8.2 := mx_out.tr z1 (mx_out.sub (ZX12_act h_r8) (fun b j hb => (Or.elim hb (fun h0 => (Or.inr (Or.inl h0))) (fun g0 => (Or.elim g0 (fun h1 => (Or.inr (Or.inr (Or.inl h1)))) (fun g1 => (Or.elim g1 (fun h2 => (Or.inr (Or.inr (Or.inr (Or.inl h2))))) (fun g2 => (Or.inr (Or.inr (Or.inr (Or.inr g2))))))))))))
      obtain rfl := Option.some.inj h
      exact z4
set_option maxRecDepth 20000 in
theorem ZX12_price {a : Nat} {x0 : Int32} {x1 : Int32} {m : mB} {r : (Int32 × mB)} (h : FX12_price a x0 x1 m = some r) : mx_out (WSX12_price a) m r.2 := by
  unfold FX12_price at h
  have z0 : mx_out (WSX12_price a) m m := mx_out.rf
  obtain ⟨m1, e_m1, h⟩ := mx_letE h
  have z1 : mx_out (WSX12_price a) m m1 := by first | exact mx_out_up z0 e_m1 (Or.inl ⟨rfl, rfl⟩) | exact mx_out_ul z0 e_m1 (Or.inl ⟨rfl, rfl⟩) | exact mx_out_cp z0 e_m1 (fun j => (Or.inl ⟨rfl, rfl⟩)) | exact mx_out_cl z0 e_m1 (fun j => (Or.inl ⟨rfl, rfl⟩))
  obtain ⟨r2, h_r2, h⟩ := Option.bind_eq_some_iff.mp h
  by_cases hc3z : r2 = 0
  · rw [if_pos hc3z] at h
    obtain ⟨r4, h_r4, h⟩ := Option.bind_eq_some_iff.mp h
    have z2 : mx_out (WSX12_price a) m r4.2 := mx_out.tr z1 (mx_out.sub (ZX12_act h_r4) (fun b j hb => (Or.elim hb (fun h0 => (Or.inr (Or.inl h0))) (fun g0 => (Or.elim g0 (fun h1 => (Or.inr (Or.inr (Or.inl h1)))) (fun g1 => (Or.elim g1 (fun h2 => (Or.inr (Or.inr (Or.inr (Or.inl h2))))) (fun g2 => (Or.inr (Or.inr (Or.inr (Or.inr g2))))))))))))
    obtain rfl := Option.some.inj h
    exact z2
  · rw [if_neg hc3z] at h
    obtain ⟨r5, h_r5, h⟩ := Option.bind_eq_some_iff.mp h
    by_cases hc6z : r5 = 0
    · rw [if_pos hc6z] at h
      obtain ⟨r7, h_r7, h⟩ := Option.bind_eq_some_iff.mp h
      have z3 : mx_out (WSX12_price a) m r7.2 := mx_out.tr z1 (mx_out.sub (ZX12_act h_r7) (fun b j hb => (Or.elim hb (fun h0 => (Or.inr (Or.inl h0))) (fun g0 => (Or.elim g0 (fun h1 => (Or.inr (Or.inr (Or.inl h1)))) (fun g1 => (Or.elim g1 (fun h2 => (Or.inr (Or.inr (Or.inr (Or.inl h2))))) (fun g2 => (Or.inr (Or.inr (Or.inr (Or.inr g2))))))))))))
      obtain rfl := Option.some.inj h
      exact z3
    · rw [if_neg hc6z] at h
      obtain ⟨r8, h_r8, h⟩ := Option.bind_eq_some_iff.mp h
      have z4 : mx_out (WSX12_price a) m r8.2 := mx_out.tr z1 (mx_out.sub (ZX12_act h_r8) (fun b j hb => (Or.elim hb (fun h0 => (Or.inr (Or.inl h0))) (fun g0 => (Or.elim g0 (fun h1 => (Or.inr (Or.inr (Or.inl h1)))) (fun g1 => (Or.elim g1 (fun h2 => (Or.inr (Or.inr (Or.inr (Or.inl h2))))) (fun g2 => (Or.inr (Or.inr (Or.inr (Or.inr g2))))))))))))
      obtain rfl := Option.some.inj h
      exact z4
set_option maxRecDepth 20000 in
theorem ZX12_crown {a : Nat} {x0 : Int32} {x1 : Int32} {m : mB} {r : (Int32 × mB)} (h : FX12_crown a x0 x1 m = some r) : mx_out (WSX12_crown a) m r.2 := by
  unfold FX12_crown at h
  have z0 : mx_out (WSX12_crown a) m m := mx_out.rf
  obtain ⟨m1, e_m1, h⟩ := mx_letE h
  have z1 : mx_out (WSX12_crown a) m m1 := by first | exact mx_out_up z0 e_m1 (Or.inl ⟨rfl, rfl⟩) | exact mx_out_ul z0 e_m1 (Or.inl ⟨rfl, rfl⟩) | exact mx_out_cp z0 e_m1 (fun j => (Or.inl ⟨rfl, rfl⟩)) | exact mx_out_cl z0 e_m1 (fun j => (Or.inl ⟨rfl, rfl⟩))
  obtain ⟨r2, h_r2, h⟩ := Option.bind_eq_some_iff.mp h
  by_cases hc3z : r2 = 0
  · rw [if_pos hc3z] at h
    obtain ⟨r4, h_r4, h⟩ := Option.bind_eq_some_iff.mp h
    have z2 : mx_out (WSX12_crown a) m r4.2 := mx_out.tr z1 (mx_out.sub (ZX12_act h_r4) (fun b j hb => (Or.elim hb (fun h0 => (Or.inr (Or.inl h0))) (fun g0 => (Or.elim g0 (fun h1 => (Or.inr (Or.inr (Or.inl h1)))) (fun g1 => (Or.elim g1 (fun h2 => (Or.inr (Or.inr (Or.inr (Or.inl h2))))) (fun g2 => (Or.inr (Or.inr (Or.inr (Or.inr g2))))))))))))
    obtain rfl := Option.some.inj h
    exact z2
  · rw [if_neg hc3z] at h
    obtain ⟨r5, h_r5, h⟩ := Option.bind_eq_some_iff.mp h
    by_cases hc6z : r5 = 0
    · rw [if_pos hc6z] at h
      obtain ⟨r7, h_r7, h⟩ := Option.bind_eq_some_iff.mp h
      have z3 : mx_out (WSX12_crown a) m r7.2 := mx_out.tr z1 (mx_out.sub (ZX12_act h_r7) (fun b j hb => (Or.elim hb (fun h0 => (Or.inr (Or.inl h0))) (fun g0 => (Or.elim g0 (fun h1 => (Or.inr (Or.inr (Or.inl h1)))) (fun g1 => (Or.elim g1 (fun h2 => (Or.inr (Or.inr (Or.inr (Or.inl h2))))) (fun g2 => (Or.inr (Or.inr (Or.inr (Or.inr g2))))))))))))
      obtain rfl := Option.some.inj h
      exact z3
    · rw [if_neg hc6z] at h
      obtain ⟨r8, h_r8, h⟩ := Option.bind_eq_some_iff.mp h
      have z4 : mx_out (WSX12_crown a) m r8.2 := mx_out.tr z1 (mx_out.sub (ZX12_act h_r8) (fun b j hb => (Or.elim hb (fun h0 => (Or.inr (Or.inl h0))) (fun g0 => (Or.elim g0 (fun h1 => (Or.inr (Or.inr (Or.inl h1)))) (fun g1 => (Or.elim g1 (fun h2 => (Or.inr (Or.inr (Or.inr (Or.inl h2))))) (fun g2 => (Or.inr (Or.inr (Or.inr (Or.inr g2))))))))))))
      obtain rfl := Option.some.inj h
      exact z4
set_option maxRecDepth 20000 in
theorem ZX12_open {a : Nat} {x0 : Int32} {m : mB} {r : (Int32 × mB)} (h : FX12_open a x0 m = some r) : mx_out (WSX12_open a) m r.2 := by
  unfold FX12_open at h
  have z0 : mx_out (WSX12_open a) m m := mx_out.rf
  obtain ⟨m1, e_m1, h⟩ := mx_letE h
  have z1 : mx_out (WSX12_open a) m m1 := by first | exact mx_out_up z0 e_m1 (Or.inl ⟨rfl, rfl⟩) | exact mx_out_ul z0 e_m1 (Or.inl ⟨rfl, rfl⟩) | exact mx_out_cp z0 e_m1 (fun j => (Or.inl ⟨rfl, rfl⟩)) | exact mx_out_cl z0 e_m1 (fun j => (Or.inl ⟨rfl, rfl⟩))
  obtain ⟨r2, h_r2, h⟩ := Option.bind_eq_some_iff.mp h
  obtain ⟨r3, h_r3, h⟩ := Option.bind_eq_some_iff.mp h
  have z2 : mx_out (WSX12_open a) m r3.2 := mx_out.tr z1 (mx_out.sub (ZX12_act h_r3) (fun b j hb => (Or.elim hb (fun h0 => (Or.inr (Or.inl h0))) (fun g0 => (Or.elim g0 (fun h1 => (Or.inr (Or.inr (Or.inl h1)))) (fun g1 => (Or.elim g1 (fun h2 => (Or.inr (Or.inr (Or.inr (Or.inl h2))))) (fun g2 => (Or.inr (Or.inr (Or.inr (Or.inr g2))))))))))))
  obtain rfl := Option.some.inj h
  exact z2
set_option maxRecDepth 20000 in
theorem ZX12_turn {a : Nat} {m : mB} {r : (Int32 × mB)} (h : FX12_turn a m = some r) : mx_out (WSX12_turn a) m r.2 := by
  unfold FX12_turn at h
  have z0 : mx_out (WSX12_turn a) m m := mx_out.rf
  obtain ⟨m1, e_m1, h⟩ := mx_letE h
  have z1 : mx_out (WSX12_turn a) m m1 := by first | exact mx_out_up z0 e_m1 (Or.inl ⟨rfl, rfl⟩) | exact mx_out_ul z0 e_m1 (Or.inl ⟨rfl, rfl⟩) | exact mx_out_cp z0 e_m1 (fun j => (Or.inl ⟨rfl, rfl⟩)) | exact mx_out_cl z0 e_m1 (fun j => (Or.inl ⟨rfl, rfl⟩))
  obtain ⟨r2, h_r2, h⟩ := Option.bind_eq_some_iff.mp h
  by_cases hc3z : r2 = 0
  · rw [if_pos hc3z] at h
    obtain rfl := Option.some.inj h
    exact z1
  · rw [if_neg hc3z] at h
    obtain ⟨r4, h_r4, h⟩ := Option.bind_eq_some_iff.mp h
    have z2 : mx_out (WSX12_turn a) m r4 := mx_out.tr z1 (mx_out.sub (ZX12_snap h_r4) (fun b j hb => (Or.elim hb (fun h0 => (Or.inr (Or.inl h0))) (fun g0 => (Or.inr (Or.inr (Or.inr g0)))))))
    obtain ⟨r5, h_r5, h⟩ := Option.bind_eq_some_iff.mp h
    have z3 : mx_out (WSX12_turn a) m r5 := mx_out.tr z2 (mx_out.sub (ZX12_turnPath h_r5) (fun b j hb => (Or.inr (Or.inr (Or.inl hb)))))
    obtain rfl := Option.some.inj h
    exact z3
set_option maxRecDepth 20000 in
theorem ZX12_shrink {a : Nat} {m : mB} {r : (Int32 × mB)} (h : FX12_shrink a m = some r) : mx_out (WSX12_shrink a) m r.2 := by
  unfold FX12_shrink at h
  have z0 : mx_out (WSX12_shrink a) m m := mx_out.rf
  obtain ⟨m1, e_m1, h⟩ := mx_letE h
  have z1 : mx_out (WSX12_shrink a) m m1 := by first | exact mx_out_up z0 e_m1 (Or.inl ⟨rfl, rfl⟩) | exact mx_out_ul z0 e_m1 (Or.inl ⟨rfl, rfl⟩) | exact mx_out_cp z0 e_m1 (fun j => (Or.inl ⟨rfl, rfl⟩)) | exact mx_out_cl z0 e_m1 (fun j => (Or.inl ⟨rfl, rfl⟩))
  obtain ⟨r2, h_r2, h⟩ := Option.bind_eq_some_iff.mp h
  by_cases hc3z : r2 = 0
  · rw [if_pos hc3z] at h
    obtain rfl := Option.some.inj h
    exact z1
  · rw [if_neg hc3z] at h
    obtain ⟨q8, h_q8, h⟩ := Option.bind_eq_some_iff.mp h
    obtain ⟨r9, h_r9, h⟩ := Option.bind_eq_some_iff.mp h
    by_cases hc10z : r9 = 0
    · rw [if_pos hc10z] at h
      by_cases hc11z : (m1.1 (a + 2) 125) = 6
      · rw [if_pos hc11z] at h
        obtain rfl := Option.some.inj h
        exact z1
      · rw [if_neg hc11z] at h
        obtain ⟨r12, h_r12, h⟩ := Option.bind_eq_some_iff.mp h
        have z2 : mx_out (WSX12_shrink a) m r12 := mx_out.tr z1 (mx_out.sub (ZX12_snap h_r12) (fun b j hb => (Or.elim hb (fun h0 => (Or.inr (Or.inl h0))) (fun g0 => (Or.inr (Or.inr (Or.inr g0)))))))
        obtain ⟨-, h⟩ := mx_chkE h
        obtain ⟨m13, e_m13, h⟩ := mx_letE h
        have z3 : mx_out (WSX12_shrink a) m m13 := by first | exact mx_out_up z2 e_m13 (Or.inr (Or.inr (Or.inl rfl))) | exact mx_out_ul z2 e_m13 (Or.inr (Or.inr (Or.inl rfl))) | exact mx_out_cp z2 e_m13 (fun j => (Or.inr (Or.inr (Or.inl rfl)))) | exact mx_out_cl z2 e_m13 (fun j => (Or.inr (Or.inr (Or.inl rfl))))
        obtain ⟨-, h⟩ := mx_chkE h
        obtain ⟨m15, e_m15, h⟩ := mx_letE h
        have z4 : mx_out (WSX12_shrink a) m m15 := by first | exact mx_out_up z3 e_m15 (Or.inr (Or.inr (Or.inl rfl))) | exact mx_out_ul z3 e_m15 (Or.inr (Or.inr (Or.inl rfl))) | exact mx_out_cp z3 e_m15 (fun j => (Or.inr (Or.inr (Or.inl rfl)))) | exact mx_out_cl z3 e_m15 (fun j => (Or.inr (Or.inr (Or.inl rfl))))
        obtain ⟨m17, e_m17, h⟩ := mx_letE h
        have z5 : mx_out (WSX12_shrink a) m m17 := by first | exact mx_out_up z4 e_m17 (Or.inr (Or.inr (Or.inl rfl))) | exact mx_out_ul z4 e_m17 (Or.inr (Or.inr (Or.inl rfl))) | exact mx_out_cp z4 e_m17 (fun j => (Or.inr (Or.inr (Or.inl rfl)))) | exact mx_out_cl z4 e_m17 (fun j => (Or.inr (Or.inr (Or.inl rfl))))
        obtain ⟨m18, e_m18, h⟩ := mx_letE h
        have z6 : mx_out (WSX12_shrink a) m m18 := by first | exact mx_out_up z5 e_m18 (Or.inr (Or.inr (Or.inl rfl))) | exact mx_out_ul z5 e_m18 (Or.inr (Or.inr (Or.inl rfl))) | exact mx_out_cp z5 e_m18 (fun j => (Or.inr (Or.inr (Or.inl rfl)))) | exact mx_out_cl z5 e_m18 (fun j => (Or.inr (Or.inr (Or.inl rfl))))
        obtain rfl := Option.some.inj h
        exact z6
    · rw [if_neg hc10z] at h
      obtain rfl := Option.some.inj h
      exact z1
set_option maxRecDepth 20000 in
theorem ZX12_undo {a : Nat} {m : mB} {r : (Int32 × mB)} (h : FX12_undo a m = some r) : mx_out (WSX12_undo a) m r.2 := by
  unfold FX12_undo at h
  have z0 : mx_out (WSX12_undo a) m m := mx_out.rf
  obtain ⟨m1, e_m1, h⟩ := mx_letE h
  have z1 : mx_out (WSX12_undo a) m m1 := by first | exact mx_out_up z0 e_m1 (Or.inl ⟨rfl, rfl⟩) | exact mx_out_ul z0 e_m1 (Or.inl ⟨rfl, rfl⟩) | exact mx_out_cp z0 e_m1 (fun j => (Or.inl ⟨rfl, rfl⟩)) | exact mx_out_cl z0 e_m1 (fun j => (Or.inl ⟨rfl, rfl⟩))
  by_cases hc2z : (m1.1 a 25) = 0
  · rw [if_pos hc2z] at h
    obtain rfl := Option.some.inj h
    exact z1
  · rw [if_neg hc2z] at h
    obtain ⟨m3, e_m3, h⟩ := mx_letE h
    have z2 : mx_out (WSX12_undo a) m m3 := by first | exact mx_out_up z1 e_m3 (Or.inr (Or.inl ⟨rfl, rfl⟩)) | exact mx_out_ul z1 e_m3 (Or.inr (Or.inl ⟨rfl, rfl⟩)) | exact mx_out_cp z1 e_m3 (fun j => (Or.inr (Or.inl ⟨rfl, rfl⟩))) | exact mx_out_cl z1 e_m3 (fun j => (Or.inr (Or.inl ⟨rfl, rfl⟩)))
    obtain ⟨r4, h_r4, h⟩ := Option.bind_eq_some_iff.mp h
    have z3 : mx_out (WSX12_undo a) m r4 := mx_out.tr z2 (mx_out.sub (ZX12_comeBack h_r4) (fun b j hb => (Or.inr (Or.inr hb))))
    obtain rfl := Option.some.inj h
    exact z3
set_option maxRecDepth 20000 in
theorem ZX12_proof_L17 {q0 : Nat} : ∀ (f : Nat) {y1 : Int32} {m : mB} {q : (mB)}, FX12_proof_L17 q0 f y1 m = some q → mx_out (WSX12_proof_L17 q0) m q := by
  intro f
  induction f with
  | zero => intro _ _ _ h; cases h
  | succ f ih =>
    intro y1 m q h
    rw [FX12_proof_L17] at h
    have z0 : mx_out (WSX12_proof_L17 q0) m m := mx_out.rf
    by_cases hc4z : 4 < y1
    · rw [if_pos hc4z] at h
      obtain rfl := Option.some.inj h
      exact z0
    · rw [if_neg hc4z] at h
      by_cases hc5z : (m.1 q0 31) = 0
      · rw [if_pos hc5z] at h
        obtain ⟨r6, h_r6, h⟩ := Option.bind_eq_some_iff.mp h
        obtain ⟨m7, e_m7, h⟩ := mx_letE h
        have z1 : mx_out (WSX12_proof_L17 q0) m m7 := by first | exact mx_out_up z0 e_m7 (Or.inr ⟨rfl, rfl⟩) | exact mx_out_ul z0 e_m7 (Or.inr ⟨rfl, rfl⟩) | exact mx_out_cp z0 e_m7 (fun j => (Or.inr ⟨rfl, rfl⟩)) | exact mx_out_cl z0 e_m7 (fun j => (Or.inr ⟨rfl, rfl⟩))
        by_cases hc8z : (m7.1 q0 32) = (-1)
        · rw [if_pos hc8z] at h
          obtain ⟨v9, -, h⟩ := mx_letE h
          exact mx_out.tr z1 (ih h)
        · rw [if_neg hc8z] at h
          obtain ⟨m10, e_m10, h⟩ := mx_letE h
          have z2 : mx_out (WSX12_proof_L17 q0) m m10 := by first | exact mx_out_up z1 e_m10 (Or.inl ⟨rfl, rfl⟩) | exact mx_out_ul z1 e_m10 (Or.inl ⟨rfl, rfl⟩) | exact mx_out_cp z1 e_m10 (fun j => (Or.inl ⟨rfl, rfl⟩)) | exact mx_out_cl z1 e_m10 (fun j => (Or.inl ⟨rfl, rfl⟩))
          obtain ⟨v11, -, h⟩ := mx_letE h
          exact mx_out.tr z2 (ih h)
      · rw [if_neg hc5z] at h
        obtain rfl := Option.some.inj h
        exact z0
set_option maxRecDepth 20000 in
theorem ZX12_proof {a : Nat} {m : mB} {r : (Int32 × mB)} (h : FX12_proof a m = some r) : mx_out (WSX12_proof a) m r.2 := by
  unfold FX12_proof at h
  have z0 : mx_out (WSX12_proof a) m m := mx_out.rf
  obtain ⟨m1, e_m1, h⟩ := mx_letE h
  have z3 : mx_out (WSX12_proof a) m m1 := by first | exact mx_out_up z0 e_m1 (Or.inl ⟨rfl, rfl⟩) | exact mx_out_ul z0 e_m1 (Or.inl ⟨rfl, rfl⟩) | exact mx_out_cp z0 e_m1 (fun j => (Or.inl ⟨rfl, rfl⟩)) | exact mx_out_cl z0 e_m1 (fun j => (Or.inl ⟨rfl, rfl⟩))
  obtain ⟨m2, e_m2, h⟩ := mx_letE h
  have z4 : mx_out (WSX12_proof a) m m2 := by first | exact mx_out_up z3 e_m2 (Or.inr (Or.inl ⟨rfl, rfl⟩)) | exact mx_out_ul z3 e_m2 (Or.inr (Or.inl ⟨rfl, rfl⟩)) | exact mx_out_cp z3 e_m2 (fun j => (Or.inr (Or.inl ⟨rfl, rfl⟩))) | exact mx_out_cl z3 e_m2 (fun j => (Or.inr (Or.inl ⟨rfl, rfl⟩)))
  obtain ⟨m3, e_m3, h⟩ := mx_letE h
  have z5 : mx_out (WSX12_proof a) m m3 := by first | exact mx_out_up z4 e_m3 (Or.inr (Or.inr (Or.inl ⟨rfl, rfl⟩))) | exact mx_out_ul z4 e_m3 (Or.inr (Or.inr (Or.inl ⟨rfl, rfl⟩))) | exact mx_out_cp z4 e_m3 (fun j => (Or.inr (Or.inr (Or.inl ⟨rfl, rfl⟩)))) | exact mx_out_cl z4 e_m3 (fun j => (Or.inr (Or.inr (Or.inl ⟨rfl, rfl⟩))))
  obtain ⟨q12, h_q12, h⟩ := Option.bind_eq_some_iff.mp h
  have z6 := mx_out.tr z5 (mx_out.sub (S := (WSX12_proof a)) (ZX12_proof_L17 mx_FU h_q12) (fun b j hb => (Or.elim hb (fun h0 => (Or.inr (Or.inl h0))) (fun g0 => (Or.inr (Or.inr (Or.inl g0)))))))
  by_cases hc13z : (q12.1 a 31) = 0
  · rw [if_pos hc13z] at h
    obtain rfl := Option.some.inj h
    exact z6
  · rw [if_neg hc13z] at h
    by_cases hc14z : 3 ≤ (q12.1 a 31)
    · rw [if_pos hc14z] at h
      by_cases hc15z : (q12.1 a 31) = 3
      · rw [if_pos hc15z] at h
        obtain ⟨-, h⟩ := mx_chkE h
        obtain ⟨m19, e_m19, h⟩ := mx_letE h
        have z7 : mx_out (WSX12_proof a) m m19 := by first | exact mx_out_up z6 e_m19 (Or.inr (Or.inr (Or.inr ⟨rfl, rfl⟩))) | exact mx_out_ul z6 e_m19 (Or.inr (Or.inr (Or.inr ⟨rfl, rfl⟩))) | exact mx_out_cp z6 e_m19 (fun j => (Or.inr (Or.inr (Or.inr ⟨rfl, rfl⟩)))) | exact mx_out_cl z6 e_m19 (fun j => (Or.inr (Or.inr (Or.inr ⟨rfl, rfl⟩))))
        obtain rfl := Option.some.inj h
        exact z7
      · rw [if_neg hc15z] at h
        obtain ⟨-, h⟩ := mx_chkE h
        obtain ⟨m17, e_m17, h⟩ := mx_letE h
        have z8 : mx_out (WSX12_proof a) m m17 := by first | exact mx_out_up z6 e_m17 (Or.inr (Or.inr (Or.inr ⟨rfl, rfl⟩))) | exact mx_out_ul z6 e_m17 (Or.inr (Or.inr (Or.inr ⟨rfl, rfl⟩))) | exact mx_out_cp z6 e_m17 (fun j => (Or.inr (Or.inr (Or.inr ⟨rfl, rfl⟩)))) | exact mx_out_cl z6 e_m17 (fun j => (Or.inr (Or.inr (Or.inr ⟨rfl, rfl⟩))))
        obtain rfl := Option.some.inj h
        exact z8
    · rw [if_neg hc14z] at h
      obtain ⟨r20, h_r20, h⟩ := Option.bind_eq_some_iff.mp h
      obtain ⟨m21, e_m21, h⟩ := mx_letE h
      have z9 : mx_out (WSX12_proof a) m m21 := by first | exact mx_out_up z6 e_m21 (Or.inr (Or.inr (Or.inr ⟨rfl, rfl⟩))) | exact mx_out_ul z6 e_m21 (Or.inr (Or.inr (Or.inr ⟨rfl, rfl⟩))) | exact mx_out_cp z6 e_m21 (fun j => (Or.inr (Or.inr (Or.inr ⟨rfl, rfl⟩)))) | exact mx_out_cl z6 e_m21 (fun j => (Or.inr (Or.inr (Or.inr ⟨rfl, rfl⟩))))
      obtain rfl := Option.some.inj h
      exact z9
set_option maxRecDepth 20000 in
theorem ZX12_proofAt {a : Nat} {m : mB} {r : (Int32 × mB)} (h : FX12_proofAt a m = some r) : mx_out (WSX12_proofAt a) m r.2 := by
  unfold FX12_proofAt at h
  have z0 : mx_out (WSX12_proofAt a) m m := mx_out.rf
  obtain ⟨m1, e_m1, h⟩ := mx_letE h
  have z1 : mx_out (WSX12_proofAt a) m m1 := by first | exact mx_out_up z0 e_m1 ⟨rfl, rfl⟩ | exact mx_out_ul z0 e_m1 ⟨rfl, rfl⟩ | exact mx_out_cp z0 e_m1 (fun j => ⟨rfl, rfl⟩) | exact mx_out_cl z0 e_m1 (fun j => ⟨rfl, rfl⟩)
  obtain rfl := Option.some.inj h
  exact z1
set_option maxRecDepth 20000 in
theorem ZX12_proofBy {a : Nat} {m : mB} {r : (Int32 × mB)} (h : FX12_proofBy a m = some r) : mx_out (WSX12_proofBy a) m r.2 := by
  unfold FX12_proofBy at h
  have z0 : mx_out (WSX12_proofBy a) m m := mx_out.rf
  obtain ⟨m1, e_m1, h⟩ := mx_letE h
  have z1 : mx_out (WSX12_proofBy a) m m1 := by first | exact mx_out_up z0 e_m1 ⟨rfl, rfl⟩ | exact mx_out_ul z0 e_m1 ⟨rfl, rfl⟩ | exact mx_out_cp z0 e_m1 (fun j => ⟨rfl, rfl⟩) | exact mx_out_cl z0 e_m1 (fun j => ⟨rfl, rfl⟩)
  by_cases hc2z : (m1.1 a 32) = (-1)
  · rw [if_pos hc2z] at h
    obtain ⟨r3, h_r3, h⟩ := Option.bind_eq_some_iff.mp h
    have z2 : mx_out (WSX12_proofBy a) m r3.2 := mx_out.tr z1 (mx_out.sub (ZX12_refuse h_r3) (fun b j hb => hb))
    obtain rfl := Option.some.inj h
    exact z2
  · rw [if_neg hc2z] at h
    obtain rfl := Option.some.inj h
    exact z1
set_option maxRecDepth 20000 in
theorem ZX12_room {a : Nat} {x0 : Int32} {m : mB} {r : (Int32 × mB)} (h : FX12_room a x0 m = some r) : mx_out (WSX12_room a) m r.2 := by
  unfold FX12_room at h
  have z0 : mx_out (WSX12_room a) m m := mx_out.rf
  obtain ⟨m1, e_m1, h⟩ := mx_letE h
  have z1 : mx_out (WSX12_room a) m m1 := by first | exact mx_out_up z0 e_m1 ⟨rfl, rfl⟩ | exact mx_out_ul z0 e_m1 ⟨rfl, rfl⟩ | exact mx_out_cp z0 e_m1 (fun j => ⟨rfl, rfl⟩) | exact mx_out_cl z0 e_m1 (fun j => ⟨rfl, rfl⟩)
  obtain ⟨r2, h_r2, h⟩ := Option.bind_eq_some_iff.mp h
  by_cases hc3z : r2 = 0
  · rw [if_pos hc3z] at h
    obtain rfl := Option.some.inj h
    exact z1
  · rw [if_neg hc3z] at h
    obtain ⟨-, h⟩ := mx_chkE h
    obtain ⟨v5, -, h⟩ := mx_letE h
    obtain ⟨q15, h_q15, h⟩ := Option.bind_eq_some_iff.mp h
    by_cases hc16z : 0 ≤ q15
    · rw [if_pos hc16z] at h
      obtain rfl := Option.some.inj h
      exact z1
    · rw [if_neg hc16z] at h
      obtain rfl := Option.some.inj h
      exact z1
set_option maxRecDepth 20000 in
theorem ZX12_best_L21 {q0 : Nat} : ∀ (f : Nat) {y1 : Int32} {m : mB} {q : (mB)}, FX12_best_L21 q0 f y1 m = some q → mx_out (WSX12_best_L21 q0) m q := by
  intro f
  induction f with
  | zero => intro _ _ _ h; cases h
  | succ f ih =>
    intro y1 m q h
    rw [FX12_best_L21] at h
    have z0 : mx_out (WSX12_best_L21 q0) m m := mx_out.rf
    by_cases hc4z : (m.1 q0 45) ≤ y1
    · rw [if_pos hc4z] at h
      obtain rfl := Option.some.inj h
      exact z0
    · rw [if_neg hc4z] at h
      obtain ⟨-, h⟩ := mx_chkE h
      obtain ⟨m6, e_m6, h⟩ := mx_letE h
      have z1 : mx_out (WSX12_best_L21 q0) m m6 := by first | exact mx_out_up z0 e_m6 rfl | exact mx_out_ul z0 e_m6 rfl | exact mx_out_cp z0 e_m6 (fun j => rfl) | exact mx_out_cl z0 e_m6 (fun j => rfl)
      obtain ⟨v7, -, h⟩ := mx_letE h
      exact mx_out.tr z1 (ih h)
set_option maxRecDepth 20000 in
theorem ZX12_best {a : Nat} {m : mB} {r : (Int32 × mB)} (h : FX12_best a m = some r) : mx_out (WSX12_best a) m r.2 := by
  unfold FX12_best at h
  have z0 : mx_out (WSX12_best a) m m := mx_out.rf
  obtain ⟨m1, e_m1, h⟩ := mx_letE h
  have z2 : mx_out (WSX12_best a) m m1 := by first | exact mx_out_up z0 e_m1 (Or.inl ⟨rfl, rfl⟩) | exact mx_out_ul z0 e_m1 (Or.inl ⟨rfl, rfl⟩) | exact mx_out_cp z0 e_m1 (fun j => (Or.inl ⟨rfl, rfl⟩)) | exact mx_out_cl z0 e_m1 (fun j => (Or.inl ⟨rfl, rfl⟩))
  obtain ⟨r2, h_r2, h⟩ := Option.bind_eq_some_iff.mp h
  have z3 : mx_out (WSX12_best a) m r2 := mx_out.tr z2 (mx_out.sub (ZX12_survey h_r2) (fun b j hb => (Or.elim hb (fun h0 => (Or.inr (Or.inl h0))) (fun g0 => (Or.elim g0 (fun h1 => (Or.inr (Or.inr (Or.inl h1)))) (fun g1 => (Or.elim g1 (fun h2 => (Or.inr (Or.inr (Or.inr (Or.inl h2))))) (fun g2 => (Or.elim g2 (fun h3 => (Or.inr (Or.inr (Or.inr (Or.inr (Or.inl h3)))))) (fun g3 => (Or.elim g3 (fun h4 => (Or.inr (Or.inr (Or.inr (Or.inr (Or.inr (Or.inr (Or.inl h4)))))))) (fun g4 => (Or.elim g4 (fun h5 => (Or.inr (Or.inr (Or.inr (Or.inr (Or.inr (Or.inr (Or.inr (Or.inl h5))))))))) (fun g5 => (Or.elim g5 (fun h6 => (Or.inr (Or.inr (Or.inr (Or.inr (Or.inr (Or.inr (Or.inr (Or.inr (Or.inl h6)))))))))) (fun g6 => (Or.elim g6 (fun h7 => (Or.inr (Or.inr (Or.inr (Or.inr (Or.inr (Or.inr (Or.inr (Or.inr (Or.inr (Or.inr (Or.inl h7)))))))))))) (fun g7 => (Or.elim g7 (fun h8 => (Or.inr (Or.inr (Or.inr (Or.inr (Or.inr (Or.inr (Or.inr (Or.inr (Or.inr (Or.inr (Or.inr (Or.inl h8))))))))))))) (fun g8 => (Or.elim g8 (fun h9 => (Or.inr (Or.inr (Or.inr (Or.inr (Or.inr (Or.inr (Or.inr (Or.inr (Or.inr (Or.inr (Or.inr (Or.inr (Or.inl h9)))))))))))))) (fun g9 => (Or.inr (Or.inr (Or.inr (Or.inr (Or.inr (Or.inr (Or.inr (Or.inr (Or.inr (Or.inr (Or.inr (Or.inr (Or.inr g9)))))))))))))))))))))))))))))))))))
  obtain ⟨m3, e_m3, h⟩ := mx_letE h
  have z4 : mx_out (WSX12_best a) m m3 := by first | exact mx_out_up z3 e_m3 (Or.inr (Or.inr (Or.inr (Or.inr (Or.inr (Or.inl ⟨rfl, rfl⟩)))))) | exact mx_out_ul z3 e_m3 (Or.inr (Or.inr (Or.inr (Or.inr (Or.inr (Or.inl ⟨rfl, rfl⟩)))))) | exact mx_out_cp z3 e_m3 (fun j => (Or.inr (Or.inr (Or.inr (Or.inr (Or.inr (Or.inl ⟨rfl, rfl⟩))))))) | exact mx_out_cl z3 e_m3 (fun j => (Or.inr (Or.inr (Or.inr (Or.inr (Or.inr (Or.inl ⟨rfl, rfl⟩)))))))
  obtain ⟨q8, h_q8, h⟩ := Option.bind_eq_some_iff.mp h
  have z5 := mx_out.tr z4 (mx_out.sub (S := (WSX12_best a)) (ZX12_best_L21 mx_FU h_q8) (fun b j hb => (Or.inr (Or.inr (Or.inr (Or.inr (Or.inr (Or.inr (Or.inr (Or.inr (Or.inr (Or.inl hb))))))))))))
  obtain rfl := Option.some.inj h
  exact z5
set_option maxRecDepth 20000 in
theorem ZX12_bestOf {a : Nat} {x0 : Int32} {m : mB} {r : (Int32 × mB)} (h : FX12_bestOf a x0 m = some r) : mx_out (WSX12_bestOf a) m r.2 := by
  unfold FX12_bestOf at h
  have z0 : mx_out (WSX12_bestOf a) m m := mx_out.rf
  obtain ⟨m1, e_m1, h⟩ := mx_letE h
  have z1 : mx_out (WSX12_bestOf a) m m1 := by first | exact mx_out_up z0 e_m1 ⟨rfl, rfl⟩ | exact mx_out_ul z0 e_m1 ⟨rfl, rfl⟩ | exact mx_out_cp z0 e_m1 (fun j => ⟨rfl, rfl⟩) | exact mx_out_cl z0 e_m1 (fun j => ⟨rfl, rfl⟩)
  obtain ⟨r2, h_r2, h⟩ := Option.bind_eq_some_iff.mp h
  by_cases hc3z : r2 = 0
  · rw [if_pos hc3z] at h
    obtain rfl := Option.some.inj h
    exact z1
  · rw [if_neg hc3z] at h
    obtain ⟨-, h⟩ := mx_chkE h
    obtain rfl := Option.some.inj h
    exact z1
set_option maxRecDepth 20000 in
theorem ZX12_next {a : Nat} {m : mB} {r : (Int32 × mB)} (h : FX12_next a m = some r) : mx_out (WSX12_next a) m r.2 := by
  unfold FX12_next at h
  have z0 : mx_out (WSX12_next a) m m := mx_out.rf
  obtain ⟨m1, e_m1, h⟩ := mx_letE h
  have z1 : mx_out (WSX12_next a) m m1 := by first | exact mx_out_up z0 e_m1 (Or.inl ⟨rfl, rfl⟩) | exact mx_out_ul z0 e_m1 (Or.inl ⟨rfl, rfl⟩) | exact mx_out_cp z0 e_m1 (fun j => (Or.inl ⟨rfl, rfl⟩)) | exact mx_out_cl z0 e_m1 (fun j => (Or.inl ⟨rfl, rfl⟩))
  obtain ⟨m2, e_m2, h⟩ := mx_letE h
  have z2 : mx_out (WSX12_next a) m m2 := by first | exact mx_out_up z1 e_m2 (Or.inr (Or.inr (Or.inr (Or.inr (Or.inr (Or.inr (Or.inl ⟨rfl, rfl⟩))))))) | exact mx_out_ul z1 e_m2 (Or.inr (Or.inr (Or.inr (Or.inr (Or.inr (Or.inr (Or.inl ⟨rfl, rfl⟩))))))) | exact mx_out_cp z1 e_m2 (fun j => (Or.inr (Or.inr (Or.inr (Or.inr (Or.inr (Or.inr (Or.inl ⟨rfl, rfl⟩)))))))) | exact mx_out_cl z1 e_m2 (fun j => (Or.inr (Or.inr (Or.inr (Or.inr (Or.inr (Or.inr (Or.inl ⟨rfl, rfl⟩))))))))
  obtain ⟨r3, h_r3, h⟩ := Option.bind_eq_some_iff.mp h
  have z3 : mx_out (WSX12_next a) m r3 := mx_out.tr z2 (mx_out.sub (ZX12_surveyMost h_r3) (fun b j hb => (Or.elim hb (fun h0 => (Or.inr (Or.inl h0))) (fun g0 => (Or.elim g0 (fun h1 => (Or.inr (Or.inr (Or.inl h1)))) (fun g1 => (Or.elim g1 (fun h2 => (Or.inr (Or.inr (Or.inr (Or.inl h2))))) (fun g2 => (Or.elim g2 (fun h3 => (Or.inr (Or.inr (Or.inr (Or.inr (Or.inl h3)))))) (fun g3 => (Or.elim g3 (fun h4 => (Or.inr (Or.inr (Or.inr (Or.inr (Or.inr (Or.inl h4))))))) (fun g4 => (Or.elim g4 (fun h5 => (Or.inr (Or.inr (Or.inr (Or.inr (Or.inr (Or.inr (Or.inr (Or.inl h5))))))))) (fun g5 => (Or.elim g5 (fun h6 => (Or.inr (Or.inr (Or.inr (Or.inr (Or.inr (Or.inr (Or.inr (Or.inr (Or.inl h6)))))))))) (fun g6 => (Or.elim g6 (fun h7 => (Or.inr (Or.inr (Or.inr (Or.inr (Or.inr (Or.inr (Or.inr (Or.inr (Or.inr (Or.inl h7))))))))))) (fun g7 => (Or.elim g7 (fun h8 => (Or.inr (Or.inr (Or.inr (Or.inr (Or.inr (Or.inr (Or.inr (Or.inr (Or.inr (Or.inr (Or.inl h8)))))))))))) (fun g8 => (Or.elim g8 (fun h9 => (Or.inr (Or.inr (Or.inr (Or.inr (Or.inr (Or.inr (Or.inr (Or.inr (Or.inr (Or.inr (Or.inr (Or.inl h9))))))))))))) (fun g9 => (Or.inr (Or.inr (Or.inr (Or.inr (Or.inr (Or.inr (Or.inr (Or.inr (Or.inr (Or.inr (Or.inr (Or.inr g9))))))))))))))))))))))))))))))))))
  obtain rfl := Option.some.inj h
  exact z3
set_option maxRecDepth 20000 in
theorem ZX12_heavy {a : Nat} {x0 : Int32} {m : mB} {r : (Int32 × mB)} (h : FX12_heavy a x0 m = some r) : mx_out (WSX12_heavy a) m r.2 := by
  unfold FX12_heavy at h
  have z0 : mx_out (WSX12_heavy a) m m := mx_out.rf
  obtain ⟨m1, e_m1, h⟩ := mx_letE h
  have z1 : mx_out (WSX12_heavy a) m m1 := by first | exact mx_out_up z0 e_m1 (Or.inl ⟨rfl, rfl⟩) | exact mx_out_ul z0 e_m1 (Or.inl ⟨rfl, rfl⟩) | exact mx_out_cp z0 e_m1 (fun j => (Or.inl ⟨rfl, rfl⟩)) | exact mx_out_cl z0 e_m1 (fun j => (Or.inl ⟨rfl, rfl⟩))
  obtain ⟨r2, h_r2, h⟩ := Option.bind_eq_some_iff.mp h
  by_cases hc3z : r2 = 0
  · rw [if_pos hc3z] at h
    obtain rfl := Option.some.inj h
    exact z1
  · rw [if_neg hc3z] at h
    obtain ⟨r4, h_r4, h⟩ := Option.bind_eq_some_iff.mp h
    have z2 : mx_out (WSX12_heavy a) m r4 := mx_out.tr z1 (mx_out.sub (ZX12_survey h_r4) (fun b j hb => (Or.elim hb (fun h0 => (Or.inr (Or.inl h0))) (fun g0 => (Or.elim g0 (fun h1 => (Or.inr (Or.inr (Or.inl h1)))) (fun g1 => (Or.elim g1 (fun h2 => (Or.inr (Or.inr (Or.inr (Or.inl h2))))) (fun g2 => (Or.elim g2 (fun h3 => (Or.inr (Or.inr (Or.inr (Or.inr (Or.inl h3)))))) (fun g3 => (Or.elim g3 (fun h4 => (Or.inr (Or.inr (Or.inr (Or.inr (Or.inr (Or.inl h4))))))) (fun g4 => (Or.elim g4 (fun h5 => (Or.inr (Or.inr (Or.inr (Or.inr (Or.inr (Or.inr (Or.inl h5)))))))) (fun g5 => (Or.elim g5 (fun h6 => (Or.inr (Or.inr (Or.inr (Or.inr (Or.inr (Or.inr (Or.inr (Or.inl h6))))))))) (fun g6 => (Or.elim g6 (fun h7 => (Or.inr (Or.inr (Or.inr (Or.inr (Or.inr (Or.inr (Or.inr (Or.inr (Or.inl h7)))))))))) (fun g7 => (Or.elim g7 (fun h8 => (Or.inr (Or.inr (Or.inr (Or.inr (Or.inr (Or.inr (Or.inr (Or.inr (Or.inr (Or.inl h8))))))))))) (fun g8 => (Or.elim g8 (fun h9 => (Or.inr (Or.inr (Or.inr (Or.inr (Or.inr (Or.inr (Or.inr (Or.inr (Or.inr (Or.inr (Or.inl h9)))))))))))) (fun g9 => (Or.inr (Or.inr (Or.inr (Or.inr (Or.inr (Or.inr (Or.inr (Or.inr (Or.inr (Or.inr (Or.inr g9)))))))))))))))))))))))))))))))))
    obtain ⟨-, h⟩ := mx_chkE h
    obtain rfl := Option.some.inj h
    exact z2
set_option maxRecDepth 20000 in
theorem ZX12_ways {a : Nat} {x0 : Int32} {m : mB} {r : (Int32 × mB)} (h : FX12_ways a x0 m = some r) : mx_out (WSX12_ways a) m r.2 := by
  unfold FX12_ways at h
  have z0 : mx_out (WSX12_ways a) m m := mx_out.rf
  obtain ⟨m1, e_m1, h⟩ := mx_letE h
  have z1 : mx_out (WSX12_ways a) m m1 := by first | exact mx_out_up z0 e_m1 (Or.inl ⟨rfl, rfl⟩) | exact mx_out_ul z0 e_m1 (Or.inl ⟨rfl, rfl⟩) | exact mx_out_cp z0 e_m1 (fun j => (Or.inl ⟨rfl, rfl⟩)) | exact mx_out_cl z0 e_m1 (fun j => (Or.inl ⟨rfl, rfl⟩))
  obtain ⟨r2, h_r2, h⟩ := Option.bind_eq_some_iff.mp h
  by_cases hc3z : r2 = 0
  · rw [if_pos hc3z] at h
    obtain rfl := Option.some.inj h
    exact z1
  · rw [if_neg hc3z] at h
    obtain ⟨r4, h_r4, h⟩ := Option.bind_eq_some_iff.mp h
    have z2 : mx_out (WSX12_ways a) m r4 := mx_out.tr z1 (mx_out.sub (ZX12_survey h_r4) (fun b j hb => (Or.elim hb (fun h0 => (Or.inr (Or.inl h0))) (fun g0 => (Or.elim g0 (fun h1 => (Or.inr (Or.inr (Or.inl h1)))) (fun g1 => (Or.elim g1 (fun h2 => (Or.inr (Or.inr (Or.inr (Or.inl h2))))) (fun g2 => (Or.elim g2 (fun h3 => (Or.inr (Or.inr (Or.inr (Or.inr (Or.inl h3)))))) (fun g3 => (Or.elim g3 (fun h4 => (Or.inr (Or.inr (Or.inr (Or.inr (Or.inr (Or.inl h4))))))) (fun g4 => (Or.elim g4 (fun h5 => (Or.inr (Or.inr (Or.inr (Or.inr (Or.inr (Or.inr (Or.inl h5)))))))) (fun g5 => (Or.elim g5 (fun h6 => (Or.inr (Or.inr (Or.inr (Or.inr (Or.inr (Or.inr (Or.inr (Or.inl h6))))))))) (fun g6 => (Or.elim g6 (fun h7 => (Or.inr (Or.inr (Or.inr (Or.inr (Or.inr (Or.inr (Or.inr (Or.inr (Or.inl h7)))))))))) (fun g7 => (Or.elim g7 (fun h8 => (Or.inr (Or.inr (Or.inr (Or.inr (Or.inr (Or.inr (Or.inr (Or.inr (Or.inr (Or.inl h8))))))))))) (fun g8 => (Or.elim g8 (fun h9 => (Or.inr (Or.inr (Or.inr (Or.inr (Or.inr (Or.inr (Or.inr (Or.inr (Or.inr (Or.inr (Or.inl h9)))))))))))) (fun g9 => (Or.inr (Or.inr (Or.inr (Or.inr (Or.inr (Or.inr (Or.inr (Or.inr (Or.inr (Or.inr (Or.inr g9)))))))))))))))))))))))))))))))))
    obtain ⟨-, h⟩ := mx_chkE h
    obtain rfl := Option.some.inj h
    exact z2
set_option maxRecDepth 20000 in
theorem ZX12_who_L109 {q0 : Nat} : ∀ (f : Nat) {y2 : Int32} {y3 : Int32} {m : mB} {q : (mB)}, FX12_who_L109 q0 f y2 y3 m = some q → mx_out (WSX12_who_L109 q0) m q := by
  intro f
  induction f with
  | zero => intro _ _ _ _ h; cases h
  | succ f ih =>
    intro y2 y3 m q h
    rw [FX12_who_L109] at h
    have z0 : mx_out (WSX12_who_L109 q0) m m := mx_out.rf
    by_cases hc22z : (m.1 (q0 + 2) 0) ≤ y3
    · rw [if_pos hc22z] at h
      obtain rfl := Option.some.inj h
      exact z0
    · rw [if_neg hc22z] at h
      obtain ⟨q29, h_q29, h⟩ := Option.bind_eq_some_iff.mp h
      by_cases hc30z : y3 ≤ 0
      · rw [if_pos hc30z] at h
        obtain ⟨m31, e_m31, h⟩ := mx_letE h
        have z1 : mx_out (WSX12_who_L109 q0) m m31 := by first | exact mx_out_up z0 e_m31 ⟨rfl, rfl⟩ | exact mx_out_ul z0 e_m31 ⟨rfl, rfl⟩ | exact mx_out_cp z0 e_m31 (fun j => ⟨rfl, rfl⟩) | exact mx_out_cl z0 e_m31 (fun j => ⟨rfl, rfl⟩)
        obtain ⟨v32, -, h⟩ := mx_letE h
        exact mx_out.tr z1 (ih h)
      · rw [if_neg hc30z] at h
        by_cases hc33z : q29 < y2
        · rw [if_pos hc33z] at h
          obtain ⟨m34, e_m34, h⟩ := mx_letE h
          have z2 : mx_out (WSX12_who_L109 q0) m m34 := by first | exact mx_out_up z0 e_m34 ⟨rfl, rfl⟩ | exact mx_out_ul z0 e_m34 ⟨rfl, rfl⟩ | exact mx_out_cp z0 e_m34 (fun j => ⟨rfl, rfl⟩) | exact mx_out_cl z0 e_m34 (fun j => ⟨rfl, rfl⟩)
          obtain ⟨v35, -, h⟩ := mx_letE h
          exact mx_out.tr z2 (ih h)
        · rw [if_neg hc33z] at h
          obtain ⟨v36, -, h⟩ := mx_letE h
          exact mx_out.tr z0 (ih h)
theorem ZX12_who_L32 {q0 : Nat} {y1 : Int32} {m : mB} : ∀ (f : Nat) {y2 : Int32} {rr : Int32 × mB}, FX12_who_L32 q0 y1 m f y2 = some (.inl rr) → rr.2 = m := by
  intro f
  induction f with
  | zero => intro _ _ h; cases h
  | succ f ih =>
    intro y2 rr h
    rw [FX12_who_L32] at h
    by_cases h1 : y1 ≤ y2
    · rw [if_pos h1] at h; cases h
    · rw [if_neg h1] at h
      obtain ⟨-, h⟩ := mx_chkE h
      obtain ⟨r8, -, h⟩ := Option.bind_eq_some_iff.mp h
      by_cases h2 : r8 = 0
      · rw [if_pos h2] at h
        cases h
        rfl
      · rw [if_neg h2] at h
        obtain ⟨-, h⟩ := mx_chkE h
        obtain ⟨r11, -, h⟩ := Option.bind_eq_some_iff.mp h
        by_cases h3 : r11 = 0
        · rw [if_pos h3] at h
          by_cases h4 : (m.1 (q0 + 1) (Int32.toNatClampNeg (y2 + 1))) = 255
          · rw [if_pos h4] at h
            obtain ⟨v, -, h⟩ := mx_letE h
            exact ih h
          · rw [if_neg h4] at h
            cases h
            rfl
        · rw [if_neg h3] at h
          obtain ⟨v, -, h⟩ := mx_letE h
          exact ih h
set_option maxRecDepth 20000 in
theorem ZX12_who {a : Nat} {m : mB} {r : (Int32 × mB)} (h : FX12_who a m = some r) : mx_out (WSX12_who a) m r.2 := by
  unfold FX12_who at h
  have z0 : mx_out (WSX12_who a) m m := mx_out.rf
  obtain ⟨m1, e_m1, h⟩ := mx_letE h
  have z3 : mx_out (WSX12_who a) m m1 := by first | exact mx_out_up z0 e_m1 (Or.inl ⟨rfl, rfl⟩) | exact mx_out_ul z0 e_m1 (Or.inl ⟨rfl, rfl⟩) | exact mx_out_cp z0 e_m1 (fun j => (Or.inl ⟨rfl, rfl⟩)) | exact mx_out_cl z0 e_m1 (fun j => (Or.inl ⟨rfl, rfl⟩))
  obtain ⟨r2, h_r2, h⟩ := Option.bind_eq_some_iff.mp h
  have z4 : mx_out (WSX12_who a) m r2.2 := mx_out.tr z3 (mx_out.sub (ZX12_take h_r2) (fun b j hb => (Or.inr (Or.inl hb))))
  by_cases hc3z : (r2.1 - r2.1 / 2 * 2) = 0
  · rw [if_pos hc3z] at h
    obtain ⟨r4, h_r4, h⟩ := Option.bind_eq_some_iff.mp h
    by_cases hc5z : r4 = 0
    · rw [if_pos hc5z] at h
      obtain rfl := Option.some.inj h
      exact z4
    · rw [if_neg hc5z] at h
      obtain ⟨q16, h_q16, h⟩ := Option.bind_eq_some_iff.mp h
      rcases q16 with rr18 | u17
      · rw [Sum.elim_inl] at h
        obtain rfl := Option.some.inj h
        rw [ZX12_who_L32 mx_FU h_q16]
        exact z4
      · rw [Sum.elim_inr] at h
        obtain ⟨m19, e_m19, h⟩ := mx_letE h
        have z5 : mx_out (WSX12_who a) m m19 := by first | exact mx_out_up z4 e_m19 (Or.inr (Or.inr (Or.inr (Or.inr (Or.inr (Or.inr (Or.inr (Or.inl ⟨rfl, rfl⟩)))))))) | exact mx_out_ul z4 e_m19 (Or.inr (Or.inr (Or.inr (Or.inr (Or.inr (Or.inr (Or.inr (Or.inl ⟨rfl, rfl⟩)))))))) | exact mx_out_cp z4 e_m19 (fun j => (Or.inr (Or.inr (Or.inr (Or.inr (Or.inr (Or.inr (Or.inr (Or.inl ⟨rfl, rfl⟩))))))))) | exact mx_out_cl z4 e_m19 (fun j => (Or.inr (Or.inr (Or.inr (Or.inr (Or.inr (Or.inr (Or.inr (Or.inl ⟨rfl, rfl⟩)))))))))
        obtain ⟨r20, h_r20, h⟩ := Option.bind_eq_some_iff.mp h
        have z6 : mx_out (WSX12_who a) m r20 := mx_out.tr z5 (mx_out.sub (ZX12_surveyMost h_r20) (fun b j hb => (Or.elim hb (fun h0 => (Or.inr (Or.inr (Or.inl h0)))) (fun g0 => (Or.elim g0 (fun h1 => (Or.inr (Or.inr (Or.inr (Or.inl h1))))) (fun g1 => (Or.elim g1 (fun h2 => (Or.inr (Or.inr (Or.inr (Or.inr (Or.inl h2)))))) (fun g2 => (Or.elim g2 (fun h3 => (Or.inr (Or.inr (Or.inr (Or.inr (Or.inr (Or.inl h3))))))) (fun g3 => (Or.elim g3 (fun h4 => (Or.inr (Or.inr (Or.inr (Or.inr (Or.inr (Or.inr (Or.inl h4)))))))) (fun g4 => (Or.elim g4 (fun h5 => (Or.inr (Or.inr (Or.inr (Or.inr (Or.inr (Or.inr (Or.inr (Or.inr (Or.inr (Or.inl h5))))))))))) (fun g5 => (Or.elim g5 (fun h6 => (Or.inr (Or.inr (Or.inr (Or.inr (Or.inr (Or.inr (Or.inr (Or.inr (Or.inr (Or.inr (Or.inl h6)))))))))))) (fun g6 => (Or.elim g6 (fun h7 => (Or.inr (Or.inr (Or.inr (Or.inr (Or.inr (Or.inr (Or.inr (Or.inr (Or.inr (Or.inr (Or.inr (Or.inl h7))))))))))))) (fun g7 => (Or.elim g7 (fun h8 => (Or.inr (Or.inr (Or.inr (Or.inr (Or.inr (Or.inr (Or.inr (Or.inr (Or.inr (Or.inr (Or.inr (Or.inr (Or.inl h8)))))))))))))) (fun g8 => (Or.elim g8 (fun h9 => (Or.inr (Or.inr (Or.inr (Or.inr (Or.inr (Or.inr (Or.inr (Or.inr (Or.inr (Or.inr (Or.inr (Or.inr (Or.inr (Or.inl h9))))))))))))))) (fun g9 => (Or.inr (Or.inr (Or.inr (Or.inr (Or.inr (Or.inr (Or.inr (Or.inr (Or.inr (Or.inr (Or.inr (Or.inr (Or.inr (Or.inr g9))))))))))))))))))))))))))))))))))))
        by_cases hc21z : (r20.1 a 44) = 0
        · rw [if_pos hc21z] at h
          obtain rfl := Option.some.inj h
          exact z6
        · rw [if_neg hc21z] at h
          obtain ⟨q37, h_q37, h⟩ := Option.bind_eq_some_iff.mp h
          have z7 := mx_out.tr z6 (mx_out.sub (S := (WSX12_who a)) (ZX12_who_L109 mx_FU h_q37) (fun b j hb => (Or.inr (Or.inr (Or.inr (Or.inr (Or.inr (Or.inr (Or.inr (Or.inr (Or.inl hb)))))))))))
          obtain rfl := Option.some.inj h
          exact z7
  · rw [if_neg hc3z] at h
    obtain rfl := Option.some.inj h
    exact z4
set_option maxRecDepth 20000 in
theorem ZX12_ask {a : Nat} {m : mB} {r : (Int32 × mB)} (h : FX12_ask a m = some r) : mx_out (WSX12_ask a) m r.2 := by
  unfold FX12_ask at h
  have z0 : mx_out (WSX12_ask a) m m := mx_out.rf
  obtain ⟨m1, e_m1, h⟩ := mx_letE h
  have z1 : mx_out (WSX12_ask a) m m1 := by first | exact mx_out_up z0 e_m1 ⟨rfl, rfl⟩ | exact mx_out_ul z0 e_m1 ⟨rfl, rfl⟩ | exact mx_out_cp z0 e_m1 (fun j => ⟨rfl, rfl⟩) | exact mx_out_cl z0 e_m1 (fun j => ⟨rfl, rfl⟩)
  obtain rfl := Option.some.inj h
  exact z1
set_option maxRecDepth 20000 in
theorem ZX12_stroke_L44 {rec : Nat → Int32 → Int32 → Int32 → Int32 → Int32 → Int32 → Int32 → mB → Option mB} {q0 : Nat} {y1 : Int32} {y2 : Int32} {y3 : Int32} {y4 : Int32} {y5 : Int32} {y6 : Int32} {y7 : Int32} (zrec : ∀ {a : Nat} {x0 : Int32} {x1 : Int32} {x2 : Int32} {x3 : Int32} {x4 : Int32} {x5 : Int32} {x6 : Int32} {m : mB} {r : mB}, rec a x0 x1 x2 x3 x4 x5 x6 m = some r → mx_out (WSX12_stroke a) m r) : ∀ (f : Nat) {y8 : Int32} {m : mB} {q : (mB)}, FX12_stroke_L44 rec q0 y1 y2 y3 y4 y5 y6 y7 f y8 m = some q → mx_out (WSX12_stroke_L44 q0) m q := by
  intro f
  induction f with
  | zero => intro _ _ _ h; cases h
  | succ f ih =>
    intro y8 m q h
    rw [FX12_stroke_L44] at h
    have z0 : mx_out (WSX12_stroke_L44 q0) m m := mx_out.rf
    by_cases hc4z : (m.1 (q0 + 2) 0) ≤ y8
    · rw [if_pos hc4z] at h
      obtain rfl := Option.some.inj h
      exact z0
    · rw [if_neg hc4z] at h
      obtain ⟨r5, h_r5, h⟩ := Option.bind_eq_some_iff.mp h
      by_cases hc6z : r5 = 0
      · rw [if_pos hc6z] at h
        obtain ⟨v7, -, h⟩ := mx_letE h
        exact mx_out.tr z0 (ih h)
      · rw [if_neg hc6z] at h
        obtain ⟨r8, h_r8, h⟩ := Option.bind_eq_some_iff.mp h
        by_cases hc9z : r8 = y5
        · rw [if_pos hc9z] at h
          obtain ⟨v45, -, h⟩ := mx_letE h
          exact mx_out.tr z0 (ih h)
        · rw [if_neg hc9z] at h
          obtain ⟨r10, h_r10, h⟩ := Option.bind_eq_some_iff.mp h
          obtain ⟨-, h⟩ := mx_chkE h
          obtain ⟨v12, -, h⟩ := mx_letE h
          by_cases hc13z : y5 = 0
          · rw [if_pos hc13z] at h
            obtain ⟨v14, -, h⟩ := mx_letE h
            refine mx_letK (J := fun k17 => ∀ {m16 : mB}, k17 m16 = some q → mx_out (WSX12_stroke_L44 q0) m m16 → mx_out (WSX12_stroke_L44 q0) m q) h ?_ (fun k17 z_k17 h => ?_)
            · intro m16 h z1
              dsimp only at h
              obtain ⟨r18, h_r18, h⟩ := Option.bind_eq_some_iff.mp h
              by_cases hc19z : r18 = 0
              · rw [if_pos hc19z] at h
                by_cases hc21z : y5 = 0
                · rw [if_pos hc21z] at h
                  obtain ⟨r24, h_r24, h⟩ := Option.bind_eq_some_iff.mp h
                  have z2 : mx_out (WSX12_stroke_L44 q0) m r24 := mx_out.tr z1 (mx_out.sub (zrec h_r24) (fun b j hb => hb))
                  obtain ⟨v25, -, h⟩ := mx_letE h
                  exact mx_out.tr z2 (ih h)
                · rw [if_neg hc21z] at h
                  obtain ⟨r22, h_r22, h⟩ := Option.bind_eq_some_iff.mp h
                  have z3 : mx_out (WSX12_stroke_L44 q0) m r22 := mx_out.tr z1 (mx_out.sub (zrec h_r22) (fun b j hb => hb))
                  obtain ⟨v23, -, h⟩ := mx_letE h
                  exact mx_out.tr z3 (ih h)
              · rw [if_neg hc19z] at h
                obtain ⟨v20, -, h⟩ := mx_letE h
                exact mx_out.tr z1 (ih h)
            by_cases hc15z : y8 = y1
            · rw [if_pos hc15z] at h
              by_cases hc26z : y3 ≤ 2
              · rw [if_pos hc26z] at h
                exact z_k17 h z0
              · rw [if_neg hc26z] at h
                by_cases hc27z : y4 = y5
                · rw [if_pos hc27z] at h
                  by_cases hc28z : (y7 + v14) ≤ (m.1 q0 49)
                  · rw [if_pos hc28z] at h
                    exact z_k17 h z0
                  · rw [if_neg hc28z] at h
                    obtain ⟨m29, e_m29, h⟩ := mx_letE h
                    have z4 : mx_out (WSX12_stroke_L44 q0) m m29 := by first | exact mx_out_up z0 e_m29 ⟨rfl, rfl⟩ | exact mx_out_ul z0 e_m29 ⟨rfl, rfl⟩ | exact mx_out_cp z0 e_m29 (fun j => ⟨rfl, rfl⟩) | exact mx_out_cl z0 e_m29 (fun j => ⟨rfl, rfl⟩)
                    exact z_k17 h z4
                · rw [if_neg hc27z] at h
                  exact z_k17 h z0
            · rw [if_neg hc15z] at h
              exact z_k17 h z0
          · rw [if_neg hc13z] at h
            refine mx_letK (J := fun k32 => ∀ {m31 : mB}, k32 m31 = some q → mx_out (WSX12_stroke_L44 q0) m m31 → mx_out (WSX12_stroke_L44 q0) m q) h ?_ (fun k32 z_k32 h => ?_)
            · intro m31 h z5
              dsimp only at h
              obtain ⟨r33, h_r33, h⟩ := Option.bind_eq_some_iff.mp h
              by_cases hc34z : r33 = 0
              · rw [if_pos hc34z] at h
                by_cases hc36z : y5 = 0
                · rw [if_pos hc36z] at h
                  obtain ⟨r39, h_r39, h⟩ := Option.bind_eq_some_iff.mp h
                  have z6 : mx_out (WSX12_stroke_L44 q0) m r39 := mx_out.tr z5 (mx_out.sub (zrec h_r39) (fun b j hb => hb))
                  obtain ⟨v40, -, h⟩ := mx_letE h
                  exact mx_out.tr z6 (ih h)
                · rw [if_neg hc36z] at h
                  obtain ⟨r37, h_r37, h⟩ := Option.bind_eq_some_iff.mp h
                  have z7 : mx_out (WSX12_stroke_L44 q0) m r37 := mx_out.tr z5 (mx_out.sub (zrec h_r37) (fun b j hb => hb))
                  obtain ⟨v38, -, h⟩ := mx_letE h
                  exact mx_out.tr z7 (ih h)
              · rw [if_neg hc34z] at h
                obtain ⟨v35, -, h⟩ := mx_letE h
                exact mx_out.tr z5 (ih h)
            by_cases hc30z : y8 = y1
            · rw [if_pos hc30z] at h
              by_cases hc41z : y3 ≤ 2
              · rw [if_pos hc41z] at h
                exact z_k32 h z0
              · rw [if_neg hc41z] at h
                by_cases hc42z : y4 = y5
                · rw [if_pos hc42z] at h
                  by_cases hc43z : (y7 + v12) ≤ (m.1 q0 49)
                  · rw [if_pos hc43z] at h
                    exact z_k32 h z0
                  · rw [if_neg hc43z] at h
                    obtain ⟨m44, e_m44, h⟩ := mx_letE h
                    have z8 : mx_out (WSX12_stroke_L44 q0) m m44 := by first | exact mx_out_up z0 e_m44 ⟨rfl, rfl⟩ | exact mx_out_ul z0 e_m44 ⟨rfl, rfl⟩ | exact mx_out_cp z0 e_m44 (fun j => ⟨rfl, rfl⟩) | exact mx_out_cl z0 e_m44 (fun j => ⟨rfl, rfl⟩)
                    exact z_k32 h z8
                · rw [if_neg hc42z] at h
                  exact z_k32 h z0
            · rw [if_neg hc30z] at h
              exact z_k32 h z0
set_option maxRecDepth 20000 in
theorem ZX12_stroke_B {rec : Nat → Int32 → Int32 → Int32 → Int32 → Int32 → Int32 → Int32 → mB → Option mB} {a : Nat} {x0 : Int32} {x1 : Int32} {x2 : Int32} {x3 : Int32} {x4 : Int32} {x5 : Int32} {x6 : Int32} {m : mB} {r : mB} (zrec : ∀ {a : Nat} {x0 : Int32} {x1 : Int32} {x2 : Int32} {x3 : Int32} {x4 : Int32} {x5 : Int32} {x6 : Int32} {m : mB} {r : mB}, rec a x0 x1 x2 x3 x4 x5 x6 m = some r → mx_out (WSX12_stroke a) m r) (h : FX12_stroke_B rec a x0 x1 x2 x3 x4 x5 x6 m = some r) : mx_out (WSX12_stroke a) m r := by
  unfold FX12_stroke_B at h
  have z0 : mx_out (WSX12_stroke a) m m := mx_out.rf
  refine mx_letK (J := fun k3 => ∀ {m2 : mB}, k3 m2 = some r → mx_out (WSX12_stroke a) m m2 → mx_out (WSX12_stroke a) m r) h ?_ (fun k3 z_k3 h => ?_)
  · intro m2 h z9
    dsimp only at h
    obtain ⟨q46, h_q46, h⟩ := Option.bind_eq_some_iff.mp h
    have z10 := mx_out.tr z9 (mx_out.sub (S := (WSX12_stroke a)) (ZX12_stroke_L44 zrec mx_FU h_q46) (fun b j hb => hb))
    obtain rfl := Option.some.inj h
    exact z10
  refine mx_letK (J := fun k47 => k47 = some r → mx_out (WSX12_stroke a) m r) h ?_ (fun k47 z_k47 h => ?_)
  · intro h
    refine mx_letK (J := fun k49 => k49 = some r → mx_out (WSX12_stroke a) m r) h ?_ (fun k49 z_k49 h => ?_)
    · intro h
      by_cases hc50z : x6 ≤ (m.1 a 49)
      · rw [if_pos hc50z] at h
        exact z_k3 h z0
      · rw [if_neg hc50z] at h
        obtain ⟨m51, e_m51, h⟩ := mx_letE h
        have z13 : mx_out (WSX12_stroke a) m m51 := by first | exact mx_out_up z0 e_m51 ⟨rfl, rfl⟩ | exact mx_out_ul z0 e_m51 ⟨rfl, rfl⟩ | exact mx_out_cp z0 e_m51 (fun j => ⟨rfl, rfl⟩) | exact mx_out_cl z0 e_m51 (fun j => ⟨rfl, rfl⟩)
        exact z_k3 h z13
    by_cases hc48z : x4 = 0
    · rw [if_pos hc48z] at h
      obtain ⟨r52, h_r52, h⟩ := Option.bind_eq_some_iff.mp h
      by_cases hc53z : r52 = 0
      · rw [if_pos hc53z] at h
        exact z_k3 h z0
      · rw [if_neg hc53z] at h
        exact z_k49 h
    · rw [if_neg hc48z] at h
      exact z_k49 h
  by_cases hc1z : x3 = 0
  · rw [if_pos hc1z] at h
    obtain ⟨r54, h_r54, h⟩ := Option.bind_eq_some_iff.mp h
    by_cases hc55z : r54 = 0
    · rw [if_pos hc55z] at h
      exact z_k3 h z0
    · rw [if_neg hc55z] at h
      exact z_k47 h
  · rw [if_neg hc1z] at h
    exact z_k47 h
theorem ZX12_stroke : ∀ (D : Nat) {a : Nat} {x0 : Int32} {x1 : Int32} {x2 : Int32} {x3 : Int32} {x4 : Int32} {x5 : Int32} {x6 : Int32} {m : mB} {r : mB}, FX12_stroke D a x0 x1 x2 x3 x4 x5 x6 m = some r → mx_out (WSX12_stroke a) m r := by
  intro D
  induction D with
  | zero => intro _ _ _ _ _ _ _ _ _ _ h; cases h
  | succ D ih =>
    intro a x0 x1 x2 x3 x4 x5 x6 m r h
    rw [FX12_stroke] at h
    exact ZX12_stroke_B (rec := FX12_stroke D) (fun {_ _ _ _ _ _ _ _} {_} {_} hz => ih hz) h
set_option maxRecDepth 20000 in
theorem ZX12_gain_L24 {q0 : Nat} {y1 : Int32} : ∀ (f : Nat) {y2 : Int32} {m : mB} {q : (mB)}, FX12_gain_L24 q0 y1 f y2 m = some q → mx_out (WSX12_gain_L24 q0) m q := by
  intro f
  induction f with
  | zero => intro _ _ _ h; cases h
  | succ f ih =>
    intro y2 m q h
    rw [FX12_gain_L24] at h
    have z0 : mx_out (WSX12_gain_L24 q0) m m := mx_out.rf
    by_cases hc4z : (m.1 (q0 + 2) 0) ≤ y2
    · rw [if_pos hc4z] at h
      obtain rfl := Option.some.inj h
      exact z0
    · rw [if_neg hc4z] at h
      obtain ⟨r5, h_r5, h⟩ := Option.bind_eq_some_iff.mp h
      by_cases hc6z : r5 = 0
      · rw [if_pos hc6z] at h
        obtain ⟨v16, -, h⟩ := mx_letE h
        exact mx_out.tr z0 (ih h)
      · rw [if_neg hc6z] at h
        obtain ⟨r7, h_r7, h⟩ := Option.bind_eq_some_iff.mp h
        obtain ⟨r8, h_r8, h⟩ := Option.bind_eq_some_iff.mp h
        obtain ⟨-, h⟩ := mx_chkE h
        obtain ⟨v10, -, h⟩ := mx_letE h
        by_cases hc11z : r7 = 0
        · rw [if_pos hc11z] at h
          obtain ⟨r12, h_r12, h⟩ := Option.bind_eq_some_iff.mp h
          have z2 : mx_out (WSX12_gain_L24 q0) m r12 := mx_out.tr z0 (mx_out.sub (ZX12_stroke 64 h_r12) (fun b j hb => hb))
          obtain ⟨v13, -, h⟩ := mx_letE h
          exact mx_out.tr z2 (ih h)
        · rw [if_neg hc11z] at h
          obtain ⟨r14, h_r14, h⟩ := Option.bind_eq_some_iff.mp h
          have z3 : mx_out (WSX12_gain_L24 q0) m r14 := mx_out.tr z0 (mx_out.sub (ZX12_stroke 64 h_r14) (fun b j hb => hb))
          obtain ⟨v15, -, h⟩ := mx_letE h
          exact mx_out.tr z3 (ih h)
set_option maxRecDepth 20000 in
theorem ZX12_gain_L12 {q0 : Nat} : ∀ (f : Nat) {y1 : Int32} {m : mB} {q : (mB)}, FX12_gain_L12 q0 f y1 m = some q → mx_out (WSX12_gain_L12 q0) m q := by
  intro f
  induction f with
  | zero => intro _ _ _ h; cases h
  | succ f ih =>
    intro y1 m q h
    rw [FX12_gain_L12] at h
    have z0 : mx_out (WSX12_gain_L12 q0) m m := mx_out.rf
    by_cases hc3z : (m.1 (q0 + 2) 0) ≤ y1
    · rw [if_pos hc3z] at h
      obtain rfl := Option.some.inj h
      exact z0
    · rw [if_neg hc3z] at h
      obtain ⟨q17, h_q17, h⟩ := Option.bind_eq_some_iff.mp h
      have z1 := mx_out.tr z0 (mx_out.sub (S := (WSX12_gain_L12 q0)) (ZX12_gain_L24 mx_FU h_q17) (fun b j hb => hb))
      obtain ⟨v18, -, h⟩ := mx_letE h
      exact mx_out.tr z1 (ih h)
set_option maxRecDepth 20000 in
theorem ZX12_gain {a : Nat} {m : mB} {r : (Int32 × mB)} (h : FX12_gain a m = some r) : mx_out (WSX12_gain a) m r.2 := by
  unfold FX12_gain at h
  have z0 : mx_out (WSX12_gain a) m m := mx_out.rf
  obtain ⟨m1, e_m1, h⟩ := mx_letE h
  have z4 : mx_out (WSX12_gain a) m m1 := by first | exact mx_out_up z0 e_m1 (Or.inl ⟨rfl, rfl⟩) | exact mx_out_ul z0 e_m1 (Or.inl ⟨rfl, rfl⟩) | exact mx_out_cp z0 e_m1 (fun j => (Or.inl ⟨rfl, rfl⟩)) | exact mx_out_cl z0 e_m1 (fun j => (Or.inl ⟨rfl, rfl⟩))
  obtain ⟨m2, e_m2, h⟩ := mx_letE h
  have z5 : mx_out (WSX12_gain a) m m2 := by first | exact mx_out_up z4 e_m2 (Or.inr ⟨rfl, rfl⟩) | exact mx_out_ul z4 e_m2 (Or.inr ⟨rfl, rfl⟩) | exact mx_out_cp z4 e_m2 (fun j => (Or.inr ⟨rfl, rfl⟩)) | exact mx_out_cl z4 e_m2 (fun j => (Or.inr ⟨rfl, rfl⟩))
  obtain ⟨q19, h_q19, h⟩ := Option.bind_eq_some_iff.mp h
  have z6 := mx_out.tr z5 (mx_out.sub (S := (WSX12_gain a)) (ZX12_gain_L12 mx_FU h_q19) (fun b j hb => (Or.inr hb)))
  obtain rfl := Option.some.inj h
  exact z6
set_option maxRecDepth 20000 in
theorem ZX12_mean {a : Nat} {x0 : Int32} {m : mB} {r : (Int32 × mB)} (h : FX12_mean a x0 m = some r) : mx_out (WSX12_mean a) m r.2 := by
  unfold FX12_mean at h
  have z0 : mx_out (WSX12_mean a) m m := mx_out.rf
  obtain ⟨m1, e_m1, h⟩ := mx_letE h
  have z1 : mx_out (WSX12_mean a) m m1 := by first | exact mx_out_up z0 e_m1 ⟨rfl, rfl⟩ | exact mx_out_ul z0 e_m1 ⟨rfl, rfl⟩ | exact mx_out_cp z0 e_m1 (fun j => ⟨rfl, rfl⟩) | exact mx_out_cl z0 e_m1 (fun j => ⟨rfl, rfl⟩)
  obtain ⟨r2, h_r2, h⟩ := Option.bind_eq_some_iff.mp h
  by_cases hc3z : r2 ≤ 0
  · rw [if_pos hc3z] at h
    obtain ⟨r4, h_r4, h⟩ := Option.bind_eq_some_iff.mp h
    have z2 : mx_out (WSX12_mean a) m r4.2 := mx_out.tr z1 (mx_out.sub (ZX12_refuse h_r4) (fun b j hb => hb))
    obtain rfl := Option.some.inj h
    exact z2
  · rw [if_neg hc3z] at h
    obtain ⟨r5, h_r5, h⟩ := Option.bind_eq_some_iff.mp h
    by_cases hc6z : r5 = 0
    · rw [if_pos hc6z] at h
      obtain ⟨r7, h_r7, h⟩ := Option.bind_eq_some_iff.mp h
      have z3 : mx_out (WSX12_mean a) m r7.2 := mx_out.tr z1 (mx_out.sub (ZX12_refuse h_r7) (fun b j hb => hb))
      obtain rfl := Option.some.inj h
      exact z3
    · rw [if_neg hc6z] at h
      obtain ⟨r8, h_r8, h⟩ := Option.bind_eq_some_iff.mp h
      obtain ⟨r9, h_r9, h⟩ := Option.bind_eq_some_iff.mp h
      obtain ⟨r10, h_r10, h⟩ := Option.bind_eq_some_iff.mp h
      obtain rfl := Option.some.inj h
      exact z1
set_option maxRecDepth 20000 in
theorem ZX12_write {a : Nat} {x0 : Int32} {m : mB} {r : mB} (h : FX12_write a x0 m = some r) : mx_out (WSX12_write a) m r := by
  unfold FX12_write at h
  have z0 : mx_out (WSX12_write a) m m := mx_out.rf
  obtain ⟨-, h⟩ := mx_chkE h
  obtain ⟨m1, e_m1, h⟩ := mx_letE h
  have z1 : mx_out (WSX12_write a) m m1 := by first | exact mx_out_up z0 e_m1 (Or.inr rfl) | exact mx_out_ul z0 e_m1 (Or.inr rfl) | exact mx_out_cp z0 e_m1 (fun j => (Or.inr rfl)) | exact mx_out_cl z0 e_m1 (fun j => (Or.inr rfl))
  obtain ⟨m3, e_m3, h⟩ := mx_letE h
  have z2 : mx_out (WSX12_write a) m m3 := by first | exact mx_out_up z1 e_m3 (Or.inl ⟨rfl, rfl⟩) | exact mx_out_ul z1 e_m3 (Or.inl ⟨rfl, rfl⟩) | exact mx_out_cp z1 e_m3 (fun j => (Or.inl ⟨rfl, rfl⟩)) | exact mx_out_cl z1 e_m3 (fun j => (Or.inl ⟨rfl, rfl⟩))
  obtain rfl := Option.some.inj h
  exact z2
set_option maxRecDepth 20000 in
theorem ZX12_writeWord_B {rec : Nat → Int64 → mB → Option mB} {a : Nat} {x0 : Int64} {m : mB} {r : mB} (zrec : ∀ {a : Nat} {x0 : Int64} {m : mB} {r : mB}, rec a x0 m = some r → mx_out (WSX12_writeWord a) m r) (h : FX12_writeWord_B rec a x0 m = some r) : mx_out (WSX12_writeWord a) m r := by
  unfold FX12_writeWord_B at h
  have z0 : mx_out (WSX12_writeWord a) m m := mx_out.rf
  refine mx_letK (J := fun k3 => ∀ {m2 : mB}, k3 m2 = some r → mx_out (WSX12_writeWord a) m m2 → mx_out (WSX12_writeWord a) m r) h ?_ (fun k3 z_k3 h => ?_)
  · intro m2 h z1
    dsimp only at h
    obtain ⟨r4, h_r4, h⟩ := Option.bind_eq_some_iff.mp h
    have z2 : mx_out (WSX12_writeWord a) m r4 := mx_out.tr z1 (mx_out.sub (ZX12_write h_r4) (fun b j hb => (Or.elim hb (fun h0 => (Or.inl h0)) (fun g0 => (Or.inr g0)))))
    obtain rfl := Option.some.inj h
    exact z2
  by_cases hc1z : (lg_cmp x0 27) < 0
  · rw [if_pos hc1z] at h
    exact z_k3 h z0
  · rw [if_neg hc1z] at h
    obtain ⟨r5, h_r5, h⟩ := Option.bind_eq_some_iff.mp h
    have z3 : mx_out (WSX12_writeWord a) m r5 := mx_out.tr z0 (mx_out.sub (zrec h_r5) (fun b j hb => (Or.elim hb (fun h0 => (Or.inl h0)) (fun g0 => (Or.inr g0)))))
    exact z_k3 h z3
theorem ZX12_writeWord : ∀ (D : Nat) {a : Nat} {x0 : Int64} {m : mB} {r : mB}, FX12_writeWord D a x0 m = some r → mx_out (WSX12_writeWord a) m r := by
  intro D
  induction D with
  | zero => intro _ _ _ _ h; cases h
  | succ D ih =>
    intro a x0 m r h
    rw [FX12_writeWord] at h
    exact ZX12_writeWord_B (rec := FX12_writeWord D) (fun {_ _} {_} {_} hz => ih hz) h
set_option maxRecDepth 20000 in
theorem ZX12_writeNext {a : Nat} {x0 : Int64} {m : mB} {r : mB} (h : FX12_writeNext a x0 m = some r) : mx_out (WSX12_writeNext a) m r := by
  unfold FX12_writeNext at h
  have z0 : mx_out (WSX12_writeNext a) m m := mx_out.rf
  obtain ⟨r1, h_r1, h⟩ := Option.bind_eq_some_iff.mp h
  have z1 : mx_out (WSX12_writeNext a) m r1 := mx_out.tr z0 (mx_out.sub (ZX12_write h_r1) (fun b j hb => (Or.elim hb (fun h0 => (Or.inl h0)) (fun g0 => (Or.inr g0)))))
  obtain ⟨r2, h_r2, h⟩ := Option.bind_eq_some_iff.mp h
  have z2 : mx_out (WSX12_writeNext a) m r2 := mx_out.tr z1 (mx_out.sub (ZX12_writeWord 64 h_r2) (fun b j hb => (Or.elim hb (fun h0 => (Or.inl h0)) (fun g0 => (Or.inr g0)))))
  obtain rfl := Option.some.inj h
  exact z2
set_option maxRecDepth 20000 in
theorem ZX12_writeNumber_B {rec : Nat → Int32 → mB → Option mB} {a : Nat} {x0 : Int32} {m : mB} {r : mB} (zrec : ∀ {a : Nat} {x0 : Int32} {m : mB} {r : mB}, rec a x0 m = some r → mx_out (WSX12_writeNumber a) m r) (h : FX12_writeNumber_B rec a x0 m = some r) : mx_out (WSX12_writeNumber a) m r := by
  unfold FX12_writeNumber_B at h
  have z0 : mx_out (WSX12_writeNumber a) m m := mx_out.rf
  refine mx_letK (J := fun k3 => ∀ {m2 : mB}, k3 m2 = some r → mx_out (WSX12_writeNumber a) m m2 → mx_out (WSX12_writeNumber a) m r) h ?_ (fun k3 z_k3 h => ?_)
  · intro m2 h z1
    dsimp only at h
    obtain ⟨r4, h_r4, h⟩ := Option.bind_eq_some_iff.mp h
    have z2 : mx_out (WSX12_writeNumber a) m r4 := mx_out.tr z1 (mx_out.sub (ZX12_write h_r4) (fun b j hb => (Or.elim hb (fun h0 => (Or.inl h0)) (fun g0 => (Or.inr g0)))))
    obtain rfl := Option.some.inj h
    exact z2
  by_cases hc1z : x0 ≤ 9
  · rw [if_pos hc1z] at h
    exact z_k3 h z0
  · rw [if_neg hc1z] at h
    obtain ⟨r5, h_r5, h⟩ := Option.bind_eq_some_iff.mp h
    have z3 : mx_out (WSX12_writeNumber a) m r5 := mx_out.tr z0 (mx_out.sub (zrec h_r5) (fun b j hb => (Or.elim hb (fun h0 => (Or.inl h0)) (fun g0 => (Or.inr g0)))))
    exact z_k3 h z3
theorem ZX12_writeNumber : ∀ (D : Nat) {a : Nat} {x0 : Int32} {m : mB} {r : mB}, FX12_writeNumber D a x0 m = some r → mx_out (WSX12_writeNumber a) m r := by
  intro D
  induction D with
  | zero => intro _ _ _ _ h; cases h
  | succ D ih =>
    intro a x0 m r h
    rw [FX12_writeNumber] at h
    exact ZX12_writeNumber_B (rec := FX12_writeNumber D) (fun {_ _} {_} {_} hz => ih hz) h
set_option maxRecDepth 20000 in
theorem ZX12_tag {a : Nat} {x0 : Int32} {m : mB} {r : (Int32 × mB)} (h : FX12_tag a x0 m = some r) : mx_out (WSX12_tag a) m r.2 := by
  unfold FX12_tag at h
  have z0 : mx_out (WSX12_tag a) m m := mx_out.rf
  obtain ⟨m1, e_m1, h⟩ := mx_letE h
  have z1 : mx_out (WSX12_tag a) m m1 := by first | exact mx_out_up z0 e_m1 (Or.inl ⟨rfl, rfl⟩) | exact mx_out_ul z0 e_m1 (Or.inl ⟨rfl, rfl⟩) | exact mx_out_cp z0 e_m1 (fun j => (Or.inl ⟨rfl, rfl⟩)) | exact mx_out_cl z0 e_m1 (fun j => (Or.inl ⟨rfl, rfl⟩))
  obtain ⟨r2, h_r2, h⟩ := Option.bind_eq_some_iff.mp h
  by_cases hc3z : r2 = 0
  · rw [if_pos hc3z] at h
    obtain rfl := Option.some.inj h
    exact z1
  · rw [if_neg hc3z] at h
    obtain ⟨m4, e_m4, h⟩ := mx_letE h
    have z2 : mx_out (WSX12_tag a) m m4 := by first | exact mx_out_up z1 e_m4 (Or.inr (Or.inl ⟨rfl, rfl⟩)) | exact mx_out_ul z1 e_m4 (Or.inr (Or.inl ⟨rfl, rfl⟩)) | exact mx_out_cp z1 e_m4 (fun j => (Or.inr (Or.inl ⟨rfl, rfl⟩))) | exact mx_out_cl z1 e_m4 (fun j => (Or.inr (Or.inl ⟨rfl, rfl⟩)))
    obtain ⟨-, h⟩ := mx_chkE h
    obtain ⟨r6, h_r6, h⟩ := Option.bind_eq_some_iff.mp h
    have z3 : mx_out (WSX12_tag a) m r6 := mx_out.tr z2 (mx_out.sub (ZX12_writeWord 64 h_r6) (fun b j hb => (Or.elim hb (fun h0 => (Or.inr (Or.inl h0))) (fun g0 => (Or.inr (Or.inr g0))))))
    obtain ⟨r7, h_r7, h⟩ := Option.bind_eq_some_iff.mp h
    refine mx_letK (J := fun k10 => ∀ {m9 : mB}, k10 m9 = some r → mx_out (WSX12_tag a) m m9 → mx_out (WSX12_tag a) m r.2) h ?_ (fun k10 z_k10 h => ?_)
    · intro m9 h z4
      dsimp only at h
      obtain ⟨r11, h_r11, h⟩ := Option.bind_eq_some_iff.mp h
      obtain ⟨r12, h_r12, h⟩ := Option.bind_eq_some_iff.mp h
      have z5 : mx_out (WSX12_tag a) m r12 := mx_out.tr z4 (mx_out.sub (ZX12_writeNext h_r12) (fun b j hb => (Or.elim hb (fun h0 => (Or.inr (Or.inl h0))) (fun g0 => (Or.inr (Or.inr g0))))))
      obtain ⟨r13, h_r13, h⟩ := Option.bind_eq_some_iff.mp h
      have z6 : mx_out (WSX12_tag a) m r13 := mx_out.tr z5 (mx_out.sub (ZX12_write h_r13) (fun b j hb => (Or.elim hb (fun h0 => (Or.inr (Or.inl h0))) (fun g0 => (Or.inr (Or.inr g0))))))
      obtain ⟨-, h⟩ := mx_chkE h
      obtain ⟨r15, h_r15, h⟩ := Option.bind_eq_some_iff.mp h
      have z7 : mx_out (WSX12_tag a) m r15 := mx_out.tr z6 (mx_out.sub (ZX12_writeNumber 64 h_r15) (fun b j hb => (Or.elim hb (fun h0 => (Or.inr (Or.inl h0))) (fun g0 => (Or.inr (Or.inr g0))))))
      obtain rfl := Option.some.inj h
      exact z7
    by_cases hc8z : r7 = 0
    · rw [if_pos hc8z] at h
      obtain ⟨r16, h_r16, h⟩ := Option.bind_eq_some_iff.mp h
      obtain ⟨r17, h_r17, h⟩ := Option.bind_eq_some_iff.mp h
      have z8 : mx_out (WSX12_tag a) m r17 := mx_out.tr z3 (mx_out.sub (ZX12_writeNext h_r17) (fun b j hb => (Or.elim hb (fun h0 => (Or.inr (Or.inl h0))) (fun g0 => (Or.inr (Or.inr g0))))))
      obtain ⟨-, h⟩ := mx_chkE h
      obtain ⟨-, h⟩ := mx_chkE h
      obtain ⟨r20, h_r20, h⟩ := Option.bind_eq_some_iff.mp h
      have z9 : mx_out (WSX12_tag a) m r20 := mx_out.tr z8 (mx_out.sub (ZX12_writeNext h_r20) (fun b j hb => (Or.elim hb (fun h0 => (Or.inr (Or.inl h0))) (fun g0 => (Or.inr (Or.inr g0))))))
      exact z_k10 h z9
    · rw [if_neg hc8z] at h
      obtain ⟨r21, h_r21, h⟩ := Option.bind_eq_some_iff.mp h
      obtain ⟨r22, h_r22, h⟩ := Option.bind_eq_some_iff.mp h
      have z10 : mx_out (WSX12_tag a) m r22 := mx_out.tr z3 (mx_out.sub (ZX12_writeNext h_r22) (fun b j hb => (Or.elim hb (fun h0 => (Or.inr (Or.inl h0))) (fun g0 => (Or.inr (Or.inr g0))))))
      exact z_k10 h z10
set_option maxRecDepth 20000 in
theorem ZX12_byteAt {a : Nat} {x0 : Int32} {m : mB} {r : (Int32 × mB)} (h : FX12_byteAt a x0 m = some r) : mx_out (WSX12_byteAt a) m r.2 := by
  unfold FX12_byteAt at h
  have z0 : mx_out (WSX12_byteAt a) m m := mx_out.rf
  obtain ⟨m1, e_m1, h⟩ := mx_letE h
  have z1 : mx_out (WSX12_byteAt a) m m1 := by first | exact mx_out_up z0 e_m1 ⟨rfl, rfl⟩ | exact mx_out_ul z0 e_m1 ⟨rfl, rfl⟩ | exact mx_out_cp z0 e_m1 (fun j => ⟨rfl, rfl⟩) | exact mx_out_cl z0 e_m1 (fun j => ⟨rfl, rfl⟩)
  obtain ⟨r2, h_r2, h⟩ := Option.bind_eq_some_iff.mp h
  by_cases hc3z : r2 = 0
  · rw [if_pos hc3z] at h
    obtain rfl := Option.some.inj h
    exact z1
  · rw [if_neg hc3z] at h
    obtain ⟨-, h⟩ := mx_chkE h
    obtain rfl := Option.some.inj h
    exact z1
set_option maxRecDepth 20000 in
theorem ZX12_draw {a : Nat} {x0 : Int32} {m : mB} {r : (Int32 × mB)} (h : FX12_draw a x0 m = some r) : mx_out (WSX12_draw a) m r.2 := by
  unfold FX12_draw at h
  have z0 : mx_out (WSX12_draw a) m m := mx_out.rf
  obtain ⟨m1, e_m1, h⟩ := mx_letE h
  have z1 : mx_out (WSX12_draw a) m m1 := by first | exact mx_out_up z0 e_m1 ⟨rfl, rfl⟩ | exact mx_out_ul z0 e_m1 ⟨rfl, rfl⟩ | exact mx_out_cp z0 e_m1 (fun j => ⟨rfl, rfl⟩) | exact mx_out_cl z0 e_m1 (fun j => ⟨rfl, rfl⟩)
  obtain ⟨-, h⟩ := mx_chkE h
  obtain rfl := Option.some.inj h
  exact z1
set_option maxRecDepth 20000 in
theorem ZX12_drawPoint {a : Nat} {m : mB} {r : (Int32 × mB)} (h : FX12_drawPoint a m = some r) : mx_out (WSX12_drawPoint a) m r.2 := by
  unfold FX12_drawPoint at h
  have z0 : mx_out (WSX12_drawPoint a) m m := mx_out.rf
  obtain ⟨r1, h_r1, h⟩ := Option.bind_eq_some_iff.mp h
  have z1 : mx_out (WSX12_drawPoint a) m r1.2 := mx_out.tr z0 (mx_out.sub (ZX12_draw h_r1) (fun b j hb => hb))
  obtain rfl := Option.some.inj h
  exact z1
set_option maxRecDepth 20000 in
theorem ZX12_doIf {a : Nat} {x0 : Int32} {x1 : Int32} {x2 : Int32} {x3 : Int32} {m : mB} {r : (Int32 × mB)} (h : FX12_doIf a x0 x1 x2 x3 m = some r) : mx_out (WSX12_doIf a) m r.2 := by
  unfold FX12_doIf at h
  have z0 : mx_out (WSX12_doIf a) m m := mx_out.rf
  obtain ⟨r1, h_r1, h⟩ := Option.bind_eq_some_iff.mp h
  have z1 : mx_out (WSX12_doIf a) m r1.2 := mx_out.tr z0 (mx_out.sub (ZX12_refusal h_r1) (fun b j hb => (Or.inl hb)))
  by_cases hc2z : r1.1 = 0
  · rw [if_pos hc2z] at h
    obtain ⟨r3, h_r3, h⟩ := Option.bind_eq_some_iff.mp h
    have z2 : mx_out (WSX12_doIf a) m r3 := mx_out.tr z1 (mx_out.sub (ZX12_live h_r3) (fun b j hb => (Or.elim hb (fun h0 => (Or.inl h0)) (fun g0 => (Or.inr g0)))))
    obtain rfl := Option.some.inj h
    exact z2
  · rw [if_neg hc2z] at h
    obtain rfl := Option.some.inj h
    exact z1
set_option maxRecDepth 20000 in
theorem ZX12_drawsDeed {a : Nat} {m : mB} {r : (Int32 × mB)} (h : FX12_drawsDeed a m = some r) : mx_out (WSX12_drawsDeed a) m r.2 := by
  unfold FX12_drawsDeed at h
  have z0 : mx_out (WSX12_drawsDeed a) m m := mx_out.rf
  obtain ⟨r1, h_r1, h⟩ := Option.bind_eq_some_iff.mp h
  have z1 : mx_out (WSX12_drawsDeed a) m r1.2 := mx_out.tr z0 (mx_out.sub (ZX12_draw h_r1) (fun b j hb => (Or.inl hb)))
  by_cases hc2z : r1.1 = 0
  · rw [if_pos hc2z] at h
    obtain ⟨r29, h_r29, h⟩ := Option.bind_eq_some_iff.mp h
    have z2 : mx_out (WSX12_drawsDeed a) m r29.2 := mx_out.tr z1 (mx_out.sub (ZX12_drawPoint h_r29) (fun b j hb => (Or.inl hb)))
    obtain ⟨r30, h_r30, h⟩ := Option.bind_eq_some_iff.mp h
    have z3 : mx_out (WSX12_drawsDeed a) m r30.2 := mx_out.tr z2 (mx_out.sub (ZX12_drawPoint h_r30) (fun b j hb => (Or.inl hb)))
    by_cases hc31z : r29.1 = r30.1
    · rw [if_pos hc31z] at h
      obtain rfl := Option.some.inj h
      exact z3
    · rw [if_neg hc31z] at h
      obtain ⟨r32, h_r32, h⟩ := Option.bind_eq_some_iff.mp h
      have z4 : mx_out (WSX12_drawsDeed a) m r32.2 := mx_out.tr z3 (mx_out.sub (ZX12_doIf h_r32) (fun b j hb => (Or.elim hb (fun h0 => (Or.inr (Or.inl h0))) (fun g0 => (Or.inr (Or.inr g0))))))
      by_cases hc33z : r32.1 = 0
      · rw [if_pos hc33z] at h
        obtain rfl := Option.some.inj h
        exact z4
      · rw [if_neg hc33z] at h
        obtain rfl := Option.some.inj h
        exact z4
  · rw [if_neg hc2z] at h
    by_cases hc3z : r1.1 = 1
    · rw [if_pos hc3z] at h
      obtain ⟨r26, h_r26, h⟩ := Option.bind_eq_some_iff.mp h
      have z5 : mx_out (WSX12_drawsDeed a) m r26.2 := mx_out.tr z1 (mx_out.sub (ZX12_drawPoint h_r26) (fun b j hb => (Or.inl hb)))
      obtain ⟨r27, h_r27, h⟩ := Option.bind_eq_some_iff.mp h
      have z6 : mx_out (WSX12_drawsDeed a) m r27.2 := mx_out.tr z5 (mx_out.sub (ZX12_doIf h_r27) (fun b j hb => (Or.elim hb (fun h0 => (Or.inr (Or.inl h0))) (fun g0 => (Or.inr (Or.inr g0))))))
      obtain ⟨-, h⟩ := mx_chkE h
      obtain rfl := Option.some.inj h
      exact z6
    · rw [if_neg hc3z] at h
      by_cases hc4z : r1.1 = 2
      · rw [if_pos hc4z] at h
        by_cases hc19z : (r1.2.1 (a + 2) 1) = 0
        · rw [if_pos hc19z] at h
          obtain rfl := Option.some.inj h
          exact z1
        · rw [if_neg hc19z] at h
          obtain ⟨r20, h_r20, h⟩ := Option.bind_eq_some_iff.mp h
          have z7 : mx_out (WSX12_drawsDeed a) m r20.2 := mx_out.tr z1 (mx_out.sub (ZX12_draw h_r20) (fun b j hb => (Or.inl hb)))
          obtain ⟨-, h⟩ := mx_chkE h
          obtain ⟨-, h⟩ := mx_chkE h
          obtain ⟨r23, h_r23, h⟩ := Option.bind_eq_some_iff.mp h
          have z8 : mx_out (WSX12_drawsDeed a) m r23.2 := mx_out.tr z7 (mx_out.sub (ZX12_draw h_r23) (fun b j hb => (Or.inl hb)))
          obtain ⟨r24, h_r24, h⟩ := Option.bind_eq_some_iff.mp h
          have z9 : mx_out (WSX12_drawsDeed a) m r24.2 := mx_out.tr z8 (mx_out.sub (ZX12_doIf h_r24) (fun b j hb => (Or.elim hb (fun h0 => (Or.inr (Or.inl h0))) (fun g0 => (Or.inr (Or.inr g0))))))
          obtain ⟨-, h⟩ := mx_chkE h
          obtain rfl := Option.some.inj h
          exact z9
      · rw [if_neg hc4z] at h
        by_cases hc5z : r1.1 = 3
        · rw [if_pos hc5z] at h
          obtain ⟨r15, h_r15, h⟩ := Option.bind_eq_some_iff.mp h
          have z10 : mx_out (WSX12_drawsDeed a) m r15.2 := mx_out.tr z1 (mx_out.sub (ZX12_drawPoint h_r15) (fun b j hb => (Or.inl hb)))
          obtain ⟨r16, h_r16, h⟩ := Option.bind_eq_some_iff.mp h
          have z11 : mx_out (WSX12_drawsDeed a) m r16.2 := mx_out.tr z10 (mx_out.sub (ZX12_draw h_r16) (fun b j hb => (Or.inl hb)))
          obtain ⟨r17, h_r17, h⟩ := Option.bind_eq_some_iff.mp h
          have z12 : mx_out (WSX12_drawsDeed a) m r17.2 := mx_out.tr z11 (mx_out.sub (ZX12_doIf h_r17) (fun b j hb => (Or.elim hb (fun h0 => (Or.inr (Or.inl h0))) (fun g0 => (Or.inr (Or.inr g0))))))
          obtain ⟨-, h⟩ := mx_chkE h
          obtain rfl := Option.some.inj h
          exact z12
        · rw [if_neg hc5z] at h
          by_cases hc6z : 6 ≤ r1.1
          · rw [if_pos hc6z] at h
            by_cases hc7z : (r1.2.1 (a + 2) 125) = 0
            · rw [if_pos hc7z] at h
              obtain rfl := Option.some.inj h
              exact z1
            · rw [if_neg hc7z] at h
              obtain ⟨r8, h_r8, h⟩ := Option.bind_eq_some_iff.mp h
              have z13 : mx_out (WSX12_drawsDeed a) m r8.2 := mx_out.tr z1 (mx_out.sub (ZX12_draw h_r8) (fun b j hb => (Or.inl hb)))
              obtain ⟨r9, h_r9, h⟩ := Option.bind_eq_some_iff.mp h
              have z14 : mx_out (WSX12_drawsDeed a) m r9.2 := mx_out.tr z13 (mx_out.sub (ZX12_draw h_r9) (fun b j hb => (Or.inl hb)))
              obtain ⟨r10, h_r10, h⟩ := Option.bind_eq_some_iff.mp h
              have z15 : mx_out (WSX12_drawsDeed a) m r10.2 := mx_out.tr z14 (mx_out.sub (ZX12_doIf h_r10) (fun b j hb => (Or.elim hb (fun h0 => (Or.inr (Or.inl h0))) (fun g0 => (Or.inr (Or.inr g0))))))
              obtain ⟨-, h⟩ := mx_chkE h
              obtain rfl := Option.some.inj h
              exact z15
          · rw [if_neg hc6z] at h
            obtain ⟨r12, h_r12, h⟩ := Option.bind_eq_some_iff.mp h
            have z16 : mx_out (WSX12_drawsDeed a) m r12.2 := mx_out.tr z1 (mx_out.sub (ZX12_drawPoint h_r12) (fun b j hb => (Or.inl hb)))
            obtain ⟨r13, h_r13, h⟩ := Option.bind_eq_some_iff.mp h
            have z17 : mx_out (WSX12_drawsDeed a) m r13.2 := mx_out.tr z16 (mx_out.sub (ZX12_doIf h_r13) (fun b j hb => (Or.elim hb (fun h0 => (Or.inr (Or.inl h0))) (fun g0 => (Or.inr (Or.inr g0))))))
            obtain ⟨-, h⟩ := mx_chkE h
            obtain rfl := Option.some.inj h
            exact z17
set_option maxRecDepth 20000 in
theorem ZX12_drawDeeds_L10 {q0 : Nat} {y1 : Int32} : ∀ (f : Nat) {y3 : Int32} {y4 : Int32} {m : mB} {q : (Int32 × mB)}, FX12_drawDeeds_L10 q0 y1 f y3 y4 m = some q → mx_out (WSX12_drawDeeds_L10 q0) m q.2 := by
  intro f
  induction f with
  | zero => intro _ _ _ _ h; cases h
  | succ f ih =>
    intro y3 y4 m q h
    rw [FX12_drawDeeds_L10] at h
    have z0 : mx_out (WSX12_drawDeeds_L10 q0) m m := mx_out.rf
    by_cases hc2z : y1 ≤ y4
    · rw [if_pos hc2z] at h
      obtain rfl := Option.some.inj h
      exact z0
    · rw [if_neg hc2z] at h
      by_cases hc3z : (m.1 (q0 + 2) 0) ≤ 0
      · rw [if_pos hc3z] at h
        obtain rfl := Option.some.inj h
        exact z0
      · rw [if_neg hc3z] at h
        obtain ⟨r4, h_r4, h⟩ := Option.bind_eq_some_iff.mp h
        have z1 : mx_out (WSX12_drawDeeds_L10 q0) m r4.2 := mx_out.tr z0 (mx_out.sub (ZX12_drawsDeed h_r4) (fun b j hb => (Or.elim hb (fun h0 => (Or.inl h0)) (fun g0 => (Or.elim g0 (fun h1 => (Or.inr (Or.inl h1))) (fun g1 => (Or.inr (Or.inr g1))))))))
        by_cases hc5z : r4.1 = 0
        · rw [if_pos hc5z] at h
          obtain ⟨v6, -, h⟩ := mx_letE h
          exact mx_out.tr z1 (ih h)
        · rw [if_neg hc5z] at h
          obtain ⟨v7, -, h⟩ := mx_letE h
          obtain ⟨v8, -, h⟩ := mx_letE h
          exact mx_out.tr z1 (ih h)
set_option maxRecDepth 20000 in
theorem ZX12_drawDeeds {a : Nat} {x0 : Int32} {x1 : Int32} {m : mB} {r : (Int32 × mB)} (h : FX12_drawDeeds a x0 x1 m = some r) : mx_out (WSX12_drawDeeds a) m r.2 := by
  unfold FX12_drawDeeds at h
  have z0 : mx_out (WSX12_drawDeeds a) m m := mx_out.rf
  obtain ⟨m1, e_m1, h⟩ := mx_letE h
  have z2 : mx_out (WSX12_drawDeeds a) m m1 := by first | exact mx_out_up z0 e_m1 (Or.inl ⟨rfl, rfl⟩) | exact mx_out_ul z0 e_m1 (Or.inl ⟨rfl, rfl⟩) | exact mx_out_cp z0 e_m1 (fun j => (Or.inl ⟨rfl, rfl⟩)) | exact mx_out_cl z0 e_m1 (fun j => (Or.inl ⟨rfl, rfl⟩))
  obtain ⟨q9, h_q9, h⟩ := Option.bind_eq_some_iff.mp h
  have z3 := mx_out.tr z2 (mx_out.sub (S := (WSX12_drawDeeds a)) (ZX12_drawDeeds_L10 mx_FU h_q9) (fun b j hb => (Or.elim hb (fun h0 => (Or.inl h0)) (fun g0 => (Or.elim g0 (fun h1 => (Or.inr (Or.inl h1))) (fun g1 => (Or.inr (Or.inr g1))))))))
  obtain rfl := Option.some.inj h
  exact z3
set_option maxRecDepth 20000 in
theorem ZX12_stay {a : Nat} {x0 : Int32} {m : mB} {r : mB} (h : FX12_stay a x0 m = some r) : mx_out (WSX12_stay a) m r := by
  unfold FX12_stay at h
  have z0 : mx_out (WSX12_stay a) m m := mx_out.rf
  obtain ⟨r1, h_r1, h⟩ := Option.bind_eq_some_iff.mp h
  have z1 : mx_out (WSX12_stay a) m r1 := mx_out.tr z0 (mx_out.sub (ZX12_save h_r1) (fun b j hb => (Or.inr (Or.inr (Or.inr hb)))))
  obtain ⟨r2, h_r2, h⟩ := Option.bind_eq_some_iff.mp h
  have z2 : mx_out (WSX12_stay a) m r2 := mx_out.tr z1 (mx_out.sub (ZX12_comeBack h_r2) (fun b j hb => (Or.inr (Or.inl hb))))
  by_cases hc3z : x0 = 0
  · rw [if_pos hc3z] at h
    obtain rfl := Option.some.inj h
    exact z2
  · rw [if_neg hc3z] at h
    obtain ⟨r4, h_r4, h⟩ := Option.bind_eq_some_iff.mp h
    have z3 : mx_out (WSX12_stay a) m r4 := mx_out.tr z2 (mx_out.sub (ZX12_snap h_r4) (fun b j hb => (Or.elim hb (fun h0 => (Or.inl h0)) (fun g0 => (Or.inr (Or.inr (Or.inl g0)))))))
    obtain ⟨r5, h_r5, h⟩ := Option.bind_eq_some_iff.mp h
    have z4 : mx_out (WSX12_stay a) m r5 := mx_out.tr z3 (mx_out.sub (ZX12_comeBack h_r5) (fun b j hb => (Or.inr (Or.inl hb))))
    obtain rfl := Option.some.inj h
    exact z4
set_option maxRecDepth 20000 in
theorem ZX12_drawn {a : Nat} {x0 : Int32} {x1 : Int32} {m : mB} {r : (Int32 × mB)} (h : FX12_drawn a x0 x1 m = some r) : mx_out (WSX12_drawn a) m r.2 := by
  unfold FX12_drawn at h
  have z0 : mx_out (WSX12_drawn a) m m := mx_out.rf
  obtain ⟨m1, e_m1, h⟩ := mx_letE h
  have z1 : mx_out (WSX12_drawn a) m m1 := by first | exact mx_out_up z0 e_m1 (Or.inl ⟨rfl, rfl⟩) | exact mx_out_ul z0 e_m1 (Or.inl ⟨rfl, rfl⟩) | exact mx_out_cp z0 e_m1 (fun j => (Or.inl ⟨rfl, rfl⟩)) | exact mx_out_cl z0 e_m1 (fun j => (Or.inl ⟨rfl, rfl⟩))
  obtain ⟨r2, h_r2, h⟩ := Option.bind_eq_some_iff.mp h
  by_cases hc3z : r2 = 0
  · rw [if_pos hc3z] at h
    obtain rfl := Option.some.inj h
    exact z1
  · rw [if_neg hc3z] at h
    obtain ⟨r4, h_r4, h⟩ := Option.bind_eq_some_iff.mp h
    have z2 : mx_out (WSX12_drawn a) m r4 := mx_out.tr z1 (mx_out.sub (ZX12_save h_r4) (fun b j hb => (Or.inr (Or.inr (Or.inr (Or.inr (Or.inr (Or.inr (Or.inr hb)))))))))
    obtain ⟨r5, h_r5, h⟩ := Option.bind_eq_some_iff.mp h
    have z3 : mx_out (WSX12_drawn a) m r5.2 := mx_out.tr z2 (mx_out.sub (ZX12_drawDeeds h_r5) (fun b j hb => (Or.elim hb (fun h0 => (Or.inr (Or.inr (Or.inl h0)))) (fun g0 => (Or.elim g0 (fun h1 => (Or.inr (Or.inr (Or.inr (Or.inl h1))))) (fun g1 => (Or.inr (Or.inr (Or.inr (Or.inr (Or.inl g1)))))))))))
    by_cases hc6z : r5.1 ≤ 0
    · rw [if_pos hc6z] at h
      obtain ⟨r7, h_r7, h⟩ := Option.bind_eq_some_iff.mp h
      have z4 : mx_out (WSX12_drawn a) m r7 := mx_out.tr z3 (mx_out.sub (ZX12_stay h_r7) (fun b j hb => (Or.elim hb (fun h0 => (Or.inr (Or.inl h0))) (fun g0 => (Or.elim g0 (fun h1 => (Or.inr (Or.inr (Or.inr (Or.inr (Or.inl h1)))))) (fun g1 => (Or.elim g1 (fun h2 => (Or.inr (Or.inr (Or.inr (Or.inr (Or.inr (Or.inl h2))))))) (fun g2 => (Or.inr (Or.inr (Or.inr (Or.inr (Or.inr (Or.inr (Or.inl g2)))))))))))))))
      obtain rfl := Option.some.inj h
      exact z4
    · rw [if_neg hc6z] at h
      obtain ⟨r8, h_r8, h⟩ := Option.bind_eq_some_iff.mp h
      have z5 : mx_out (WSX12_drawn a) m r8 := mx_out.tr z3 (mx_out.sub (ZX12_stay h_r8) (fun b j hb => (Or.elim hb (fun h0 => (Or.inr (Or.inl h0))) (fun g0 => (Or.elim g0 (fun h1 => (Or.inr (Or.inr (Or.inr (Or.inr (Or.inl h1)))))) (fun g1 => (Or.elim g1 (fun h2 => (Or.inr (Or.inr (Or.inr (Or.inr (Or.inr (Or.inl h2))))))) (fun g2 => (Or.inr (Or.inr (Or.inr (Or.inr (Or.inr (Or.inr (Or.inl g2)))))))))))))))
      obtain rfl := Option.some.inj h
      exact z5
set_option maxRecDepth 20000 in
theorem ZX12_odds_L40 {q0 : Nat} {y1 : Int32} {y2 : Int32} {y3 : Int32} : ∀ (f : Nat) {y4 : Int32} {y5 : Int32} {m : mB} {q : (Int32 × mB)}, FX12_odds_L40 q0 y1 y2 y3 f y4 y5 m = some q → mx_out (WSX12_odds_L40 q0) m q.2 := by
  intro f
  induction f with
  | zero => intro _ _ _ _ h; cases h
  | succ f ih =>
    intro y4 y5 m q h
    rw [FX12_odds_L40] at h
    have z0 : mx_out (WSX12_odds_L40 q0) m m := mx_out.rf
    by_cases hc7z : y2 ≤ y5
    · rw [if_pos hc7z] at h
      obtain rfl := Option.some.inj h
      exact z0
    · rw [if_neg hc7z] at h
      obtain ⟨r8, h_r8, h⟩ := Option.bind_eq_some_iff.mp h
      have z1 : mx_out (WSX12_odds_L40 q0) m r8.2 := mx_out.tr z0 (mx_out.sub (ZX12_drawDeeds h_r8) (fun b j hb => (Or.elim hb (fun h0 => (Or.inl h0)) (fun g0 => (Or.elim g0 (fun h1 => (Or.inr (Or.inl h1))) (fun g1 => (Or.inr (Or.inr g1))))))))
      obtain ⟨r9, h_r9, h⟩ := Option.bind_eq_some_iff.mp h
      by_cases hc10z : r9 = 0
      · rw [if_pos hc10z] at h
        obtain ⟨v13, -, h⟩ := mx_letE h
        obtain ⟨r14, h_r14, h⟩ := Option.bind_eq_some_iff.mp h
        have z2 : mx_out (WSX12_odds_L40 q0) m r14 := mx_out.tr z1 (mx_out.sub (ZX12_comeBack h_r14) (fun b j hb => (Or.inr (Or.inr hb))))
        obtain ⟨v15, -, h⟩ := mx_letE h
        exact mx_out.tr z2 (ih h)
      · rw [if_neg hc10z] at h
        obtain ⟨r11, h_r11, h⟩ := Option.bind_eq_some_iff.mp h
        have z3 : mx_out (WSX12_odds_L40 q0) m r11 := mx_out.tr z1 (mx_out.sub (ZX12_comeBack h_r11) (fun b j hb => (Or.inr (Or.inr hb))))
        obtain ⟨v12, -, h⟩ := mx_letE h
        exact mx_out.tr z3 (ih h)
set_option maxRecDepth 20000 in
theorem ZX12_odds {a : Nat} {x0 : Int32} {x1 : Int32} {x2 : Int32} {m : mB} {r : (Int32 × mB)} (h : FX12_odds a x0 x1 x2 m = some r) : mx_out (WSX12_odds a) m r.2 := by
  unfold FX12_odds at h
  have z0 : mx_out (WSX12_odds a) m m := mx_out.rf
  obtain ⟨m1, e_m1, h⟩ := mx_letE h
  have z4 : mx_out (WSX12_odds a) m m1 := by first | exact mx_out_up z0 e_m1 (Or.inl ⟨rfl, rfl⟩) | exact mx_out_ul z0 e_m1 (Or.inl ⟨rfl, rfl⟩) | exact mx_out_cp z0 e_m1 (fun j => (Or.inl ⟨rfl, rfl⟩)) | exact mx_out_cl z0 e_m1 (fun j => (Or.inl ⟨rfl, rfl⟩))
  obtain ⟨r2, h_r2, h⟩ := Option.bind_eq_some_iff.mp h
  by_cases hc3z : r2 = 0
  · rw [if_pos hc3z] at h
    obtain rfl := Option.some.inj h
    exact z4
  · rw [if_neg hc3z] at h
    obtain ⟨r4, h_r4, h⟩ := Option.bind_eq_some_iff.mp h
    by_cases hc5z : r4 = 0
    · rw [if_pos hc5z] at h
      obtain rfl := Option.some.inj h
      exact z4
    · rw [if_neg hc5z] at h
      obtain ⟨r6, h_r6, h⟩ := Option.bind_eq_some_iff.mp h
      have z5 : mx_out (WSX12_odds a) m r6 := mx_out.tr z4 (mx_out.sub (ZX12_save h_r6) (fun b j hb => (Or.inr (Or.inr (Or.inr (Or.inr hb))))))
      obtain ⟨q16, h_q16, h⟩ := Option.bind_eq_some_iff.mp h
      have z6 := mx_out.tr z5 (mx_out.sub (S := (WSX12_odds a)) (ZX12_odds_L40 mx_FU h_q16) (fun b j hb => (Or.elim hb (fun h0 => (Or.inr (Or.inl h0))) (fun g0 => (Or.elim g0 (fun h1 => (Or.inr (Or.inr (Or.inl h1)))) (fun g1 => (Or.inr (Or.inr (Or.inr (Or.inl g1))))))))))
      obtain rfl := Option.some.inj h
      exact z6
set_option maxRecDepth 20000 in
theorem ZX12_keep {a : Nat} {x0 : Int32} {x1 : Int32} {m : mB} {r : (Int32 × mB)} (h : FX12_keep a x0 x1 m = some r) : mx_out (WSX12_keep a) m r.2 := by
  unfold FX12_keep at h
  have z0 : mx_out (WSX12_keep a) m m := mx_out.rf
  by_cases hc1z : x1 = 0
  · rw [if_pos hc1z] at h
    obtain ⟨-, h⟩ := mx_chkE h
    obtain rfl := Option.some.inj h
    exact z0
  · rw [if_neg hc1z] at h
    obtain ⟨-, h⟩ := mx_chkE h
    obtain ⟨m3, e_m3, h⟩ := mx_letE h
    have z1 : mx_out (WSX12_keep a) m m3 := by first | exact mx_out_up z0 e_m3 rfl | exact mx_out_ul z0 e_m3 rfl | exact mx_out_cp z0 e_m3 (fun j => rfl) | exact mx_out_cl z0 e_m3 (fun j => rfl)
    obtain ⟨-, h⟩ := mx_chkE h
    obtain rfl := Option.some.inj h
    exact z1
set_option maxRecDepth 20000 in
theorem ZX12_readPointName {a : Nat} {m : mB} {r : (Int32 × mB)} (h : FX12_readPointName a m = some r) : mx_out (WSX12_readPointName a) m r.2 := by
  unfold FX12_readPointName at h
  have z0 : mx_out (WSX12_readPointName a) m m := mx_out.rf
  obtain ⟨r1, h_r1, h⟩ := Option.bind_eq_some_iff.mp h
  by_cases hc2z : r1 = 0
  · rw [if_pos hc2z] at h
    obtain ⟨r9, h_r9, h⟩ := Option.bind_eq_some_iff.mp h
    have z1 : mx_out (WSX12_readPointName a) m r9.2 := mx_out.tr z0 (mx_out.sub (ZX12_bad h_r9) (fun b j hb => (Or.elim hb (fun h0 => (Or.inl h0)) (fun g0 => (Or.inr (Or.inl g0))))))
    obtain ⟨-, h⟩ := mx_chkE h
    obtain rfl := Option.some.inj h
    exact z1
  · rw [if_neg hc2z] at h
    obtain ⟨r3, h_r3, h⟩ := Option.bind_eq_some_iff.mp h
    obtain ⟨m4, e_m4, h⟩ := mx_letE h
    have z2 : mx_out (WSX12_readPointName a) m m4 := by first | exact mx_out_up z0 e_m4 (Or.inr (Or.inr (Or.inr (Or.inl ⟨rfl, rfl⟩)))) | exact mx_out_ul z0 e_m4 (Or.inr (Or.inr (Or.inr (Or.inl ⟨rfl, rfl⟩)))) | exact mx_out_cp z0 e_m4 (fun j => (Or.inr (Or.inr (Or.inr (Or.inl ⟨rfl, rfl⟩))))) | exact mx_out_cl z0 e_m4 (fun j => (Or.inr (Or.inr (Or.inr (Or.inl ⟨rfl, rfl⟩)))))
    by_cases hc5z : (m4.1 a 13) = (-1)
    · rw [if_pos hc5z] at h
      obtain ⟨r7, h_r7, h⟩ := Option.bind_eq_some_iff.mp h
      have z3 : mx_out (WSX12_readPointName a) m r7.2 := mx_out.tr z2 (mx_out.sub (ZX12_bad h_r7) (fun b j hb => (Or.elim hb (fun h0 => (Or.inl h0)) (fun g0 => (Or.inr (Or.inl g0))))))
      obtain ⟨-, h⟩ := mx_chkE h
      obtain rfl := Option.some.inj h
      exact z3
    · rw [if_neg hc5z] at h
      obtain ⟨r6, h_r6, h⟩ := Option.bind_eq_some_iff.mp h
      have z4 : mx_out (WSX12_readPointName a) m r6 := mx_out.tr z2 (mx_out.sub (ZX12_go h_r6) (fun b j hb => (Or.elim hb (fun h0 => (Or.inr (Or.inr (Or.inl h0)))) (fun g0 => (Or.elim g0 (fun h1 => (Or.inr (Or.inr (Or.inr (Or.inr (Or.inl h1)))))) (fun g1 => (Or.elim g1 (fun h2 => (Or.inr (Or.inr (Or.inr (Or.inr (Or.inr (Or.inl h2))))))) (fun g2 => (Or.elim g2 (fun h3 => (Or.inr (Or.inr (Or.inr (Or.inr (Or.inr (Or.inr (Or.inl h3)))))))) (fun g3 => (Or.elim g3 (fun h4 => (Or.inr (Or.inr (Or.inr (Or.inr (Or.inr (Or.inr (Or.inr (Or.inl h4))))))))) (fun g4 => (Or.inr (Or.inr (Or.inr (Or.inr (Or.inr (Or.inr (Or.inr (Or.inr g4))))))))))))))))))))
      obtain rfl := Option.some.inj h
      exact z4
set_option maxRecDepth 20000 in
theorem ZX12_readOther {a : Nat} {x0 : Int32} {m : mB} {r : (Int32 × mB)} (h : FX12_readOther a x0 m = some r) : mx_out (WSX12_readOther a) m r.2 := by
  unfold FX12_readOther at h
  have z0 : mx_out (WSX12_readOther a) m m := mx_out.rf
  obtain ⟨r1, h_r1, h⟩ := Option.bind_eq_some_iff.mp h
  by_cases hc2z : r1 = 0
  · rw [if_pos hc2z] at h
    obtain ⟨r14, h_r14, h⟩ := Option.bind_eq_some_iff.mp h
    have z1 : mx_out (WSX12_readOther a) m r14.2 := mx_out.tr z0 (mx_out.sub (ZX12_bad h_r14) (fun b j hb => (Or.elim hb (fun h0 => (Or.inl h0)) (fun g0 => (Or.inr (Or.inl g0))))))
    obtain ⟨-, h⟩ := mx_chkE h
    obtain rfl := Option.some.inj h
    exact z1
  · rw [if_neg hc2z] at h
    obtain ⟨r3, h_r3, h⟩ := Option.bind_eq_some_iff.mp h
    obtain ⟨-, h⟩ := mx_chkE h
    obtain ⟨m4, e_m4, h⟩ := mx_letE h
    have z2 : mx_out (WSX12_readOther a) m m4 := by first | exact mx_out_up z0 e_m4 (Or.inr (Or.inr (Or.inr (Or.inr (Or.inr (Or.inr (Or.inr (Or.inr rfl)))))))) | exact mx_out_ul z0 e_m4 (Or.inr (Or.inr (Or.inr (Or.inr (Or.inr (Or.inr (Or.inr (Or.inr rfl)))))))) | exact mx_out_cp z0 e_m4 (fun j => (Or.inr (Or.inr (Or.inr (Or.inr (Or.inr (Or.inr (Or.inr (Or.inr rfl))))))))) | exact mx_out_cl z0 e_m4 (fun j => (Or.inr (Or.inr (Or.inr (Or.inr (Or.inr (Or.inr (Or.inr (Or.inr rfl)))))))))
    by_cases hc6z : (m4.1 (a + 24) (Int32.toNatClampNeg (x0 + 1))) = (-1)
    · rw [if_pos hc6z] at h
      obtain ⟨r7, h_r7, h⟩ := Option.bind_eq_some_iff.mp h
      have z3 : mx_out (WSX12_readOther a) m r7.2 := mx_out.tr z2 (mx_out.sub (ZX12_bad h_r7) (fun b j hb => (Or.elim hb (fun h0 => (Or.inl h0)) (fun g0 => (Or.inr (Or.inl g0))))))
      obtain ⟨-, h⟩ := mx_chkE h
      obtain rfl := Option.some.inj h
      exact z3
    · rw [if_neg hc6z] at h
      obtain ⟨-, h⟩ := mx_chkE h
      by_cases hc10z : (m4.1 (a + 24) (Int32.toNatClampNeg (x0 + 1))) = (m4.1 (a + 24) (Int32.toNatClampNeg x0))
      · rw [if_pos hc10z] at h
        obtain ⟨r12, h_r12, h⟩ := Option.bind_eq_some_iff.mp h
        have z4 : mx_out (WSX12_readOther a) m r12.2 := mx_out.tr z2 (mx_out.sub (ZX12_bad h_r12) (fun b j hb => (Or.elim hb (fun h0 => (Or.inl h0)) (fun g0 => (Or.inr (Or.inl g0))))))
        obtain ⟨-, h⟩ := mx_chkE h
        obtain rfl := Option.some.inj h
        exact z4
      · rw [if_neg hc10z] at h
        obtain ⟨r11, h_r11, h⟩ := Option.bind_eq_some_iff.mp h
        have z5 : mx_out (WSX12_readOther a) m r11 := mx_out.tr z2 (mx_out.sub (ZX12_go h_r11) (fun b j hb => (Or.elim hb (fun h0 => (Or.inr (Or.inr (Or.inl h0)))) (fun g0 => (Or.elim g0 (fun h1 => (Or.inr (Or.inr (Or.inr (Or.inl h1))))) (fun g1 => (Or.elim g1 (fun h2 => (Or.inr (Or.inr (Or.inr (Or.inr (Or.inl h2)))))) (fun g2 => (Or.elim g2 (fun h3 => (Or.inr (Or.inr (Or.inr (Or.inr (Or.inr (Or.inl h3))))))) (fun g3 => (Or.elim g3 (fun h4 => (Or.inr (Or.inr (Or.inr (Or.inr (Or.inr (Or.inr (Or.inl h4)))))))) (fun g4 => (Or.inr (Or.inr (Or.inr (Or.inr (Or.inr (Or.inr (Or.inr (Or.inl g4))))))))))))))))))))
        obtain rfl := Option.some.inj h
        exact z5
set_option maxRecDepth 20000 in
theorem ZX12_readBookLine {a : Nat} {m : mB} {r : (Int32 × mB)} (h : FX12_readBookLine a m = some r) : mx_out (WSX12_readBookLine a) m r.2 := by
  unfold FX12_readBookLine at h
  have z0 : mx_out (WSX12_readBookLine a) m m := mx_out.rf
  obtain ⟨q6, h_q6, h⟩ := Option.bind_eq_some_iff.mp h
  by_cases hc7z : q6 = (-1)
  · rw [if_pos hc7z] at h
    obtain ⟨r80, h_r80, h⟩ := Option.bind_eq_some_iff.mp h
    have z1 : mx_out (WSX12_readBookLine a) m r80.2 := mx_out.tr z0 (mx_out.sub (ZX12_bad h_r80) (fun b j hb => (Or.elim hb (fun h0 => (Or.inl h0)) (fun g0 => (Or.inr (Or.inl g0))))))
    obtain ⟨-, h⟩ := mx_chkE h
    obtain rfl := Option.some.inj h
    exact z1
  · rw [if_neg hc7z] at h
    by_cases hc8z : (m.1 a 55) = 40
    · rw [if_pos hc8z] at h
      obtain ⟨r78, h_r78, h⟩ := Option.bind_eq_some_iff.mp h
      have z2 : mx_out (WSX12_readBookLine a) m r78.2 := mx_out.tr z0 (mx_out.sub (ZX12_bad h_r78) (fun b j hb => (Or.elim hb (fun h0 => (Or.inl h0)) (fun g0 => (Or.inr (Or.inl g0))))))
      obtain ⟨-, h⟩ := mx_chkE h
      obtain rfl := Option.some.inj h
      exact z2
    · rw [if_neg hc8z] at h
      obtain ⟨v9, -, h⟩ := mx_letE h
      obtain ⟨-, h⟩ := mx_chkE h
      obtain ⟨m10, e_m10, h⟩ := mx_letE h
      have z3 : mx_out (WSX12_readBookLine a) m m10 := by first | exact mx_out_up z0 e_m10 (Or.inr (Or.inr (Or.inr (Or.inr (Or.inr (Or.inr (Or.inr (Or.inr (Or.inr rfl))))))))) | exact mx_out_ul z0 e_m10 (Or.inr (Or.inr (Or.inr (Or.inr (Or.inr (Or.inr (Or.inr (Or.inr (Or.inr rfl))))))))) | exact mx_out_cp z0 e_m10 (fun j => (Or.inr (Or.inr (Or.inr (Or.inr (Or.inr (Or.inr (Or.inr (Or.inr (Or.inr rfl)))))))))) | exact mx_out_cl z0 e_m10 (fun j => (Or.inr (Or.inr (Or.inr (Or.inr (Or.inr (Or.inr (Or.inr (Or.inr (Or.inr rfl))))))))))
      obtain ⟨-, h⟩ := mx_chkE h
      obtain ⟨m12, e_m12, h⟩ := mx_letE h
      have z4 : mx_out (WSX12_readBookLine a) m m12 := by first | exact mx_out_up z3 e_m12 (Or.inr (Or.inr (Or.inr (Or.inr (Or.inr (Or.inr (Or.inr (Or.inr (Or.inr rfl))))))))) | exact mx_out_ul z3 e_m12 (Or.inr (Or.inr (Or.inr (Or.inr (Or.inr (Or.inr (Or.inr (Or.inr (Or.inr rfl))))))))) | exact mx_out_cp z3 e_m12 (fun j => (Or.inr (Or.inr (Or.inr (Or.inr (Or.inr (Or.inr (Or.inr (Or.inr (Or.inr rfl)))))))))) | exact mx_out_cl z3 e_m12 (fun j => (Or.inr (Or.inr (Or.inr (Or.inr (Or.inr (Or.inr (Or.inr (Or.inr (Or.inr rfl))))))))))
      obtain ⟨-, h⟩ := mx_chkE h
      obtain ⟨m14, e_m14, h⟩ := mx_letE h
      have z5 : mx_out (WSX12_readBookLine a) m m14 := by first | exact mx_out_up z4 e_m14 (Or.inr (Or.inr (Or.inr (Or.inr (Or.inr (Or.inr (Or.inr (Or.inr (Or.inr rfl))))))))) | exact mx_out_ul z4 e_m14 (Or.inr (Or.inr (Or.inr (Or.inr (Or.inr (Or.inr (Or.inr (Or.inr (Or.inr rfl))))))))) | exact mx_out_cp z4 e_m14 (fun j => (Or.inr (Or.inr (Or.inr (Or.inr (Or.inr (Or.inr (Or.inr (Or.inr (Or.inr rfl)))))))))) | exact mx_out_cl z4 e_m14 (fun j => (Or.inr (Or.inr (Or.inr (Or.inr (Or.inr (Or.inr (Or.inr (Or.inr (Or.inr rfl))))))))))
      obtain ⟨r16, h_r16, h⟩ := Option.bind_eq_some_iff.mp h
      have z6 : mx_out (WSX12_readBookLine a) m r16 := mx_out.tr z5 (mx_out.sub (ZX12_go h_r16) (fun b j hb => (Or.elim hb (fun h0 => (Or.inr (Or.inr (Or.inl h0)))) (fun g0 => (Or.elim g0 (fun h1 => (Or.inr (Or.inr (Or.inr (Or.inr (Or.inl h1)))))) (fun g1 => (Or.elim g1 (fun h2 => (Or.inr (Or.inr (Or.inr (Or.inr (Or.inr (Or.inl h2))))))) (fun g2 => (Or.elim g2 (fun h3 => (Or.inr (Or.inr (Or.inr (Or.inr (Or.inr (Or.inr (Or.inl h3)))))))) (fun g3 => (Or.elim g3 (fun h4 => (Or.inr (Or.inr (Or.inr (Or.inr (Or.inr (Or.inr (Or.inr (Or.inl h4))))))))) (fun g4 => (Or.inr (Or.inr (Or.inr (Or.inr (Or.inr (Or.inr (Or.inr (Or.inr (Or.inl g4)))))))))))))))))))))
      refine mx_letK (J := fun k18 => k18 = some r → mx_out (WSX12_readBookLine a) m r.2) h ?_ (fun k18 z_k18 h => ?_)
      · intro h
        obtain ⟨r19, h_r19, h⟩ := Option.bind_eq_some_iff.mp h
        have z8 : mx_out (WSX12_readBookLine a) m r19.2 := mx_out.tr z6 (mx_out.sub (ZX12_readNumber h_r19) (fun b j hb => (Or.elim hb (fun h0 => (Or.inl h0)) (fun g0 => (Or.elim g0 (fun h1 => (Or.inr (Or.inl h1))) (fun g1 => (Or.elim g1 (fun h2 => (Or.inr (Or.inr (Or.inl h2)))) (fun g2 => (Or.elim g2 (fun h3 => (Or.inr (Or.inr (Or.inr (Or.inl h3))))) (fun g3 => (Or.elim g3 (fun h4 => (Or.inr (Or.inr (Or.inr (Or.inr (Or.inl h4)))))) (fun g4 => (Or.elim g4 (fun h5 => (Or.inr (Or.inr (Or.inr (Or.inr (Or.inr (Or.inl h5))))))) (fun g5 => (Or.elim g5 (fun h6 => (Or.inr (Or.inr (Or.inr (Or.inr (Or.inr (Or.inr (Or.inl h6)))))))) (fun g6 => (Or.elim g6 (fun h7 => (Or.inr (Or.inr (Or.inr (Or.inr (Or.inr (Or.inr (Or.inr (Or.inl h7))))))))) (fun g7 => (Or.inr (Or.inr (Or.inr (Or.inr (Or.inr (Or.inr (Or.inr (Or.inr (Or.inl g7)))))))))))))))))))))))))))
        obtain ⟨r20, h_r20, h⟩ := Option.bind_eq_some_iff.mp h
        have z9 : mx_out (WSX12_readBookLine a) m r20.2 := mx_out.tr z8 (mx_out.sub (ZX12_keep h_r20) (fun b j hb => (Or.inr (Or.inr (Or.inr (Or.inr (Or.inr (Or.inr (Or.inr (Or.inr (Or.inr hb)))))))))))
        refine mx_letK (J := fun k24 => ∀ {y22 : Int32} {m23 : mB}, k24 y22 m23 = some r → mx_out (WSX12_readBookLine a) m m23 → mx_out (WSX12_readBookLine a) m r.2) h ?_ (fun k24 z_k24 h => ?_)
        · intro y22 m23 h z10
          dsimp only at h
          refine mx_letK (J := fun k28 => ∀ {y26 : Int32} {m27 : mB}, k28 y26 m27 = some r → mx_out (WSX12_readBookLine a) m m27 → mx_out (WSX12_readBookLine a) m r.2) h ?_ (fun k28 z_k28 h => ?_)
          · intro y26 m27 h z11
            dsimp only at h
            refine mx_letK (J := fun k32 => ∀ {y30 : Int32} {m31 : mB}, k32 y30 m31 = some r → mx_out (WSX12_readBookLine a) m m31 → mx_out (WSX12_readBookLine a) m r.2) h ?_ (fun k32 z_k32 h => ?_)
            · intro y30 m31 h z12
              dsimp only at h
              by_cases hc33z : y30 = 0
              · rw [if_pos hc33z] at h
                obtain rfl := Option.some.inj h
                exact z12
              · rw [if_neg hc33z] at h
                obtain ⟨r34, h_r34, h⟩ := Option.bind_eq_some_iff.mp h
                have z13 : mx_out (WSX12_readBookLine a) m r34.2 := mx_out.tr z12 (mx_out.sub (ZX12_readEnd h_r34) (fun b j hb => (Or.elim hb (fun h0 => (Or.inl h0)) (fun g0 => (Or.elim g0 (fun h1 => (Or.inr (Or.inl h1))) (fun g1 => (Or.elim g1 (fun h2 => (Or.inr (Or.inr (Or.inl h2)))) (fun g2 => (Or.elim g2 (fun h3 => (Or.inr (Or.inr (Or.inr (Or.inr (Or.inl h3)))))) (fun g3 => (Or.elim g3 (fun h4 => (Or.inr (Or.inr (Or.inr (Or.inr (Or.inr (Or.inl h4))))))) (fun g4 => (Or.elim g4 (fun h5 => (Or.inr (Or.inr (Or.inr (Or.inr (Or.inr (Or.inr (Or.inl h5)))))))) (fun g5 => (Or.elim g5 (fun h6 => (Or.inr (Or.inr (Or.inr (Or.inr (Or.inr (Or.inr (Or.inr (Or.inl h6))))))))) (fun g6 => (Or.inr (Or.inr (Or.inr (Or.inr (Or.inr (Or.inr (Or.inr (Or.inr (Or.inl g6)))))))))))))))))))))))))
                by_cases hc35z : r34.1 = 0
                · rw [if_pos hc35z] at h
                  obtain rfl := Option.some.inj h
                  exact z13
                · rw [if_neg hc35z] at h
                  obtain rfl := Option.some.inj h
                  exact z13
            by_cases hc29z : y26 = 0
            · rw [if_pos hc29z] at h
              exact z_k32 h z11
            · rw [if_neg hc29z] at h
              refine mx_letK (J := fun k37 => k37 = some r → mx_out (WSX12_readBookLine a) m r.2) h ?_ (fun k37 z_k37 h => ?_)
              · intro h
                obtain ⟨r38, h_r38, h⟩ := Option.bind_eq_some_iff.mp h
                have z15 : mx_out (WSX12_readBookLine a) m r38.2 := mx_out.tr z11 (mx_out.sub (ZX12_readNumber h_r38) (fun b j hb => (Or.elim hb (fun h0 => (Or.inl h0)) (fun g0 => (Or.elim g0 (fun h1 => (Or.inr (Or.inl h1))) (fun g1 => (Or.elim g1 (fun h2 => (Or.inr (Or.inr (Or.inl h2)))) (fun g2 => (Or.elim g2 (fun h3 => (Or.inr (Or.inr (Or.inr (Or.inl h3))))) (fun g3 => (Or.elim g3 (fun h4 => (Or.inr (Or.inr (Or.inr (Or.inr (Or.inl h4)))))) (fun g4 => (Or.elim g4 (fun h5 => (Or.inr (Or.inr (Or.inr (Or.inr (Or.inr (Or.inl h5))))))) (fun g5 => (Or.elim g5 (fun h6 => (Or.inr (Or.inr (Or.inr (Or.inr (Or.inr (Or.inr (Or.inl h6)))))))) (fun g6 => (Or.elim g6 (fun h7 => (Or.inr (Or.inr (Or.inr (Or.inr (Or.inr (Or.inr (Or.inr (Or.inl h7))))))))) (fun g7 => (Or.inr (Or.inr (Or.inr (Or.inr (Or.inr (Or.inr (Or.inr (Or.inr (Or.inl g7)))))))))))))))))))))))))))
                obtain ⟨r39, h_r39, h⟩ := Option.bind_eq_some_iff.mp h
                have z16 : mx_out (WSX12_readBookLine a) m r39.2 := mx_out.tr z15 (mx_out.sub (ZX12_keep h_r39) (fun b j hb => (Or.inr (Or.inr (Or.inr (Or.inr (Or.inr (Or.inr (Or.inr (Or.inr (Or.inr hb)))))))))))
                exact z_k32 h z16
              by_cases hc36z : q6 = 3
              · rw [if_pos hc36z] at h
                exact z_k37 h
              · rw [if_neg hc36z] at h
                by_cases hc40z : q6 = 4
                · rw [if_pos hc40z] at h
                  exact z_k37 h
                · rw [if_neg hc40z] at h
                  exact z_k32 h z11
          by_cases hc25z : y22 = 0
          · rw [if_pos hc25z] at h
            exact z_k28 h z10
          · rw [if_neg hc25z] at h
            by_cases hc41z : q6 = 2
            · rw [if_pos hc41z] at h
              obtain ⟨r42, h_r42, h⟩ := Option.bind_eq_some_iff.mp h
              have z17 : mx_out (WSX12_readBookLine a) m r42.2 := mx_out.tr z10 (mx_out.sub (ZX12_readNumber h_r42) (fun b j hb => (Or.elim hb (fun h0 => (Or.inl h0)) (fun g0 => (Or.elim g0 (fun h1 => (Or.inr (Or.inl h1))) (fun g1 => (Or.elim g1 (fun h2 => (Or.inr (Or.inr (Or.inl h2)))) (fun g2 => (Or.elim g2 (fun h3 => (Or.inr (Or.inr (Or.inr (Or.inl h3))))) (fun g3 => (Or.elim g3 (fun h4 => (Or.inr (Or.inr (Or.inr (Or.inr (Or.inl h4)))))) (fun g4 => (Or.elim g4 (fun h5 => (Or.inr (Or.inr (Or.inr (Or.inr (Or.inr (Or.inl h5))))))) (fun g5 => (Or.elim g5 (fun h6 => (Or.inr (Or.inr (Or.inr (Or.inr (Or.inr (Or.inr (Or.inl h6)))))))) (fun g6 => (Or.elim g6 (fun h7 => (Or.inr (Or.inr (Or.inr (Or.inr (Or.inr (Or.inr (Or.inr (Or.inl h7))))))))) (fun g7 => (Or.inr (Or.inr (Or.inr (Or.inr (Or.inr (Or.inr (Or.inr (Or.inr (Or.inl g7)))))))))))))))))))))))))))
              obtain ⟨r43, h_r43, h⟩ := Option.bind_eq_some_iff.mp h
              have z18 : mx_out (WSX12_readBookLine a) m r43.2 := mx_out.tr z17 (mx_out.sub (ZX12_keep h_r43) (fun b j hb => (Or.inr (Or.inr (Or.inr (Or.inr (Or.inr (Or.inr (Or.inr (Or.inr (Or.inr hb)))))))))))
              exact z_k28 h z18
            · rw [if_neg hc41z] at h
              exact z_k28 h z10
        by_cases hc21z : r20.1 = 0
        · rw [if_pos hc21z] at h
          exact z_k24 h z9
        · rw [if_neg hc21z] at h
          refine mx_letK (J := fun k45 => k45 = some r → mx_out (WSX12_readBookLine a) m r.2) h ?_ (fun k45 z_k45 h => ?_)
          · intro h
            obtain ⟨r46, h_r46, h⟩ := Option.bind_eq_some_iff.mp h
            have z20 : mx_out (WSX12_readBookLine a) m r46.2 := mx_out.tr z9 (mx_out.sub (ZX12_readOther h_r46) (fun b j hb => (Or.elim hb (fun h0 => (Or.inl h0)) (fun g0 => (Or.elim g0 (fun h1 => (Or.inr (Or.inl h1))) (fun g1 => (Or.elim g1 (fun h2 => (Or.inr (Or.inr (Or.inl h2)))) (fun g2 => (Or.elim g2 (fun h3 => (Or.inr (Or.inr (Or.inr (Or.inr (Or.inl h3)))))) (fun g3 => (Or.elim g3 (fun h4 => (Or.inr (Or.inr (Or.inr (Or.inr (Or.inr (Or.inl h4))))))) (fun g4 => (Or.elim g4 (fun h5 => (Or.inr (Or.inr (Or.inr (Or.inr (Or.inr (Or.inr (Or.inl h5)))))))) (fun g5 => (Or.elim g5 (fun h6 => (Or.inr (Or.inr (Or.inr (Or.inr (Or.inr (Or.inr (Or.inr (Or.inl h6))))))))) (fun g6 => (Or.elim g6 (fun h7 => (Or.inr (Or.inr (Or.inr (Or.inr (Or.inr (Or.inr (Or.inr (Or.inr (Or.inl h7)))))))))) (fun g7 => (Or.inr (Or.inr (Or.inr (Or.inr (Or.inr (Or.inr (Or.inr (Or.inr (Or.inr g7)))))))))))))))))))))))))))
            exact z_k24 h z20
          by_cases hc44z : q6 = 0
          · rw [if_pos hc44z] at h
            exact z_k45 h
          · rw [if_neg hc44z] at h
            by_cases hc47z : q6 = 2
            · rw [if_pos hc47z] at h
              exact z_k45 h
            · rw [if_neg hc47z] at h
              exact z_k24 h z9
      by_cases hc17z : q6 = 4
      · rw [if_pos hc17z] at h
        exact z_k18 h
      · rw [if_neg hc17z] at h
        by_cases hc48z : q6 = 5
        · rw [if_pos hc48z] at h
          exact z_k18 h
        · rw [if_neg hc48z] at h
          obtain ⟨r49, h_r49, h⟩ := Option.bind_eq_some_iff.mp h
          have z21 : mx_out (WSX12_readBookLine a) m r49.2 := mx_out.tr z6 (mx_out.sub (ZX12_readPointName h_r49) (fun b j hb => (Or.elim hb (fun h0 => (Or.inl h0)) (fun g0 => (Or.elim g0 (fun h1 => (Or.inr (Or.inl h1))) (fun g1 => (Or.elim g1 (fun h2 => (Or.inr (Or.inr (Or.inl h2)))) (fun g2 => (Or.elim g2 (fun h3 => (Or.inr (Or.inr (Or.inr (Or.inl h3))))) (fun g3 => (Or.elim g3 (fun h4 => (Or.inr (Or.inr (Or.inr (Or.inr (Or.inl h4)))))) (fun g4 => (Or.elim g4 (fun h5 => (Or.inr (Or.inr (Or.inr (Or.inr (Or.inr (Or.inl h5))))))) (fun g5 => (Or.elim g5 (fun h6 => (Or.inr (Or.inr (Or.inr (Or.inr (Or.inr (Or.inr (Or.inl h6)))))))) (fun g6 => (Or.elim g6 (fun h7 => (Or.inr (Or.inr (Or.inr (Or.inr (Or.inr (Or.inr (Or.inr (Or.inl h7))))))))) (fun g7 => (Or.inr (Or.inr (Or.inr (Or.inr (Or.inr (Or.inr (Or.inr (Or.inr (Or.inl g7)))))))))))))))))))))))))))
          obtain ⟨r50, h_r50, h⟩ := Option.bind_eq_some_iff.mp h
          have z22 : mx_out (WSX12_readBookLine a) m r50.2 := mx_out.tr z21 (mx_out.sub (ZX12_keep h_r50) (fun b j hb => (Or.inr (Or.inr (Or.inr (Or.inr (Or.inr (Or.inr (Or.inr (Or.inr (Or.inr hb)))))))))))
          refine mx_letK (J := fun k54 => ∀ {y52 : Int32} {m53 : mB}, k54 y52 m53 = some r → mx_out (WSX12_readBookLine a) m m53 → mx_out (WSX12_readBookLine a) m r.2) h ?_ (fun k54 z_k54 h => ?_)
          · intro y52 m53 h z23
            dsimp only at h
            refine mx_letK (J := fun k58 => ∀ {y56 : Int32} {m57 : mB}, k58 y56 m57 = some r → mx_out (WSX12_readBookLine a) m m57 → mx_out (WSX12_readBookLine a) m r.2) h ?_ (fun k58 z_k58 h => ?_)
            · intro y56 m57 h z24
              dsimp only at h
              refine mx_letK (J := fun k62 => ∀ {y60 : Int32} {m61 : mB}, k62 y60 m61 = some r → mx_out (WSX12_readBookLine a) m m61 → mx_out (WSX12_readBookLine a) m r.2) h ?_ (fun k62 z_k62 h => ?_)
              · intro y60 m61 h z25
                dsimp only at h
                by_cases hc63z : y60 = 0
                · rw [if_pos hc63z] at h
                  obtain rfl := Option.some.inj h
                  exact z25
                · rw [if_neg hc63z] at h
                  obtain ⟨r64, h_r64, h⟩ := Option.bind_eq_some_iff.mp h
                  have z26 : mx_out (WSX12_readBookLine a) m r64.2 := mx_out.tr z25 (mx_out.sub (ZX12_readEnd h_r64) (fun b j hb => (Or.elim hb (fun h0 => (Or.inl h0)) (fun g0 => (Or.elim g0 (fun h1 => (Or.inr (Or.inl h1))) (fun g1 => (Or.elim g1 (fun h2 => (Or.inr (Or.inr (Or.inl h2)))) (fun g2 => (Or.elim g2 (fun h3 => (Or.inr (Or.inr (Or.inr (Or.inr (Or.inl h3)))))) (fun g3 => (Or.elim g3 (fun h4 => (Or.inr (Or.inr (Or.inr (Or.inr (Or.inr (Or.inl h4))))))) (fun g4 => (Or.elim g4 (fun h5 => (Or.inr (Or.inr (Or.inr (Or.inr (Or.inr (Or.inr (Or.inl h5)))))))) (fun g5 => (Or.elim g5 (fun h6 => (Or.inr (Or.inr (Or.inr (Or.inr (Or.inr (Or.inr (Or.inr (Or.inl h6))))))))) (fun g6 => (Or.inr (Or.inr (Or.inr (Or.inr (Or.inr (Or.inr (Or.inr (Or.inr (Or.inl g6)))))))))))))))))))))))))
                  by_cases hc65z : r64.1 = 0
                  · rw [if_pos hc65z] at h
                    obtain rfl := Option.some.inj h
                    exact z26
                  · rw [if_neg hc65z] at h
                    obtain rfl := Option.some.inj h
                    exact z26
              by_cases hc59z : y56 = 0
              · rw [if_pos hc59z] at h
                exact z_k62 h z24
              · rw [if_neg hc59z] at h
                refine mx_letK (J := fun k67 => k67 = some r → mx_out (WSX12_readBookLine a) m r.2) h ?_ (fun k67 z_k67 h => ?_)
                · intro h
                  obtain ⟨r68, h_r68, h⟩ := Option.bind_eq_some_iff.mp h
                  have z28 : mx_out (WSX12_readBookLine a) m r68.2 := mx_out.tr z24 (mx_out.sub (ZX12_readNumber h_r68) (fun b j hb => (Or.elim hb (fun h0 => (Or.inl h0)) (fun g0 => (Or.elim g0 (fun h1 => (Or.inr (Or.inl h1))) (fun g1 => (Or.elim g1 (fun h2 => (Or.inr (Or.inr (Or.inl h2)))) (fun g2 => (Or.elim g2 (fun h3 => (Or.inr (Or.inr (Or.inr (Or.inl h3))))) (fun g3 => (Or.elim g3 (fun h4 => (Or.inr (Or.inr (Or.inr (Or.inr (Or.inl h4)))))) (fun g4 => (Or.elim g4 (fun h5 => (Or.inr (Or.inr (Or.inr (Or.inr (Or.inr (Or.inl h5))))))) (fun g5 => (Or.elim g5 (fun h6 => (Or.inr (Or.inr (Or.inr (Or.inr (Or.inr (Or.inr (Or.inl h6)))))))) (fun g6 => (Or.elim g6 (fun h7 => (Or.inr (Or.inr (Or.inr (Or.inr (Or.inr (Or.inr (Or.inr (Or.inl h7))))))))) (fun g7 => (Or.inr (Or.inr (Or.inr (Or.inr (Or.inr (Or.inr (Or.inr (Or.inr (Or.inl g7)))))))))))))))))))))))))))
                  obtain ⟨r69, h_r69, h⟩ := Option.bind_eq_some_iff.mp h
                  have z29 : mx_out (WSX12_readBookLine a) m r69.2 := mx_out.tr z28 (mx_out.sub (ZX12_keep h_r69) (fun b j hb => (Or.inr (Or.inr (Or.inr (Or.inr (Or.inr (Or.inr (Or.inr (Or.inr (Or.inr hb)))))))))))
                  exact z_k62 h z29
                by_cases hc66z : q6 = 3
                · rw [if_pos hc66z] at h
                  exact z_k67 h
                · rw [if_neg hc66z] at h
                  by_cases hc70z : q6 = 4
                  · rw [if_pos hc70z] at h
                    exact z_k67 h
                  · rw [if_neg hc70z] at h
                    exact z_k62 h z24
            by_cases hc55z : y52 = 0
            · rw [if_pos hc55z] at h
              exact z_k58 h z23
            · rw [if_neg hc55z] at h
              by_cases hc71z : q6 = 2
              · rw [if_pos hc71z] at h
                obtain ⟨r72, h_r72, h⟩ := Option.bind_eq_some_iff.mp h
                have z30 : mx_out (WSX12_readBookLine a) m r72.2 := mx_out.tr z23 (mx_out.sub (ZX12_readNumber h_r72) (fun b j hb => (Or.elim hb (fun h0 => (Or.inl h0)) (fun g0 => (Or.elim g0 (fun h1 => (Or.inr (Or.inl h1))) (fun g1 => (Or.elim g1 (fun h2 => (Or.inr (Or.inr (Or.inl h2)))) (fun g2 => (Or.elim g2 (fun h3 => (Or.inr (Or.inr (Or.inr (Or.inl h3))))) (fun g3 => (Or.elim g3 (fun h4 => (Or.inr (Or.inr (Or.inr (Or.inr (Or.inl h4)))))) (fun g4 => (Or.elim g4 (fun h5 => (Or.inr (Or.inr (Or.inr (Or.inr (Or.inr (Or.inl h5))))))) (fun g5 => (Or.elim g5 (fun h6 => (Or.inr (Or.inr (Or.inr (Or.inr (Or.inr (Or.inr (Or.inl h6)))))))) (fun g6 => (Or.elim g6 (fun h7 => (Or.inr (Or.inr (Or.inr (Or.inr (Or.inr (Or.inr (Or.inr (Or.inl h7))))))))) (fun g7 => (Or.inr (Or.inr (Or.inr (Or.inr (Or.inr (Or.inr (Or.inr (Or.inr (Or.inl g7)))))))))))))))))))))))))))
                obtain ⟨r73, h_r73, h⟩ := Option.bind_eq_some_iff.mp h
                have z31 : mx_out (WSX12_readBookLine a) m r73.2 := mx_out.tr z30 (mx_out.sub (ZX12_keep h_r73) (fun b j hb => (Or.inr (Or.inr (Or.inr (Or.inr (Or.inr (Or.inr (Or.inr (Or.inr (Or.inr hb)))))))))))
                exact z_k58 h z31
              · rw [if_neg hc71z] at h
                exact z_k58 h z23
          by_cases hc51z : r50.1 = 0
          · rw [if_pos hc51z] at h
            exact z_k54 h z22
          · rw [if_neg hc51z] at h
            refine mx_letK (J := fun k75 => k75 = some r → mx_out (WSX12_readBookLine a) m r.2) h ?_ (fun k75 z_k75 h => ?_)
            · intro h
              obtain ⟨r76, h_r76, h⟩ := Option.bind_eq_some_iff.mp h
              have z33 : mx_out (WSX12_readBookLine a) m r76.2 := mx_out.tr z22 (mx_out.sub (ZX12_readOther h_r76) (fun b j hb => (Or.elim hb (fun h0 => (Or.inl h0)) (fun g0 => (Or.elim g0 (fun h1 => (Or.inr (Or.inl h1))) (fun g1 => (Or.elim g1 (fun h2 => (Or.inr (Or.inr (Or.inl h2)))) (fun g2 => (Or.elim g2 (fun h3 => (Or.inr (Or.inr (Or.inr (Or.inr (Or.inl h3)))))) (fun g3 => (Or.elim g3 (fun h4 => (Or.inr (Or.inr (Or.inr (Or.inr (Or.inr (Or.inl h4))))))) (fun g4 => (Or.elim g4 (fun h5 => (Or.inr (Or.inr (Or.inr (Or.inr (Or.inr (Or.inr (Or.inl h5)))))))) (fun g5 => (Or.elim g5 (fun h6 => (Or.inr (Or.inr (Or.inr (Or.inr (Or.inr (Or.inr (Or.inr (Or.inl h6))))))))) (fun g6 => (Or.elim g6 (fun h7 => (Or.inr (Or.inr (Or.inr (Or.inr (Or.inr (Or.inr (Or.inr (Or.inr (Or.inl h7)))))))))) (fun g7 => (Or.inr (Or.inr (Or.inr (Or.inr (Or.inr (Or.inr (Or.inr (Or.inr (Or.inr g7)))))))))))))))))))))))))))
              exact z_k54 h z33
            by_cases hc74z : q6 = 0
            · rw [if_pos hc74z] at h
              exact z_k75 h
            · rw [if_neg hc74z] at h
              by_cases hc77z : q6 = 2
              · rw [if_pos hc77z] at h
                exact z_k75 h
              · rw [if_neg hc77z] at h
                exact z_k54 h z22
set_option maxRecDepth 20000 in
theorem ZX12_goBy {a : Nat} {x0 : Int32} {m : mB} {r : (Int32 × mB)} (h : FX12_goBy a x0 m = some r) : mx_out (WSX12_goBy a) m r.2 := by
  unfold FX12_goBy at h
  have z0 : mx_out (WSX12_goBy a) m m := mx_out.rf
  obtain ⟨-, h⟩ := mx_chkE h
  obtain ⟨v2, -, h⟩ := mx_letE h
  refine mx_letK (J := fun k4 => k4 = some r → mx_out (WSX12_goBy a) m r.2) h ?_ (fun k4 z_k4 h => ?_)
  · intro h
    obtain ⟨-, h⟩ := mx_chkE h
    obtain ⟨-, h⟩ := mx_chkE h
    obtain ⟨-, h⟩ := mx_chkE h
    obtain ⟨r8, h_r8, h⟩ := Option.bind_eq_some_iff.mp h
    have z2 : mx_out (WSX12_goBy a) m r8.2 := mx_out.tr z0 (mx_out.sub (ZX12_refusal h_r8) (fun b j hb => (Or.inl hb)))
    by_cases hc9z : r8.1 = 0
    · rw [if_pos hc9z] at h
      obtain ⟨r10, h_r10, h⟩ := Option.bind_eq_some_iff.mp h
      have z3 : mx_out (WSX12_goBy a) m r10 := mx_out.tr z2 (mx_out.sub (ZX12_live h_r10) (fun b j hb => (Or.elim hb (fun h0 => (Or.inl h0)) (fun g0 => (Or.inr g0)))))
      obtain rfl := Option.some.inj h
      exact z3
    · rw [if_neg hc9z] at h
      obtain rfl := Option.some.inj h
      exact z2
  refine mx_letK (J := fun k11 => k11 = some r → mx_out (WSX12_goBy a) m r.2) h ?_ (fun k11 z_k11 h => ?_)
  · intro h
    obtain ⟨-, h⟩ := mx_chkE h
    obtain ⟨r13, h_r13, h⟩ := Option.bind_eq_some_iff.mp h
    by_cases hc14z : r13 = 0
    · rw [if_pos hc14z] at h
      obtain rfl := Option.some.inj h
      exact z0
    · rw [if_neg hc14z] at h
      exact z_k4 h
  by_cases hc3z : v2 = 4
  · rw [if_pos hc3z] at h
    exact z_k11 h
  · rw [if_neg hc3z] at h
    by_cases hc15z : v2 = 5
    · rw [if_pos hc15z] at h
      exact z_k11 h
    · rw [if_neg hc15z] at h
      exact z_k4 h
set_option maxRecDepth 20000 in
theorem ZX12_book_L30 {q0 : Nat} {y1 : Int32} : ∀ (f : Nat)  {m : mB} {q : ((Int32 × mB) ⊕ (mB))}, FX12_book_L30 q0 y1 f  m = some q → mx_out (WSX12_book_L30 q0) m (Sum.elim (fun rr => rr.2) (fun u => u) q) := by
  intro f
  induction f with
  | zero => intro _ _ h; cases h
  | succ f ih =>
    intro m q h
    rw [FX12_book_L30] at h
    have z0 : mx_out (WSX12_book_L30 q0) m m := mx_out.rf
    by_cases hc6z : (m.1 q0 7) = 0
    · rw [if_pos hc6z] at h
      obtain rfl := Option.some.inj h
      exact z0
    · rw [if_neg hc6z] at h
      obtain ⟨r7, h_r7, h⟩ := Option.bind_eq_some_iff.mp h
      have z1 : mx_out (WSX12_book_L30 q0) m r7.2 := mx_out.tr z0 (mx_out.sub (ZX12_readBookLine h_r7) (fun b j hb => (Or.elim hb (fun h0 => (Or.inl h0)) (fun g0 => (Or.elim g0 (fun h1 => (Or.inr (Or.inl h1))) (fun g1 => (Or.elim g1 (fun h2 => (Or.inr (Or.inr (Or.inl h2)))) (fun g2 => (Or.elim g2 (fun h3 => (Or.inr (Or.inr (Or.inr (Or.inl h3))))) (fun g3 => (Or.elim g3 (fun h4 => (Or.inr (Or.inr (Or.inr (Or.inr (Or.inl h4)))))) (fun g4 => (Or.elim g4 (fun h5 => (Or.inr (Or.inr (Or.inr (Or.inr (Or.inr (Or.inr (Or.inl h5)))))))) (fun g5 => (Or.elim g5 (fun h6 => (Or.inr (Or.inr (Or.inr (Or.inr (Or.inr (Or.inr (Or.inr (Or.inl h6))))))))) (fun g6 => (Or.elim g6 (fun h7 => (Or.inr (Or.inr (Or.inr (Or.inr (Or.inr (Or.inr (Or.inr (Or.inr (Or.inl h7)))))))))) (fun g7 => (Or.elim g7 (fun h8 => (Or.inr (Or.inr (Or.inr (Or.inr (Or.inr (Or.inr (Or.inr (Or.inr (Or.inr (Or.inl h8))))))))))) (fun g8 => (Or.inr (Or.inr (Or.inr (Or.inr (Or.inr (Or.inr (Or.inr (Or.inr (Or.inr (Or.inr g8))))))))))))))))))))))))))))))
      by_cases hc8z : r7.1 = 0
      · rw [if_pos hc8z] at h
        obtain rfl := Option.some.inj h
        exact z1
      · rw [if_neg hc8z] at h
        obtain ⟨m9, e_m9, h⟩ := mx_letE h
        have z2 : mx_out (WSX12_book_L30 q0) m m9 := by first | exact mx_out_up z1 e_m9 (Or.inr (Or.inr (Or.inr (Or.inr (Or.inr (Or.inl ⟨rfl, rfl⟩)))))) | exact mx_out_ul z1 e_m9 (Or.inr (Or.inr (Or.inr (Or.inr (Or.inr (Or.inl ⟨rfl, rfl⟩)))))) | exact mx_out_cp z1 e_m9 (fun j => (Or.inr (Or.inr (Or.inr (Or.inr (Or.inr (Or.inl ⟨rfl, rfl⟩))))))) | exact mx_out_cl z1 e_m9 (fun j => (Or.inr (Or.inr (Or.inr (Or.inr (Or.inr (Or.inl ⟨rfl, rfl⟩)))))))
        exact mx_out.tr z2 (ih h)
set_option maxRecDepth 20000 in
theorem ZX12_book_L78 {q0 : Nat} {y1 : Int32} : ∀ (f : Nat) {y2 : Int32} {y3 : Int32} {m : mB} {q : (Int32 × Int32 × mB)}, FX12_book_L78 q0 y1 f y2 y3 m = some q → mx_out (WSX12_book_L78 q0) m q.2.2 := by
  intro f
  induction f with
  | zero => intro _ _ _ _ h; cases h
  | succ f ih =>
    intro y2 y3 m q h
    rw [FX12_book_L78] at h
    have z0 : mx_out (WSX12_book_L78 q0) m m := mx_out.rf
    by_cases hc14z : (m.1 q0 55) ≤ y2
    · rw [if_pos hc14z] at h
      obtain rfl := Option.some.inj h
      exact z0
    · rw [if_neg hc14z] at h
      by_cases hc15z : y3 = 0
      · rw [if_pos hc15z] at h
        obtain ⟨r16, h_r16, h⟩ := Option.bind_eq_some_iff.mp h
        have z3 : mx_out (WSX12_book_L78 q0) m r16.2 := mx_out.tr z0 (mx_out.sub (ZX12_goBy h_r16) (fun b j hb => (Or.elim hb (fun h0 => (Or.inl h0)) (fun g0 => (Or.inr g0)))))
        by_cases hc17z : r16.1 = 0
        · rw [if_pos hc17z] at h
          obtain ⟨v18, -, h⟩ := mx_letE h
          exact mx_out.tr z3 (ih h)
        · rw [if_neg hc17z] at h
          exact mx_out.tr z3 (ih h)
      · rw [if_neg hc15z] at h
        obtain rfl := Option.some.inj h
        exact z0
set_option maxRecDepth 20000 in
theorem ZX12_book {a : Nat} {x0 : Int32} {m : mB} {r : (Int32 × mB)} (h : FX12_book a x0 m = some r) : mx_out (WSX12_book a) m r.2 := by
  unfold FX12_book at h
  have z0 : mx_out (WSX12_book a) m m := mx_out.rf
  obtain ⟨m1, e_m1, h⟩ := mx_letE h
  have z4 : mx_out (WSX12_book a) m m1 := by first | exact mx_out_up z0 e_m1 (Or.inl ⟨rfl, rfl⟩) | exact mx_out_ul z0 e_m1 (Or.inl ⟨rfl, rfl⟩) | exact mx_out_cp z0 e_m1 (fun j => (Or.inl ⟨rfl, rfl⟩)) | exact mx_out_cl z0 e_m1 (fun j => (Or.inl ⟨rfl, rfl⟩))
  obtain ⟨r2, h_r2, h⟩ := Option.bind_eq_some_iff.mp h
  by_cases hc3z : r2 = 0
  · rw [if_pos hc3z] at h
    obtain rfl := Option.some.inj h
    exact z4
  · rw [if_neg hc3z] at h
    obtain ⟨r4, h_r4, h⟩ := Option.bind_eq_some_iff.mp h
    have z5 : mx_out (WSX12_book a) m r4 := mx_out.tr z4 (mx_out.sub (ZX12_begin h_r4) (fun b j hb => (Or.elim hb (fun h0 => (Or.inl h0)) (fun g0 => (Or.elim g0 (fun h1 => (Or.inr (Or.inl h1))) (fun g1 => (Or.elim g1 (fun h2 => (Or.inr (Or.inr (Or.inr (Or.inl h2))))) (fun g2 => (Or.elim g2 (fun h3 => (Or.inr (Or.inr (Or.inr (Or.inr (Or.inr (Or.inl h3))))))) (fun g3 => (Or.elim g3 (fun h4 => (Or.inr (Or.inr (Or.inr (Or.inr (Or.inr (Or.inr (Or.inr (Or.inl h4))))))))) (fun g4 => (Or.elim g4 (fun h5 => (Or.inr (Or.inr (Or.inr (Or.inr (Or.inr (Or.inr (Or.inr (Or.inr (Or.inl h5)))))))))) (fun g5 => (Or.elim g5 (fun h6 => (Or.inr (Or.inr (Or.inr (Or.inr (Or.inr (Or.inr (Or.inr (Or.inr (Or.inr (Or.inl h6))))))))))) (fun g6 => (Or.elim g6 (fun h7 => (Or.inr (Or.inr (Or.inr (Or.inr (Or.inr (Or.inr (Or.inr (Or.inr (Or.inr (Or.inr (Or.inr (Or.inr (Or.inl h7)))))))))))))) (fun g7 => (Or.elim g7 (fun h8 => (Or.inr (Or.inr (Or.inr (Or.inr (Or.inr (Or.inr (Or.inr (Or.inr (Or.inr (Or.inr (Or.inr (Or.inr (Or.inr (Or.inl h8))))))))))))))) (fun g8 => (Or.elim g8 (fun h9 => (Or.inr (Or.inr (Or.inr (Or.inr (Or.inr (Or.inr (Or.inr (Or.inr (Or.inr (Or.inr (Or.inr (Or.inr (Or.inr (Or.inr (Or.inl h9)))))))))))))))) (fun g9 => (Or.inr (Or.inr (Or.inr (Or.inr (Or.inr (Or.inr (Or.inr (Or.inr (Or.inr (Or.inr (Or.inr (Or.inr (Or.inr (Or.inr (Or.inr (Or.inl g9))))))))))))))))))))))))))))))))))))))
    obtain ⟨m5, e_m5, h⟩ := mx_letE h
    have z6 : mx_out (WSX12_book a) m m5 := by first | exact mx_out_up z5 e_m5 (Or.inr (Or.inr (Or.inr (Or.inr (Or.inr (Or.inr (Or.inr (Or.inr (Or.inr (Or.inr (Or.inl ⟨rfl, rfl⟩))))))))))) | exact mx_out_ul z5 e_m5 (Or.inr (Or.inr (Or.inr (Or.inr (Or.inr (Or.inr (Or.inr (Or.inr (Or.inr (Or.inr (Or.inl ⟨rfl, rfl⟩))))))))))) | exact mx_out_cp z5 e_m5 (fun j => (Or.inr (Or.inr (Or.inr (Or.inr (Or.inr (Or.inr (Or.inr (Or.inr (Or.inr (Or.inr (Or.inl ⟨rfl, rfl⟩)))))))))))) | exact mx_out_cl z5 e_m5 (fun j => (Or.inr (Or.inr (Or.inr (Or.inr (Or.inr (Or.inr (Or.inr (Or.inr (Or.inr (Or.inr (Or.inl ⟨rfl, rfl⟩))))))))))))
    obtain ⟨q10, h_q10, h⟩ := Option.bind_eq_some_iff.mp h
    have z7 := mx_out.tr z6 (mx_out.sub (S := (WSX12_book a)) (ZX12_book_L30 mx_FU h_q10) (fun b j hb => (Or.elim hb (fun h0 => (Or.inr (Or.inl h0))) (fun g0 => (Or.elim g0 (fun h1 => (Or.inr (Or.inr (Or.inl h1)))) (fun g1 => (Or.elim g1 (fun h2 => (Or.inr (Or.inr (Or.inr (Or.inl h2))))) (fun g2 => (Or.elim g2 (fun h3 => (Or.inr (Or.inr (Or.inr (Or.inr (Or.inl h3)))))) (fun g3 => (Or.elim g3 (fun h4 => (Or.inr (Or.inr (Or.inr (Or.inr (Or.inr (Or.inr (Or.inr (Or.inr (Or.inr (Or.inl h4))))))))))) (fun g4 => (Or.elim g4 (fun h5 => (Or.inr (Or.inr (Or.inr (Or.inr (Or.inr (Or.inr (Or.inr (Or.inr (Or.inr (Or.inr (Or.inl h5)))))))))))) (fun g5 => (Or.elim g5 (fun h6 => (Or.inr (Or.inr (Or.inr (Or.inr (Or.inr (Or.inr (Or.inr (Or.inr (Or.inr (Or.inr (Or.inr (Or.inr (Or.inl h6)))))))))))))) (fun g6 => (Or.elim g6 (fun h7 => (Or.inr (Or.inr (Or.inr (Or.inr (Or.inr (Or.inr (Or.inr (Or.inr (Or.inr (Or.inr (Or.inr (Or.inr (Or.inr (Or.inl h7))))))))))))))) (fun g7 => (Or.elim g7 (fun h8 => (Or.inr (Or.inr (Or.inr (Or.inr (Or.inr (Or.inr (Or.inr (Or.inr (Or.inr (Or.inr (Or.inr (Or.inr (Or.inr (Or.inr (Or.inl h8)))))))))))))))) (fun g8 => (Or.elim g8 (fun h9 => (Or.inr (Or.inr (Or.inr (Or.inr (Or.inr (Or.inr (Or.inr (Or.inr (Or.inr (Or.inr (Or.inr (Or.inr (Or.inr (Or.inr (Or.inr (Or.inl h9))))))))))))))))) (fun g9 => (Or.inr (Or.inr (Or.inr (Or.inr (Or.inr (Or.inr (Or.inr (Or.inr (Or.inr (Or.inr (Or.inr (Or.inr (Or.inr (Or.inr (Or.inr (Or.inr (Or.inr (Or.inr (Or.inl g9)))))))))))))))))))))))))))))))))))))))))
    rcases q10 with rr12 | u11
    · rw [Sum.elim_inl] at h
      obtain rfl := Option.some.inj h
      exact z7
    · rw [Sum.elim_inr] at h
      obtain ⟨r13, h_r13, h⟩ := Option.bind_eq_some_iff.mp h
      have z8 : mx_out (WSX12_book a) m r13 := mx_out.tr z7 (mx_out.sub (ZX12_save h_r13) (fun b j hb => (Or.inr (Or.inr (Or.inr (Or.inr (Or.inr (Or.inr (Or.inr (Or.inr (Or.inr (Or.inr (Or.inr (Or.inr (Or.inr (Or.inr (Or.inr (Or.inr (Or.inr (Or.inr (Or.inr (Or.inr (Or.inr (Or.inr hb))))))))))))))))))))))))
      obtain ⟨q19, h_q19, h⟩ := Option.bind_eq_some_iff.mp h
      have z9 := mx_out.tr z8 (mx_out.sub (S := (WSX12_book a)) (ZX12_book_L78 mx_FU h_q19) (fun b j hb => (Or.elim hb (fun h0 => (Or.inr (Or.inr (Or.inr (Or.inr (Or.inr (Or.inr (Or.inr (Or.inr (Or.inr (Or.inr (Or.inr (Or.inr (Or.inr (Or.inr (Or.inr (Or.inr (Or.inl h0)))))))))))))))))) (fun g0 => (Or.inr (Or.inr (Or.inr (Or.inr (Or.inr (Or.inr (Or.inr (Or.inr (Or.inr (Or.inr (Or.inr (Or.inr (Or.inr (Or.inr (Or.inr (Or.inr (Or.inr (Or.inl g0))))))))))))))))))))))
      obtain ⟨m20, e_m20, h⟩ := mx_letE h
      have z10 : mx_out (WSX12_book a) m m20 := by first | exact mx_out_up z9 e_m20 (Or.inr (Or.inr (Or.inr (Or.inr (Or.inr (Or.inr (Or.inr (Or.inr (Or.inr (Or.inr (Or.inr (Or.inr (Or.inr (Or.inr (Or.inr (Or.inr (Or.inr (Or.inr (Or.inr (Or.inl rfl)))))))))))))))))))) | exact mx_out_ul z9 e_m20 (Or.inr (Or.inr (Or.inr (Or.inr (Or.inr (Or.inr (Or.inr (Or.inr (Or.inr (Or.inr (Or.inr (Or.inr (Or.inr (Or.inr (Or.inr (Or.inr (Or.inr (Or.inr (Or.inr (Or.inl rfl)))))))))))))))))))) | exact mx_out_cp z9 e_m20 (fun j => (Or.inr (Or.inr (Or.inr (Or.inr (Or.inr (Or.inr (Or.inr (Or.inr (Or.inr (Or.inr (Or.inr (Or.inr (Or.inr (Or.inr (Or.inr (Or.inr (Or.inr (Or.inr (Or.inr (Or.inl rfl))))))))))))))))))))) | exact mx_out_cl z9 e_m20 (fun j => (Or.inr (Or.inr (Or.inr (Or.inr (Or.inr (Or.inr (Or.inr (Or.inr (Or.inr (Or.inr (Or.inr (Or.inr (Or.inr (Or.inr (Or.inr (Or.inr (Or.inr (Or.inr (Or.inr (Or.inl rfl)))))))))))))))))))))
      obtain ⟨m21, e_m21, h⟩ := mx_letE h
      have z11 : mx_out (WSX12_book a) m m21 := by first | exact mx_out_up z10 e_m21 (Or.inr (Or.inr (Or.inr (Or.inr (Or.inr (Or.inr (Or.inr (Or.inr (Or.inr (Or.inr (Or.inr (Or.inr (Or.inr (Or.inr (Or.inr (Or.inr (Or.inr (Or.inr (Or.inr (Or.inl rfl)))))))))))))))))))) | exact mx_out_ul z10 e_m21 (Or.inr (Or.inr (Or.inr (Or.inr (Or.inr (Or.inr (Or.inr (Or.inr (Or.inr (Or.inr (Or.inr (Or.inr (Or.inr (Or.inr (Or.inr (Or.inr (Or.inr (Or.inr (Or.inr (Or.inl rfl)))))))))))))))))))) | exact mx_out_cp z10 e_m21 (fun j => (Or.inr (Or.inr (Or.inr (Or.inr (Or.inr (Or.inr (Or.inr (Or.inr (Or.inr (Or.inr (Or.inr (Or.inr (Or.inr (Or.inr (Or.inr (Or.inr (Or.inr (Or.inr (Or.inr (Or.inl rfl))))))))))))))))))))) | exact mx_out_cl z10 e_m21 (fun j => (Or.inr (Or.inr (Or.inr (Or.inr (Or.inr (Or.inr (Or.inr (Or.inr (Or.inr (Or.inr (Or.inr (Or.inr (Or.inr (Or.inr (Or.inr (Or.inr (Or.inr (Or.inr (Or.inr (Or.inl rfl)))))))))))))))))))))
      obtain ⟨r22, h_r22, h⟩ := Option.bind_eq_some_iff.mp h
      obtain ⟨m23, e_m23, h⟩ := mx_letE h
      have z12 : mx_out (WSX12_book a) m m23 := by first | exact mx_out_up z11 e_m23 (Or.inr (Or.inr (Or.inr (Or.inr (Or.inr (Or.inr (Or.inr (Or.inr (Or.inr (Or.inr (Or.inr (Or.inr (Or.inr (Or.inr (Or.inr (Or.inr (Or.inr (Or.inr (Or.inr (Or.inl rfl)))))))))))))))))))) | exact mx_out_ul z11 e_m23 (Or.inr (Or.inr (Or.inr (Or.inr (Or.inr (Or.inr (Or.inr (Or.inr (Or.inr (Or.inr (Or.inr (Or.inr (Or.inr (Or.inr (Or.inr (Or.inr (Or.inr (Or.inr (Or.inr (Or.inl rfl)))))))))))))))))))) | exact mx_out_cp z11 e_m23 (fun j => (Or.inr (Or.inr (Or.inr (Or.inr (Or.inr (Or.inr (Or.inr (Or.inr (Or.inr (Or.inr (Or.inr (Or.inr (Or.inr (Or.inr (Or.inr (Or.inr (Or.inr (Or.inr (Or.inr (Or.inl rfl))))))))))))))))))))) | exact mx_out_cl z11 e_m23 (fun j => (Or.inr (Or.inr (Or.inr (Or.inr (Or.inr (Or.inr (Or.inr (Or.inr (Or.inr (Or.inr (Or.inr (Or.inr (Or.inr (Or.inr (Or.inr (Or.inr (Or.inr (Or.inr (Or.inr (Or.inl rfl)))))))))))))))))))))
      obtain ⟨r24, h_r24, h⟩ := Option.bind_eq_some_iff.mp h
      obtain ⟨m25, e_m25, h⟩ := mx_letE h
      have z13 : mx_out (WSX12_book a) m m25 := by first | exact mx_out_up z12 e_m25 (Or.inr (Or.inr (Or.inr (Or.inr (Or.inr (Or.inr (Or.inr (Or.inr (Or.inr (Or.inr (Or.inr (Or.inr (Or.inr (Or.inr (Or.inr (Or.inr (Or.inr (Or.inr (Or.inr (Or.inl rfl)))))))))))))))))))) | exact mx_out_ul z12 e_m25 (Or.inr (Or.inr (Or.inr (Or.inr (Or.inr (Or.inr (Or.inr (Or.inr (Or.inr (Or.inr (Or.inr (Or.inr (Or.inr (Or.inr (Or.inr (Or.inr (Or.inr (Or.inr (Or.inr (Or.inl rfl)))))))))))))))))))) | exact mx_out_cp z12 e_m25 (fun j => (Or.inr (Or.inr (Or.inr (Or.inr (Or.inr (Or.inr (Or.inr (Or.inr (Or.inr (Or.inr (Or.inr (Or.inr (Or.inr (Or.inr (Or.inr (Or.inr (Or.inr (Or.inr (Or.inr (Or.inl rfl))))))))))))))))))))) | exact mx_out_cl z12 e_m25 (fun j => (Or.inr (Or.inr (Or.inr (Or.inr (Or.inr (Or.inr (Or.inr (Or.inr (Or.inr (Or.inr (Or.inr (Or.inr (Or.inr (Or.inr (Or.inr (Or.inr (Or.inr (Or.inr (Or.inr (Or.inl rfl)))))))))))))))))))))
      obtain ⟨m26, e_m26, h⟩ := mx_letE h
      have z14 : mx_out (WSX12_book a) m m26 := by first | exact mx_out_up z13 e_m26 (Or.inr (Or.inr (Or.inr (Or.inr (Or.inr (Or.inr (Or.inr (Or.inr (Or.inr (Or.inr (Or.inr (Or.inl ⟨rfl, rfl⟩)))))))))))) | exact mx_out_ul z13 e_m26 (Or.inr (Or.inr (Or.inr (Or.inr (Or.inr (Or.inr (Or.inr (Or.inr (Or.inr (Or.inr (Or.inr (Or.inl ⟨rfl, rfl⟩)))))))))))) | exact mx_out_cp z13 e_m26 (fun j => (Or.inr (Or.inr (Or.inr (Or.inr (Or.inr (Or.inr (Or.inr (Or.inr (Or.inr (Or.inr (Or.inr (Or.inl ⟨rfl, rfl⟩))))))))))))) | exact mx_out_cl z13 e_m26 (fun j => (Or.inr (Or.inr (Or.inr (Or.inr (Or.inr (Or.inr (Or.inr (Or.inr (Or.inr (Or.inr (Or.inr (Or.inl ⟨rfl, rfl⟩)))))))))))))
      refine mx_letK (J := fun k28 => k28 = some r → mx_out (WSX12_book a) m r.2) h ?_ (fun k28 z_k28 h => ?_)
      · intro h
        obtain ⟨r29, h_r29, h⟩ := Option.bind_eq_some_iff.mp h
        have z16 : mx_out (WSX12_book a) m r29 := mx_out.tr z14 (mx_out.sub (ZX12_stay h_r29) (fun b j hb => (Or.elim hb (fun h0 => (Or.inr (Or.inr (Or.inr (Or.inr (Or.inr (Or.inr (Or.inl h0)))))))) (fun g0 => (Or.elim g0 (fun h1 => (Or.inr (Or.inr (Or.inr (Or.inr (Or.inr (Or.inr (Or.inr (Or.inr (Or.inr (Or.inr (Or.inr (Or.inr (Or.inr (Or.inr (Or.inr (Or.inr (Or.inr (Or.inl h1))))))))))))))))))) (fun g1 => (Or.elim g1 (fun h2 => (Or.inr (Or.inr (Or.inr (Or.inr (Or.inr (Or.inr (Or.inr (Or.inr (Or.inr (Or.inr (Or.inr (Or.inr (Or.inr (Or.inr (Or.inr (Or.inr (Or.inr (Or.inr (Or.inr (Or.inr (Or.inl h2)))))))))))))))))))))) (fun g2 => (Or.inr (Or.inr (Or.inr (Or.inr (Or.inr (Or.inr (Or.inr (Or.inr (Or.inr (Or.inr (Or.inr (Or.inr (Or.inr (Or.inr (Or.inr (Or.inr (Or.inr (Or.inr (Or.inr (Or.inr (Or.inr (Or.inl g2))))))))))))))))))))))))))))))
        by_cases hc30z : q19.2.1 = 0
        · rw [if_pos hc30z] at h
          obtain rfl := Option.some.inj h
          exact z16
        · rw [if_neg hc30z] at h
          obtain rfl := Option.some.inj h
          exact z16
      by_cases hc27z : x0 = 1
      · rw [if_pos hc27z] at h
        by_cases hc31z : q19.1 ≤ 0
        · rw [if_pos hc31z] at h
          exact z_k28 h
        · rw [if_neg hc31z] at h
          obtain ⟨r32, h_r32, h⟩ := Option.bind_eq_some_iff.mp h
          have z17 : mx_out (WSX12_book a) m r32 := mx_out.tr z14 (mx_out.sub (ZX12_stay h_r32) (fun b j hb => (Or.elim hb (fun h0 => (Or.inr (Or.inr (Or.inr (Or.inr (Or.inr (Or.inr (Or.inl h0)))))))) (fun g0 => (Or.elim g0 (fun h1 => (Or.inr (Or.inr (Or.inr (Or.inr (Or.inr (Or.inr (Or.inr (Or.inr (Or.inr (Or.inr (Or.inr (Or.inr (Or.inr (Or.inr (Or.inr (Or.inr (Or.inr (Or.inl h1))))))))))))))))))) (fun g1 => (Or.elim g1 (fun h2 => (Or.inr (Or.inr (Or.inr (Or.inr (Or.inr (Or.inr (Or.inr (Or.inr (Or.inr (Or.inr (Or.inr (Or.inr (Or.inr (Or.inr (Or.inr (Or.inr (Or.inr (Or.inr (Or.inr (Or.inr (Or.inl h2)))))))))))))))))))))) (fun g2 => (Or.inr (Or.inr (Or.inr (Or.inr (Or.inr (Or.inr (Or.inr (Or.inr (Or.inr (Or.inr (Or.inr (Or.inr (Or.inr (Or.inr (Or.inr (Or.inr (Or.inr (Or.inr (Or.inr (Or.inr (Or.inr (Or.inl g2))))))))))))))))))))))))))))))
          by_cases hc33z : q19.2.1 = 0
          · rw [if_pos hc33z] at h
            obtain rfl := Option.some.inj h
            exact z17
          · rw [if_neg hc33z] at h
            obtain rfl := Option.some.inj h
            exact z17
      · rw [if_neg hc27z] at h
        exact z_k28 h
set_option maxRecDepth 20000 in
theorem ZX12_told {a : Nat} {x0 : Int32} {m : mB} {r : (Int32 × mB)} (h : FX12_told a x0 m = some r) : mx_out (WSX12_told a) m r.2 := by
  unfold FX12_told at h
  have z0 : mx_out (WSX12_told a) m m := mx_out.rf
  obtain ⟨m1, e_m1, h⟩ := mx_letE h
  have z1 : mx_out (WSX12_told a) m m1 := by first | exact mx_out_up z0 e_m1 ⟨rfl, rfl⟩ | exact mx_out_ul z0 e_m1 ⟨rfl, rfl⟩ | exact mx_out_cp z0 e_m1 (fun j => ⟨rfl, rfl⟩) | exact mx_out_cl z0 e_m1 (fun j => ⟨rfl, rfl⟩)
  by_cases hc2z : (m1.1 a 56) = 0
  · rw [if_pos hc2z] at h
    obtain rfl := Option.some.inj h
    exact z1
  · rw [if_neg hc2z] at h
    obtain ⟨r3, h_r3, h⟩ := Option.bind_eq_some_iff.mp h
    by_cases hc4z : r3 = 0
    · rw [if_pos hc4z] at h
      obtain rfl := Option.some.inj h
      exact z1
    · rw [if_neg hc4z] at h
      obtain ⟨-, h⟩ := mx_chkE h
      obtain rfl := Option.some.inj h
      exact z1
set_option maxRecDepth 20000 in
theorem ZX12_readThat {a : Nat} {x0 : Int32} {m : mB} {r : (Int32 × mB)} (h : FX12_readThat a x0 m = some r) : mx_out (WSX12_readThat a) m r.2 := by
  unfold FX12_readThat at h
  have z0 : mx_out (WSX12_readThat a) m m := mx_out.rf
  by_cases hc1z : x0 = 17
  · rw [if_pos hc1z] at h
    obtain ⟨r4, h_r4, h⟩ := Option.bind_eq_some_iff.mp h
    have z1 : mx_out (WSX12_readThat a) m r4.2 := mx_out.tr z0 (mx_out.sub (ZX12_readNumber h_r4) (fun b j hb => (Or.elim hb (fun h0 => (Or.inl h0)) (fun g0 => (Or.elim g0 (fun h1 => (Or.inr (Or.inl h1))) (fun g1 => (Or.elim g1 (fun h2 => (Or.inr (Or.inr (Or.inl h2)))) (fun g2 => (Or.elim g2 (fun h3 => (Or.inr (Or.inr (Or.inr (Or.inl h3))))) (fun g3 => (Or.elim g3 (fun h4 => (Or.inr (Or.inr (Or.inr (Or.inr (Or.inl h4)))))) (fun g4 => (Or.elim g4 (fun h5 => (Or.inr (Or.inr (Or.inr (Or.inr (Or.inr (Or.inl h5))))))) (fun g5 => (Or.elim g5 (fun h6 => (Or.inr (Or.inr (Or.inr (Or.inr (Or.inr (Or.inr (Or.inl h6)))))))) (fun g6 => (Or.elim g6 (fun h7 => (Or.inr (Or.inr (Or.inr (Or.inr (Or.inr (Or.inr (Or.inr (Or.inl h7))))))))) (fun g7 => (Or.inr (Or.inr (Or.inr (Or.inr (Or.inr (Or.inr (Or.inr (Or.inr g7))))))))))))))))))))))))))
    obtain ⟨-, h⟩ := mx_chkE h
    obtain rfl := Option.some.inj h
    exact z1
  · rw [if_neg hc1z] at h
    obtain ⟨r2, h_r2, h⟩ := Option.bind_eq_some_iff.mp h
    have z2 : mx_out (WSX12_readThat a) m r2.2 := mx_out.tr z0 (mx_out.sub (ZX12_readPointName h_r2) (fun b j hb => (Or.elim hb (fun h0 => (Or.inl h0)) (fun g0 => (Or.elim g0 (fun h1 => (Or.inr (Or.inl h1))) (fun g1 => (Or.elim g1 (fun h2 => (Or.inr (Or.inr (Or.inl h2)))) (fun g2 => (Or.elim g2 (fun h3 => (Or.inr (Or.inr (Or.inr (Or.inl h3))))) (fun g3 => (Or.elim g3 (fun h4 => (Or.inr (Or.inr (Or.inr (Or.inr (Or.inl h4)))))) (fun g4 => (Or.elim g4 (fun h5 => (Or.inr (Or.inr (Or.inr (Or.inr (Or.inr (Or.inl h5))))))) (fun g5 => (Or.elim g5 (fun h6 => (Or.inr (Or.inr (Or.inr (Or.inr (Or.inr (Or.inr (Or.inl h6)))))))) (fun g6 => (Or.elim g6 (fun h7 => (Or.inr (Or.inr (Or.inr (Or.inr (Or.inr (Or.inr (Or.inr (Or.inl h7))))))))) (fun g7 => (Or.inr (Or.inr (Or.inr (Or.inr (Or.inr (Or.inr (Or.inr (Or.inr g7))))))))))))))))))))))))))
    obtain ⟨-, h⟩ := mx_chkE h
    obtain rfl := Option.some.inj h
    exact z2
set_option maxRecDepth 20000 in
theorem ZX12_saysOne {a : Nat} {x0 : Int32} {x1 : Int32} {x2 : Int32} {x3 : Int32} {m : mB} {r : (Int32 × mB)} (h : FX12_saysOne a x0 x1 x2 x3 m = some r) : mx_out (WSX12_saysOne a) m r.2 := by
  unfold FX12_saysOne at h
  have z0 : mx_out (WSX12_saysOne a) m m := mx_out.rf
  obtain ⟨v1, -, h⟩ := mx_letE h
  obtain ⟨-, h⟩ := mx_chkE h
  obtain ⟨m2, e_m2, h⟩ := mx_letE h
  have z1 : mx_out (WSX12_saysOne a) m m2 := by first | exact mx_out_up z0 e_m2 (Or.inr rfl) | exact mx_out_ul z0 e_m2 (Or.inr rfl) | exact mx_out_cp z0 e_m2 (fun j => (Or.inr rfl)) | exact mx_out_cl z0 e_m2 (fun j => (Or.inr rfl))
  obtain ⟨-, h⟩ := mx_chkE h
  obtain ⟨m4, e_m4, h⟩ := mx_letE h
  have z2 : mx_out (WSX12_saysOne a) m m4 := by first | exact mx_out_up z1 e_m4 (Or.inr rfl) | exact mx_out_ul z1 e_m4 (Or.inr rfl) | exact mx_out_cp z1 e_m4 (fun j => (Or.inr rfl)) | exact mx_out_cl z1 e_m4 (fun j => (Or.inr rfl))
  obtain ⟨-, h⟩ := mx_chkE h
  obtain ⟨m6, e_m6, h⟩ := mx_letE h
  have z3 : mx_out (WSX12_saysOne a) m m6 := by first | exact mx_out_up z2 e_m6 (Or.inr rfl) | exact mx_out_ul z2 e_m6 (Or.inr rfl) | exact mx_out_cp z2 e_m6 (fun j => (Or.inr rfl)) | exact mx_out_cl z2 e_m6 (fun j => (Or.inr rfl))
  obtain ⟨-, h⟩ := mx_chkE h
  obtain ⟨m8, e_m8, h⟩ := mx_letE h
  have z4 : mx_out (WSX12_saysOne a) m m8 := by first | exact mx_out_up z3 e_m8 (Or.inr rfl) | exact mx_out_ul z3 e_m8 (Or.inr rfl) | exact mx_out_cp z3 e_m8 (fun j => (Or.inr rfl)) | exact mx_out_cl z3 e_m8 (fun j => (Or.inr rfl))
  obtain ⟨m10, e_m10, h⟩ := mx_letE h
  have z5 : mx_out (WSX12_saysOne a) m m10 := by first | exact mx_out_up z4 e_m10 (Or.inl ⟨rfl, rfl⟩) | exact mx_out_ul z4 e_m10 (Or.inl ⟨rfl, rfl⟩) | exact mx_out_cp z4 e_m10 (fun j => (Or.inl ⟨rfl, rfl⟩)) | exact mx_out_cl z4 e_m10 (fun j => (Or.inl ⟨rfl, rfl⟩))
  obtain rfl := Option.some.inj h
  exact z5
set_option maxRecDepth 20000 in
theorem ZX12_readAnd_L14 {rec : Nat → mB → Option (Int32 × mB)} {q0 : Nat} (zrec : ∀ {a : Nat} {m : mB} {r : (Int32 × mB)}, rec a m = some r → mx_out (WSX12_readSaid a) m r.2) : ∀ (f : Nat) {y1 : Int32} {m : mB} {q : ((Int32 × mB) ⊕ (Int32 × mB))}, FX12_readAnd_L14 rec q0 f y1 m = some q → mx_out (WSX12_readAnd_L14 q0) m (Sum.elim (fun rr => rr.2) (fun u => u.2) q) := by
  intro f
  induction f with
  | zero => intro _ _ _ h; cases h
  | succ f ih =>
    intro y1 m q h
    rw [FX12_readAnd_L14] at h
    have z0 : mx_out (WSX12_readAnd_L14 q0) m m := mx_out.rf
    obtain ⟨r4, h_r4, h⟩ := Option.bind_eq_some_iff.mp h
    by_cases hc5z : r4 = 0
    · rw [if_pos hc5z] at h
      obtain rfl := Option.some.inj h
      exact z0
    · rw [if_neg hc5z] at h
      obtain ⟨r6, h_r6, h⟩ := Option.bind_eq_some_iff.mp h
      have z1 : mx_out (WSX12_readAnd_L14 q0) m r6 := mx_out.tr z0 (mx_out.sub (ZX12_go h_r6) (fun b j hb => (Or.elim hb (fun h0 => (Or.inr (Or.inr (Or.inl h0)))) (fun g0 => (Or.elim g0 (fun h1 => (Or.inr (Or.inr (Or.inr (Or.inr (Or.inl h1)))))) (fun g1 => (Or.elim g1 (fun h2 => (Or.inr (Or.inr (Or.inr (Or.inr (Or.inr (Or.inr (Or.inr (Or.inl h2))))))))) (fun g2 => (Or.elim g2 (fun h3 => (Or.inr (Or.inr (Or.inr (Or.inr (Or.inr (Or.inr (Or.inr (Or.inr (Or.inr (Or.inr (Or.inl h3)))))))))))) (fun g3 => (Or.elim g3 (fun h4 => (Or.inr (Or.inr (Or.inr (Or.inr (Or.inr (Or.inr (Or.inr (Or.inr (Or.inr (Or.inr (Or.inr (Or.inl h4))))))))))))) (fun g4 => (Or.inr (Or.inr (Or.inr (Or.inr (Or.inr (Or.inr (Or.inr (Or.inr (Or.inr (Or.inr (Or.inr (Or.inr (Or.inl g4)))))))))))))))))))))))))
      obtain ⟨r7, h_r7, h⟩ := Option.bind_eq_some_iff.mp h
      have z2 : mx_out (WSX12_readAnd_L14 q0) m r7.2 := mx_out.tr z1 (mx_out.sub (zrec h_r7) (fun b j hb => (Or.elim hb (fun h0 => (Or.inl h0)) (fun g0 => (Or.elim g0 (fun h1 => (Or.inr (Or.inl h1))) (fun g1 => (Or.elim g1 (fun h2 => (Or.inr (Or.inr (Or.inl h2)))) (fun g2 => (Or.elim g2 (fun h3 => (Or.inr (Or.inr (Or.inr (Or.inl h3))))) (fun g3 => (Or.elim g3 (fun h4 => (Or.inr (Or.inr (Or.inr (Or.inr (Or.inl h4)))))) (fun g4 => (Or.elim g4 (fun h5 => (Or.inr (Or.inr (Or.inr (Or.inr (Or.inr (Or.inl h5))))))) (fun g5 => (Or.elim g5 (fun h6 => (Or.inr (Or.inr (Or.inr (Or.inr (Or.inr (Or.inr (Or.inl h6)))))))) (fun g6 => (Or.elim g6 (fun h7 => (Or.inr (Or.inr (Or.inr (Or.inr (Or.inr (Or.inr (Or.inr (Or.inl h7))))))))) (fun g7 => (Or.elim g7 (fun h8 => (Or.inr (Or.inr (Or.inr (Or.inr (Or.inr (Or.inr (Or.inr (Or.inr (Or.inl h8)))))))))) (fun g8 => (Or.elim g8 (fun h9 => (Or.inr (Or.inr (Or.inr (Or.inr (Or.inr (Or.inr (Or.inr (Or.inr (Or.inr (Or.inl h9))))))))))) (fun g9 => (Or.elim g9 (fun h10 => (Or.inr (Or.inr (Or.inr (Or.inr (Or.inr (Or.inr (Or.inr (Or.inr (Or.inr (Or.inr (Or.inl h10)))))))))))) (fun g10 => (Or.elim g10 (fun h11 => (Or.inr (Or.inr (Or.inr (Or.inr (Or.inr (Or.inr (Or.inr (Or.inr (Or.inr (Or.inr (Or.inr (Or.inl h11))))))))))))) (fun g11 => (Or.elim g11 (fun h12 => (Or.inr (Or.inr (Or.inr (Or.inr (Or.inr (Or.inr (Or.inr (Or.inr (Or.inr (Or.inr (Or.inr (Or.inr (Or.inl h12)))))))))))))) (fun g12 => (Or.inr (Or.inr (Or.inr (Or.inr (Or.inr (Or.inr (Or.inr (Or.inr (Or.inr (Or.inr (Or.inr (Or.inr (Or.inr g12)))))))))))))))))))))))))))))))))))))))))
      by_cases hc8z : r7.1 = 0
      · rw [if_pos hc8z] at h
        obtain rfl := Option.some.inj h
        exact z2
      · rw [if_neg hc8z] at h
        obtain ⟨r9, h_r9, h⟩ := Option.bind_eq_some_iff.mp h
        have z3 : mx_out (WSX12_readAnd_L14 q0) m r9.2 := mx_out.tr z2 (mx_out.sub (ZX12_saysOne h_r9) (fun b j hb => (Or.elim hb (fun h0 => (Or.inr (Or.inr (Or.inr (Or.inr (Or.inr (Or.inl h0))))))) (fun g0 => (Or.inr (Or.inr (Or.inr (Or.inr (Or.inr (Or.inr (Or.inr (Or.inr (Or.inr (Or.inr (Or.inr (Or.inr (Or.inr g0)))))))))))))))))
        exact mx_out.tr z3 (ih h)
set_option maxRecDepth 20000 in
theorem ZX12_readAnd {rec : Nat → mB → Option (Int32 × mB)} {a : Nat} {m : mB} {r : (Int32 × mB)} (zrec : ∀ {a : Nat} {m : mB} {r : (Int32 × mB)}, rec a m = some r → mx_out (WSX12_readSaid a) m r.2) (h : FX12_readAnd rec a m = some r) : mx_out (WSX12_readAnd a) m r.2 := by
  unfold FX12_readAnd at h
  have z0 : mx_out (WSX12_readAnd a) m m := mx_out.rf
  obtain ⟨r1, h_r1, h⟩ := Option.bind_eq_some_iff.mp h
  have z4 : mx_out (WSX12_readAnd a) m r1.2 := mx_out.tr z0 (mx_out.sub (zrec h_r1) (fun b j hb => (Or.elim hb (fun h0 => (Or.inl h0)) (fun g0 => (Or.elim g0 (fun h1 => (Or.inr (Or.inl h1))) (fun g1 => (Or.elim g1 (fun h2 => (Or.inr (Or.inr (Or.inl h2)))) (fun g2 => (Or.elim g2 (fun h3 => (Or.inr (Or.inr (Or.inr (Or.inl h3))))) (fun g3 => (Or.elim g3 (fun h4 => (Or.inr (Or.inr (Or.inr (Or.inr (Or.inl h4)))))) (fun g4 => (Or.elim g4 (fun h5 => (Or.inr (Or.inr (Or.inr (Or.inr (Or.inr (Or.inl h5))))))) (fun g5 => (Or.elim g5 (fun h6 => (Or.inr (Or.inr (Or.inr (Or.inr (Or.inr (Or.inr (Or.inl h6)))))))) (fun g6 => (Or.elim g6 (fun h7 => (Or.inr (Or.inr (Or.inr (Or.inr (Or.inr (Or.inr (Or.inr (Or.inl h7))))))))) (fun g7 => (Or.elim g7 (fun h8 => (Or.inr (Or.inr (Or.inr (Or.inr (Or.inr (Or.inr (Or.inr (Or.inr (Or.inl h8)))))))))) (fun g8 => (Or.elim g8 (fun h9 => (Or.inr (Or.inr (Or.inr (Or.inr (Or.inr (Or.inr (Or.inr (Or.inr (Or.inr (Or.inl h9))))))))))) (fun g9 => (Or.elim g9 (fun h10 => (Or.inr (Or.inr (Or.inr (Or.inr (Or.inr (Or.inr (Or.inr (Or.inr (Or.inr (Or.inr (Or.inl h10)))))))))))) (fun g10 => (Or.elim g10 (fun h11 => (Or.inr (Or.inr (Or.inr (Or.inr (Or.inr (Or.inr (Or.inr (Or.inr (Or.inr (Or.inr (Or.inr (Or.inl h11))))))))))))) (fun g11 => (Or.elim g11 (fun h12 => (Or.inr (Or.inr (Or.inr (Or.inr (Or.inr (Or.inr (Or.inr (Or.inr (Or.inr (Or.inr (Or.inr (Or.inr (Or.inl h12)))))))))))))) (fun g12 => (Or.inr (Or.inr (Or.inr (Or.inr (Or.inr (Or.inr (Or.inr (Or.inr (Or.inr (Or.inr (Or.inr (Or.inr (Or.inr g12)))))))))))))))))))))))))))))))))))))))))
  by_cases hc2z : r1.1 = 0
  · rw [if_pos hc2z] at h
    obtain rfl := Option.some.inj h
    exact z4
  · rw [if_neg hc2z] at h
    obtain ⟨v3, -, h⟩ := mx_letE h
    obtain ⟨q10, h_q10, h⟩ := Option.bind_eq_some_iff.mp h
    have z5 := mx_out.tr z4 (mx_out.sub (S := (WSX12_readAnd a)) (ZX12_readAnd_L14 zrec mx_FU h_q10) (fun b j hb => (Or.elim hb (fun h0 => (Or.inl h0)) (fun g0 => (Or.elim g0 (fun h1 => (Or.inr (Or.inl h1))) (fun g1 => (Or.elim g1 (fun h2 => (Or.inr (Or.inr (Or.inl h2)))) (fun g2 => (Or.elim g2 (fun h3 => (Or.inr (Or.inr (Or.inr (Or.inl h3))))) (fun g3 => (Or.elim g3 (fun h4 => (Or.inr (Or.inr (Or.inr (Or.inr (Or.inl h4)))))) (fun g4 => (Or.elim g4 (fun h5 => (Or.inr (Or.inr (Or.inr (Or.inr (Or.inr (Or.inl h5))))))) (fun g5 => (Or.elim g5 (fun h6 => (Or.inr (Or.inr (Or.inr (Or.inr (Or.inr (Or.inr (Or.inl h6)))))))) (fun g6 => (Or.elim g6 (fun h7 => (Or.inr (Or.inr (Or.inr (Or.inr (Or.inr (Or.inr (Or.inr (Or.inl h7))))))))) (fun g7 => (Or.elim g7 (fun h8 => (Or.inr (Or.inr (Or.inr (Or.inr (Or.inr (Or.inr (Or.inr (Or.inr (Or.inl h8)))))))))) (fun g8 => (Or.elim g8 (fun h9 => (Or.inr (Or.inr (Or.inr (Or.inr (Or.inr (Or.inr (Or.inr (Or.inr (Or.inr (Or.inl h9))))))))))) (fun g9 => (Or.elim g9 (fun h10 => (Or.inr (Or.inr (Or.inr (Or.inr (Or.inr (Or.inr (Or.inr (Or.inr (Or.inr (Or.inr (Or.inl h10)))))))))))) (fun g10 => (Or.elim g10 (fun h11 => (Or.inr (Or.inr (Or.inr (Or.inr (Or.inr (Or.inr (Or.inr (Or.inr (Or.inr (Or.inr (Or.inr (Or.inl h11))))))))))))) (fun g11 => (Or.elim g11 (fun h12 => (Or.inr (Or.inr (Or.inr (Or.inr (Or.inr (Or.inr (Or.inr (Or.inr (Or.inr (Or.inr (Or.inr (Or.inr (Or.inl h12)))))))))))))) (fun g12 => (Or.inr (Or.inr (Or.inr (Or.inr (Or.inr (Or.inr (Or.inr (Or.inr (Or.inr (Or.inr (Or.inr (Or.inr (Or.inr g12)))))))))))))))))))))))))))))))))))))))))
    rcases q10 with rr12 | u11
    · rw [Sum.elim_inl] at h
      obtain rfl := Option.some.inj h
      exact z5
    · rw [Sum.elim_inr] at h
      obtain ⟨m13, e_m13, h⟩ := mx_letE h
      have z6 : mx_out (WSX12_readAnd a) m m13 := by first | exact mx_out_up z5 e_m13 (Or.inr (Or.inr (Or.inr (Or.inr (Or.inr (Or.inr (Or.inr (Or.inr (Or.inr (Or.inl ⟨rfl, rfl⟩)))))))))) | exact mx_out_ul z5 e_m13 (Or.inr (Or.inr (Or.inr (Or.inr (Or.inr (Or.inr (Or.inr (Or.inr (Or.inr (Or.inl ⟨rfl, rfl⟩)))))))))) | exact mx_out_cp z5 e_m13 (fun j => (Or.inr (Or.inr (Or.inr (Or.inr (Or.inr (Or.inr (Or.inr (Or.inr (Or.inr (Or.inl ⟨rfl, rfl⟩))))))))))) | exact mx_out_cl z5 e_m13 (fun j => (Or.inr (Or.inr (Or.inr (Or.inr (Or.inr (Or.inr (Or.inr (Or.inr (Or.inr (Or.inl ⟨rfl, rfl⟩)))))))))))
      obtain rfl := Option.some.inj h
      exact z6
set_option maxRecDepth 20000 in
theorem ZX12_readOr_L14 {rec : Nat → mB → Option (Int32 × mB)} {q0 : Nat} (zrec : ∀ {a : Nat} {m : mB} {r : (Int32 × mB)}, rec a m = some r → mx_out (WSX12_readSaid a) m r.2) : ∀ (f : Nat) {y1 : Int32} {m : mB} {q : ((Int32 × mB) ⊕ (Int32 × mB))}, FX12_readOr_L14 rec q0 f y1 m = some q → mx_out (WSX12_readOr_L14 q0) m (Sum.elim (fun rr => rr.2) (fun u => u.2) q) := by
  intro f
  induction f with
  | zero => intro _ _ _ h; cases h
  | succ f ih =>
    intro y1 m q h
    rw [FX12_readOr_L14] at h
    have z0 : mx_out (WSX12_readOr_L14 q0) m m := mx_out.rf
    obtain ⟨r4, h_r4, h⟩ := Option.bind_eq_some_iff.mp h
    by_cases hc5z : r4 = 0
    · rw [if_pos hc5z] at h
      obtain rfl := Option.some.inj h
      exact z0
    · rw [if_neg hc5z] at h
      obtain ⟨r6, h_r6, h⟩ := Option.bind_eq_some_iff.mp h
      have z1 : mx_out (WSX12_readOr_L14 q0) m r6 := mx_out.tr z0 (mx_out.sub (ZX12_go h_r6) (fun b j hb => (Or.elim hb (fun h0 => (Or.inr (Or.inr (Or.inl h0)))) (fun g0 => (Or.elim g0 (fun h1 => (Or.inr (Or.inr (Or.inr (Or.inr (Or.inl h1)))))) (fun g1 => (Or.elim g1 (fun h2 => (Or.inr (Or.inr (Or.inr (Or.inr (Or.inr (Or.inr (Or.inr (Or.inl h2))))))))) (fun g2 => (Or.elim g2 (fun h3 => (Or.inr (Or.inr (Or.inr (Or.inr (Or.inr (Or.inr (Or.inr (Or.inr (Or.inr (Or.inr (Or.inl h3)))))))))))) (fun g3 => (Or.elim g3 (fun h4 => (Or.inr (Or.inr (Or.inr (Or.inr (Or.inr (Or.inr (Or.inr (Or.inr (Or.inr (Or.inr (Or.inr (Or.inl h4))))))))))))) (fun g4 => (Or.inr (Or.inr (Or.inr (Or.inr (Or.inr (Or.inr (Or.inr (Or.inr (Or.inr (Or.inr (Or.inr (Or.inr (Or.inl g4)))))))))))))))))))))))))
      obtain ⟨r7, h_r7, h⟩ := Option.bind_eq_some_iff.mp h
      have z2 : mx_out (WSX12_readOr_L14 q0) m r7.2 := mx_out.tr z1 (mx_out.sub (ZX12_readAnd zrec h_r7) (fun b j hb => (Or.elim hb (fun h0 => (Or.inl h0)) (fun g0 => (Or.elim g0 (fun h1 => (Or.inr (Or.inl h1))) (fun g1 => (Or.elim g1 (fun h2 => (Or.inr (Or.inr (Or.inl h2)))) (fun g2 => (Or.elim g2 (fun h3 => (Or.inr (Or.inr (Or.inr (Or.inl h3))))) (fun g3 => (Or.elim g3 (fun h4 => (Or.inr (Or.inr (Or.inr (Or.inr (Or.inl h4)))))) (fun g4 => (Or.elim g4 (fun h5 => (Or.inr (Or.inr (Or.inr (Or.inr (Or.inr (Or.inl h5))))))) (fun g5 => (Or.elim g5 (fun h6 => (Or.inr (Or.inr (Or.inr (Or.inr (Or.inr (Or.inr (Or.inl h6)))))))) (fun g6 => (Or.elim g6 (fun h7 => (Or.inr (Or.inr (Or.inr (Or.inr (Or.inr (Or.inr (Or.inr (Or.inl h7))))))))) (fun g7 => (Or.elim g7 (fun h8 => (Or.inr (Or.inr (Or.inr (Or.inr (Or.inr (Or.inr (Or.inr (Or.inr (Or.inl h8)))))))))) (fun g8 => (Or.elim g8 (fun h9 => (Or.inr (Or.inr (Or.inr (Or.inr (Or.inr (Or.inr (Or.inr (Or.inr (Or.inr (Or.inl h9))))))))))) (fun g9 => (Or.elim g9 (fun h10 => (Or.inr (Or.inr (Or.inr (Or.inr (Or.inr (Or.inr (Or.inr (Or.inr (Or.inr (Or.inr (Or.inl h10)))))))))))) (fun g10 => (Or.elim g10 (fun h11 => (Or.inr (Or.inr (Or.inr (Or.inr (Or.inr (Or.inr (Or.inr (Or.inr (Or.inr (Or.inr (Or.inr (Or.inl h11))))))))))))) (fun g11 => (Or.elim g11 (fun h12 => (Or.inr (Or.inr (Or.inr (Or.inr (Or.inr (Or.inr (Or.inr (Or.inr (Or.inr (Or.inr (Or.inr (Or.inr (Or.inl h12)))))))))))))) (fun g12 => (Or.inr (Or.inr (Or.inr (Or.inr (Or.inr (Or.inr (Or.inr (Or.inr (Or.inr (Or.inr (Or.inr (Or.inr (Or.inr g12)))))))))))))))))))))))))))))))))))))))))
      by_cases hc8z : r7.1 = 0
      · rw [if_pos hc8z] at h
        obtain rfl := Option.some.inj h
        exact z2
      · rw [if_neg hc8z] at h
        obtain ⟨r9, h_r9, h⟩ := Option.bind_eq_some_iff.mp h
        have z3 : mx_out (WSX12_readOr_L14 q0) m r9.2 := mx_out.tr z2 (mx_out.sub (ZX12_saysOne h_r9) (fun b j hb => (Or.elim hb (fun h0 => (Or.inr (Or.inr (Or.inr (Or.inr (Or.inr (Or.inl h0))))))) (fun g0 => (Or.inr (Or.inr (Or.inr (Or.inr (Or.inr (Or.inr (Or.inr (Or.inr (Or.inr (Or.inr (Or.inr (Or.inr (Or.inr g0)))))))))))))))))
        exact mx_out.tr z3 (ih h)
set_option maxRecDepth 20000 in
theorem ZX12_readOr {rec : Nat → mB → Option (Int32 × mB)} {a : Nat} {m : mB} {r : (Int32 × mB)} (zrec : ∀ {a : Nat} {m : mB} {r : (Int32 × mB)}, rec a m = some r → mx_out (WSX12_readSaid a) m r.2) (h : FX12_readOr rec a m = some r) : mx_out (WSX12_readOr a) m r.2 := by
  unfold FX12_readOr at h
  have z0 : mx_out (WSX12_readOr a) m m := mx_out.rf
  obtain ⟨r1, h_r1, h⟩ := Option.bind_eq_some_iff.mp h
  have z4 : mx_out (WSX12_readOr a) m r1.2 := mx_out.tr z0 (mx_out.sub (ZX12_readAnd zrec h_r1) (fun b j hb => (Or.elim hb (fun h0 => (Or.inl h0)) (fun g0 => (Or.elim g0 (fun h1 => (Or.inr (Or.inl h1))) (fun g1 => (Or.elim g1 (fun h2 => (Or.inr (Or.inr (Or.inl h2)))) (fun g2 => (Or.elim g2 (fun h3 => (Or.inr (Or.inr (Or.inr (Or.inl h3))))) (fun g3 => (Or.elim g3 (fun h4 => (Or.inr (Or.inr (Or.inr (Or.inr (Or.inl h4)))))) (fun g4 => (Or.elim g4 (fun h5 => (Or.inr (Or.inr (Or.inr (Or.inr (Or.inr (Or.inl h5))))))) (fun g5 => (Or.elim g5 (fun h6 => (Or.inr (Or.inr (Or.inr (Or.inr (Or.inr (Or.inr (Or.inl h6)))))))) (fun g6 => (Or.elim g6 (fun h7 => (Or.inr (Or.inr (Or.inr (Or.inr (Or.inr (Or.inr (Or.inr (Or.inl h7))))))))) (fun g7 => (Or.elim g7 (fun h8 => (Or.inr (Or.inr (Or.inr (Or.inr (Or.inr (Or.inr (Or.inr (Or.inr (Or.inl h8)))))))))) (fun g8 => (Or.elim g8 (fun h9 => (Or.inr (Or.inr (Or.inr (Or.inr (Or.inr (Or.inr (Or.inr (Or.inr (Or.inr (Or.inl h9))))))))))) (fun g9 => (Or.elim g9 (fun h10 => (Or.inr (Or.inr (Or.inr (Or.inr (Or.inr (Or.inr (Or.inr (Or.inr (Or.inr (Or.inr (Or.inl h10)))))))))))) (fun g10 => (Or.elim g10 (fun h11 => (Or.inr (Or.inr (Or.inr (Or.inr (Or.inr (Or.inr (Or.inr (Or.inr (Or.inr (Or.inr (Or.inr (Or.inl h11))))))))))))) (fun g11 => (Or.elim g11 (fun h12 => (Or.inr (Or.inr (Or.inr (Or.inr (Or.inr (Or.inr (Or.inr (Or.inr (Or.inr (Or.inr (Or.inr (Or.inr (Or.inl h12)))))))))))))) (fun g12 => (Or.inr (Or.inr (Or.inr (Or.inr (Or.inr (Or.inr (Or.inr (Or.inr (Or.inr (Or.inr (Or.inr (Or.inr (Or.inr g12)))))))))))))))))))))))))))))))))))))))))
  by_cases hc2z : r1.1 = 0
  · rw [if_pos hc2z] at h
    obtain rfl := Option.some.inj h
    exact z4
  · rw [if_neg hc2z] at h
    obtain ⟨v3, -, h⟩ := mx_letE h
    obtain ⟨q10, h_q10, h⟩ := Option.bind_eq_some_iff.mp h
    have z5 := mx_out.tr z4 (mx_out.sub (S := (WSX12_readOr a)) (ZX12_readOr_L14 zrec mx_FU h_q10) (fun b j hb => (Or.elim hb (fun h0 => (Or.inl h0)) (fun g0 => (Or.elim g0 (fun h1 => (Or.inr (Or.inl h1))) (fun g1 => (Or.elim g1 (fun h2 => (Or.inr (Or.inr (Or.inl h2)))) (fun g2 => (Or.elim g2 (fun h3 => (Or.inr (Or.inr (Or.inr (Or.inl h3))))) (fun g3 => (Or.elim g3 (fun h4 => (Or.inr (Or.inr (Or.inr (Or.inr (Or.inl h4)))))) (fun g4 => (Or.elim g4 (fun h5 => (Or.inr (Or.inr (Or.inr (Or.inr (Or.inr (Or.inl h5))))))) (fun g5 => (Or.elim g5 (fun h6 => (Or.inr (Or.inr (Or.inr (Or.inr (Or.inr (Or.inr (Or.inl h6)))))))) (fun g6 => (Or.elim g6 (fun h7 => (Or.inr (Or.inr (Or.inr (Or.inr (Or.inr (Or.inr (Or.inr (Or.inl h7))))))))) (fun g7 => (Or.elim g7 (fun h8 => (Or.inr (Or.inr (Or.inr (Or.inr (Or.inr (Or.inr (Or.inr (Or.inr (Or.inl h8)))))))))) (fun g8 => (Or.elim g8 (fun h9 => (Or.inr (Or.inr (Or.inr (Or.inr (Or.inr (Or.inr (Or.inr (Or.inr (Or.inr (Or.inl h9))))))))))) (fun g9 => (Or.elim g9 (fun h10 => (Or.inr (Or.inr (Or.inr (Or.inr (Or.inr (Or.inr (Or.inr (Or.inr (Or.inr (Or.inr (Or.inl h10)))))))))))) (fun g10 => (Or.elim g10 (fun h11 => (Or.inr (Or.inr (Or.inr (Or.inr (Or.inr (Or.inr (Or.inr (Or.inr (Or.inr (Or.inr (Or.inr (Or.inl h11))))))))))))) (fun g11 => (Or.elim g11 (fun h12 => (Or.inr (Or.inr (Or.inr (Or.inr (Or.inr (Or.inr (Or.inr (Or.inr (Or.inr (Or.inr (Or.inr (Or.inr (Or.inl h12)))))))))))))) (fun g12 => (Or.inr (Or.inr (Or.inr (Or.inr (Or.inr (Or.inr (Or.inr (Or.inr (Or.inr (Or.inr (Or.inr (Or.inr (Or.inr g12)))))))))))))))))))))))))))))))))))))))))
    rcases q10 with rr12 | u11
    · rw [Sum.elim_inl] at h
      obtain rfl := Option.some.inj h
      exact z5
    · rw [Sum.elim_inr] at h
      obtain ⟨m13, e_m13, h⟩ := mx_letE h
      have z6 : mx_out (WSX12_readOr a) m m13 := by first | exact mx_out_up z5 e_m13 (Or.inr (Or.inr (Or.inr (Or.inr (Or.inr (Or.inr (Or.inr (Or.inr (Or.inr (Or.inl ⟨rfl, rfl⟩)))))))))) | exact mx_out_ul z5 e_m13 (Or.inr (Or.inr (Or.inr (Or.inr (Or.inr (Or.inr (Or.inr (Or.inr (Or.inr (Or.inl ⟨rfl, rfl⟩)))))))))) | exact mx_out_cp z5 e_m13 (fun j => (Or.inr (Or.inr (Or.inr (Or.inr (Or.inr (Or.inr (Or.inr (Or.inr (Or.inr (Or.inl ⟨rfl, rfl⟩))))))))))) | exact mx_out_cl z5 e_m13 (fun j => (Or.inr (Or.inr (Or.inr (Or.inr (Or.inr (Or.inr (Or.inr (Or.inr (Or.inr (Or.inl ⟨rfl, rfl⟩)))))))))))
      obtain rfl := Option.some.inj h
      exact z6
set_option maxRecDepth 20000 in
theorem ZX12_readBracket {rec : Nat → mB → Option (Int32 × mB)} {a : Nat} {m : mB} {r : (Int32 × mB)} (zrec : ∀ {a : Nat} {m : mB} {r : (Int32 × mB)}, rec a m = some r → mx_out (WSX12_readSaid a) m r.2) (h : FX12_readBracket rec a m = some r) : mx_out (WSX12_readBracket a) m r.2 := by
  unfold FX12_readBracket at h
  have z0 : mx_out (WSX12_readBracket a) m m := mx_out.rf
  obtain ⟨r1, h_r1, h⟩ := Option.bind_eq_some_iff.mp h
  have z1 : mx_out (WSX12_readBracket a) m r1.2 := mx_out.tr z0 (mx_out.sub (ZX12_readOr zrec h_r1) (fun b j hb => (Or.elim hb (fun h0 => (Or.inl h0)) (fun g0 => (Or.elim g0 (fun h1 => (Or.inr (Or.inl h1))) (fun g1 => (Or.elim g1 (fun h2 => (Or.inr (Or.inr (Or.inl h2)))) (fun g2 => (Or.elim g2 (fun h3 => (Or.inr (Or.inr (Or.inr (Or.inl h3))))) (fun g3 => (Or.elim g3 (fun h4 => (Or.inr (Or.inr (Or.inr (Or.inr (Or.inl h4)))))) (fun g4 => (Or.elim g4 (fun h5 => (Or.inr (Or.inr (Or.inr (Or.inr (Or.inr (Or.inl h5))))))) (fun g5 => (Or.elim g5 (fun h6 => (Or.inr (Or.inr (Or.inr (Or.inr (Or.inr (Or.inr (Or.inl h6)))))))) (fun g6 => (Or.elim g6 (fun h7 => (Or.inr (Or.inr (Or.inr (Or.inr (Or.inr (Or.inr (Or.inr (Or.inl h7))))))))) (fun g7 => (Or.elim g7 (fun h8 => (Or.inr (Or.inr (Or.inr (Or.inr (Or.inr (Or.inr (Or.inr (Or.inr (Or.inl h8)))))))))) (fun g8 => (Or.elim g8 (fun h9 => (Or.inr (Or.inr (Or.inr (Or.inr (Or.inr (Or.inr (Or.inr (Or.inr (Or.inr (Or.inl h9))))))))))) (fun g9 => (Or.elim g9 (fun h10 => (Or.inr (Or.inr (Or.inr (Or.inr (Or.inr (Or.inr (Or.inr (Or.inr (Or.inr (Or.inr (Or.inl h10)))))))))))) (fun g10 => (Or.elim g10 (fun h11 => (Or.inr (Or.inr (Or.inr (Or.inr (Or.inr (Or.inr (Or.inr (Or.inr (Or.inr (Or.inr (Or.inr (Or.inl h11))))))))))))) (fun g11 => (Or.elim g11 (fun h12 => (Or.inr (Or.inr (Or.inr (Or.inr (Or.inr (Or.inr (Or.inr (Or.inr (Or.inr (Or.inr (Or.inr (Or.inr (Or.inl h12)))))))))))))) (fun g12 => (Or.inr (Or.inr (Or.inr (Or.inr (Or.inr (Or.inr (Or.inr (Or.inr (Or.inr (Or.inr (Or.inr (Or.inr (Or.inr g12)))))))))))))))))))))))))))))))))))))))))
  by_cases hc2z : r1.1 = 0
  · rw [if_pos hc2z] at h
    obtain rfl := Option.some.inj h
    exact z1
  · rw [if_neg hc2z] at h
    obtain ⟨r3, h_r3, h⟩ := Option.bind_eq_some_iff.mp h
    by_cases hc4z : r3 = 0
    · rw [if_pos hc4z] at h
      obtain ⟨r6, h_r6, h⟩ := Option.bind_eq_some_iff.mp h
      have z2 : mx_out (WSX12_readBracket a) m r6.2 := mx_out.tr z1 (mx_out.sub (ZX12_bad h_r6) (fun b j hb => (Or.elim hb (fun h0 => (Or.inl h0)) (fun g0 => (Or.inr (Or.inl g0))))))
      obtain ⟨-, h⟩ := mx_chkE h
      obtain rfl := Option.some.inj h
      exact z2
    · rw [if_neg hc4z] at h
      obtain ⟨r5, h_r5, h⟩ := Option.bind_eq_some_iff.mp h
      have z3 : mx_out (WSX12_readBracket a) m r5 := mx_out.tr z1 (mx_out.sub (ZX12_go h_r5) (fun b j hb => (Or.elim hb (fun h0 => (Or.inr (Or.inr (Or.inl h0)))) (fun g0 => (Or.elim g0 (fun h1 => (Or.inr (Or.inr (Or.inr (Or.inr (Or.inl h1)))))) (fun g1 => (Or.elim g1 (fun h2 => (Or.inr (Or.inr (Or.inr (Or.inr (Or.inr (Or.inr (Or.inr (Or.inl h2))))))))) (fun g2 => (Or.elim g2 (fun h3 => (Or.inr (Or.inr (Or.inr (Or.inr (Or.inr (Or.inr (Or.inr (Or.inr (Or.inr (Or.inr (Or.inl h3)))))))))))) (fun g3 => (Or.elim g3 (fun h4 => (Or.inr (Or.inr (Or.inr (Or.inr (Or.inr (Or.inr (Or.inr (Or.inr (Or.inr (Or.inr (Or.inr (Or.inl h4))))))))))))) (fun g4 => (Or.inr (Or.inr (Or.inr (Or.inr (Or.inr (Or.inr (Or.inr (Or.inr (Or.inr (Or.inr (Or.inr (Or.inr (Or.inl g4)))))))))))))))))))))))))
      obtain rfl := Option.some.inj h
      exact z3
set_option maxRecDepth 20000 in
theorem ZX12_readNot {rec : Nat → mB → Option (Int32 × mB)} {a : Nat} {m : mB} {r : (Int32 × mB)} (zrec : ∀ {a : Nat} {m : mB} {r : (Int32 × mB)}, rec a m = some r → mx_out (WSX12_readSaid a) m r.2) (h : FX12_readNot rec a m = some r) : mx_out (WSX12_readNot a) m r.2 := by
  unfold FX12_readNot at h
  have z0 : mx_out (WSX12_readNot a) m m := mx_out.rf
  obtain ⟨r1, h_r1, h⟩ := Option.bind_eq_some_iff.mp h
  have z1 : mx_out (WSX12_readNot a) m r1.2 := mx_out.tr z0 (mx_out.sub (zrec h_r1) (fun b j hb => (Or.elim hb (fun h0 => (Or.inl h0)) (fun g0 => (Or.elim g0 (fun h1 => (Or.inr (Or.inl h1))) (fun g1 => (Or.elim g1 (fun h2 => (Or.inr (Or.inr (Or.inl h2)))) (fun g2 => (Or.elim g2 (fun h3 => (Or.inr (Or.inr (Or.inr (Or.inl h3))))) (fun g3 => (Or.elim g3 (fun h4 => (Or.inr (Or.inr (Or.inr (Or.inr (Or.inl h4)))))) (fun g4 => (Or.elim g4 (fun h5 => (Or.inr (Or.inr (Or.inr (Or.inr (Or.inr (Or.inl h5))))))) (fun g5 => (Or.elim g5 (fun h6 => (Or.inr (Or.inr (Or.inr (Or.inr (Or.inr (Or.inr (Or.inl h6)))))))) (fun g6 => (Or.elim g6 (fun h7 => (Or.inr (Or.inr (Or.inr (Or.inr (Or.inr (Or.inr (Or.inr (Or.inl h7))))))))) (fun g7 => (Or.elim g7 (fun h8 => (Or.inr (Or.inr (Or.inr (Or.inr (Or.inr (Or.inr (Or.inr (Or.inr (Or.inl h8)))))))))) (fun g8 => (Or.elim g8 (fun h9 => (Or.inr (Or.inr (Or.inr (Or.inr (Or.inr (Or.inr (Or.inr (Or.inr (Or.inr (Or.inl h9))))))))))) (fun g9 => (Or.elim g9 (fun h10 => (Or.inr (Or.inr (Or.inr (Or.inr (Or.inr (Or.inr (Or.inr (Or.inr (Or.inr (Or.inr (Or.inl h10)))))))))))) (fun g10 => (Or.elim g10 (fun h11 => (Or.inr (Or.inr (Or.inr (Or.inr (Or.inr (Or.inr (Or.inr (Or.inr (Or.inr (Or.inr (Or.inr (Or.inl h11))))))))))))) (fun g11 => (Or.elim g11 (fun h12 => (Or.inr (Or.inr (Or.inr (Or.inr (Or.inr (Or.inr (Or.inr (Or.inr (Or.inr (Or.inr (Or.inr (Or.inr (Or.inl h12)))))))))))))) (fun g12 => (Or.inr (Or.inr (Or.inr (Or.inr (Or.inr (Or.inr (Or.inr (Or.inr (Or.inr (Or.inr (Or.inr (Or.inr (Or.inr g12)))))))))))))))))))))))))))))))))))))))))
  by_cases hc2z : r1.1 = 0
  · rw [if_pos hc2z] at h
    obtain rfl := Option.some.inj h
    exact z1
  · rw [if_neg hc2z] at h
    obtain ⟨r3, h_r3, h⟩ := Option.bind_eq_some_iff.mp h
    have z2 : mx_out (WSX12_readNot a) m r3.2 := mx_out.tr z1 (mx_out.sub (ZX12_saysOne h_r3) (fun b j hb => (Or.elim hb (fun h0 => (Or.inr (Or.inr (Or.inr (Or.inr (Or.inr (Or.inl h0))))))) (fun g0 => (Or.inr (Or.inr (Or.inr (Or.inr (Or.inr (Or.inr (Or.inr (Or.inr (Or.inr (Or.inr (Or.inr (Or.inr (Or.inr g0)))))))))))))))))
    obtain ⟨m4, e_m4, h⟩ := mx_letE h
    have z3 : mx_out (WSX12_readNot a) m m4 := by first | exact mx_out_up z2 e_m4 (Or.inr (Or.inr (Or.inr (Or.inr (Or.inr (Or.inr (Or.inr (Or.inr (Or.inr (Or.inl ⟨rfl, rfl⟩)))))))))) | exact mx_out_ul z2 e_m4 (Or.inr (Or.inr (Or.inr (Or.inr (Or.inr (Or.inr (Or.inr (Or.inr (Or.inr (Or.inl ⟨rfl, rfl⟩)))))))))) | exact mx_out_cp z2 e_m4 (fun j => (Or.inr (Or.inr (Or.inr (Or.inr (Or.inr (Or.inr (Or.inr (Or.inr (Or.inr (Or.inl ⟨rfl, rfl⟩))))))))))) | exact mx_out_cl z2 e_m4 (fun j => (Or.inr (Or.inr (Or.inr (Or.inr (Or.inr (Or.inr (Or.inr (Or.inr (Or.inr (Or.inl ⟨rfl, rfl⟩)))))))))))
    obtain rfl := Option.some.inj h
    exact z3
set_option maxRecDepth 20000 in
theorem ZX12_readOf {a : Nat} {x0 : Int32} {m : mB} {r : (Int32 × mB)} (h : FX12_readOf a x0 m = some r) : mx_out (WSX12_readOf a) m r.2 := by
  unfold FX12_readOf at h
  have z0 : mx_out (WSX12_readOf a) m m := mx_out.rf
  obtain ⟨r1, h_r1, h⟩ := Option.bind_eq_some_iff.mp h
  have z1 : mx_out (WSX12_readOf a) m r1.2 := mx_out.tr z0 (mx_out.sub (ZX12_readThat h_r1) (fun b j hb => (Or.elim hb (fun h0 => (Or.inl h0)) (fun g0 => (Or.elim g0 (fun h1 => (Or.inr (Or.inl h1))) (fun g1 => (Or.elim g1 (fun h2 => (Or.inr (Or.inr (Or.inl h2)))) (fun g2 => (Or.elim g2 (fun h3 => (Or.inr (Or.inr (Or.inr (Or.inl h3))))) (fun g3 => (Or.elim g3 (fun h4 => (Or.inr (Or.inr (Or.inr (Or.inr (Or.inl h4)))))) (fun g4 => (Or.elim g4 (fun h5 => (Or.inr (Or.inr (Or.inr (Or.inr (Or.inr (Or.inr (Or.inl h5)))))))) (fun g5 => (Or.elim g5 (fun h6 => (Or.inr (Or.inr (Or.inr (Or.inr (Or.inr (Or.inr (Or.inr (Or.inr (Or.inl h6)))))))))) (fun g6 => (Or.elim g6 (fun h7 => (Or.inr (Or.inr (Or.inr (Or.inr (Or.inr (Or.inr (Or.inr (Or.inr (Or.inr (Or.inl h7))))))))))) (fun g7 => (Or.inr (Or.inr (Or.inr (Or.inr (Or.inr (Or.inr (Or.inr (Or.inr (Or.inr (Or.inr (Or.inl g7)))))))))))))))))))))))))))))
  by_cases hc2z : r1.1 = 0
  · rw [if_pos hc2z] at h
    obtain rfl := Option.some.inj h
    exact z1
  · rw [if_neg hc2z] at h
    obtain ⟨r3, h_r3, h⟩ := Option.bind_eq_some_iff.mp h
    have z2 : mx_out (WSX12_readOf a) m r3.2 := mx_out.tr z1 (mx_out.sub (ZX12_saysOne h_r3) (fun b j hb => (Or.elim hb (fun h0 => (Or.inr (Or.inr (Or.inr (Or.inr (Or.inr (Or.inl h0))))))) (fun g0 => (Or.inr (Or.inr (Or.inr (Or.inr (Or.inr (Or.inr (Or.inr (Or.inr (Or.inr (Or.inr (Or.inr g0)))))))))))))))
    obtain ⟨m4, e_m4, h⟩ := mx_letE h
    have z3 : mx_out (WSX12_readOf a) m m4 := by first | exact mx_out_up z2 e_m4 (Or.inr (Or.inr (Or.inr (Or.inr (Or.inr (Or.inr (Or.inr (Or.inl ⟨rfl, rfl⟩)))))))) | exact mx_out_ul z2 e_m4 (Or.inr (Or.inr (Or.inr (Or.inr (Or.inr (Or.inr (Or.inr (Or.inl ⟨rfl, rfl⟩)))))))) | exact mx_out_cp z2 e_m4 (fun j => (Or.inr (Or.inr (Or.inr (Or.inr (Or.inr (Or.inr (Or.inr (Or.inl ⟨rfl, rfl⟩))))))))) | exact mx_out_cl z2 e_m4 (fun j => (Or.inr (Or.inr (Or.inr (Or.inr (Or.inr (Or.inr (Or.inr (Or.inl ⟨rfl, rfl⟩)))))))))
    obtain rfl := Option.some.inj h
    exact z3
set_option maxRecDepth 20000 in
theorem ZX12_readCompare {a : Nat} {x0 : Int32} {m : mB} {r : (Int32 × mB)} (h : FX12_readCompare a x0 m = some r) : mx_out (WSX12_readCompare a) m r.2 := by
  unfold FX12_readCompare at h
  have z0 : mx_out (WSX12_readCompare a) m m := mx_out.rf
  obtain ⟨r1, h_r1, h⟩ := Option.bind_eq_some_iff.mp h
  refine mx_letK (J := fun k4 => ∀ {m3 : mB}, k4 m3 = some r → mx_out (WSX12_readCompare a) m m3 → mx_out (WSX12_readCompare a) m r.2) h ?_ (fun k4 z_k4 h => ?_)
  · intro m3 h z1
    dsimp only at h
    obtain ⟨v5, -, h⟩ := mx_letE h
    obtain ⟨r6, h_r6, h⟩ := Option.bind_eq_some_iff.mp h
    have z2 : mx_out (WSX12_readCompare a) m r6 := mx_out.tr z1 (mx_out.sub (ZX12_go h_r6) (fun b j hb => (Or.elim hb (fun h0 => (Or.inr (Or.inr (Or.inl h0)))) (fun g0 => (Or.elim g0 (fun h1 => (Or.inr (Or.inr (Or.inr (Or.inr (Or.inl h1)))))) (fun g1 => (Or.elim g1 (fun h2 => (Or.inr (Or.inr (Or.inr (Or.inr (Or.inr (Or.inr (Or.inl h2)))))))) (fun g2 => (Or.elim g2 (fun h3 => (Or.inr (Or.inr (Or.inr (Or.inr (Or.inr (Or.inr (Or.inr (Or.inr (Or.inl h3)))))))))) (fun g3 => (Or.elim g3 (fun h4 => (Or.inr (Or.inr (Or.inr (Or.inr (Or.inr (Or.inr (Or.inr (Or.inr (Or.inr (Or.inl h4))))))))))) (fun g4 => (Or.inr (Or.inr (Or.inr (Or.inr (Or.inr (Or.inr (Or.inr (Or.inr (Or.inr (Or.inr (Or.inl g4)))))))))))))))))))))))
    obtain ⟨r7, h_r7, h⟩ := Option.bind_eq_some_iff.mp h
    have z3 : mx_out (WSX12_readCompare a) m r7.2 := mx_out.tr z2 (mx_out.sub (ZX12_readNumber h_r7) (fun b j hb => (Or.elim hb (fun h0 => (Or.inl h0)) (fun g0 => (Or.elim g0 (fun h1 => (Or.inr (Or.inl h1))) (fun g1 => (Or.elim g1 (fun h2 => (Or.inr (Or.inr (Or.inl h2)))) (fun g2 => (Or.elim g2 (fun h3 => (Or.inr (Or.inr (Or.inr (Or.inl h3))))) (fun g3 => (Or.elim g3 (fun h4 => (Or.inr (Or.inr (Or.inr (Or.inr (Or.inl h4)))))) (fun g4 => (Or.elim g4 (fun h5 => (Or.inr (Or.inr (Or.inr (Or.inr (Or.inr (Or.inr (Or.inl h5)))))))) (fun g5 => (Or.elim g5 (fun h6 => (Or.inr (Or.inr (Or.inr (Or.inr (Or.inr (Or.inr (Or.inr (Or.inr (Or.inl h6)))))))))) (fun g6 => (Or.elim g6 (fun h7 => (Or.inr (Or.inr (Or.inr (Or.inr (Or.inr (Or.inr (Or.inr (Or.inr (Or.inr (Or.inl h7))))))))))) (fun g7 => (Or.inr (Or.inr (Or.inr (Or.inr (Or.inr (Or.inr (Or.inr (Or.inr (Or.inr (Or.inr (Or.inl g7)))))))))))))))))))))))))))))
    by_cases hc8z : r7.1 = 0
    · rw [if_pos hc8z] at h
      obtain rfl := Option.some.inj h
      exact z3
    · rw [if_neg hc8z] at h
      obtain ⟨r9, h_r9, h⟩ := Option.bind_eq_some_iff.mp h
      have z4 : mx_out (WSX12_readCompare a) m r9.2 := mx_out.tr z3 (mx_out.sub (ZX12_saysOne h_r9) (fun b j hb => (Or.elim hb (fun h0 => (Or.inr (Or.inr (Or.inr (Or.inr (Or.inr (Or.inl h0))))))) (fun g0 => (Or.inr (Or.inr (Or.inr (Or.inr (Or.inr (Or.inr (Or.inr (Or.inr (Or.inr (Or.inr (Or.inr g0)))))))))))))))
      obtain ⟨m10, e_m10, h⟩ := mx_letE h
      have z5 : mx_out (WSX12_readCompare a) m m10 := by first | exact mx_out_up z4 e_m10 (Or.inr (Or.inr (Or.inr (Or.inr (Or.inr (Or.inr (Or.inr (Or.inl ⟨rfl, rfl⟩)))))))) | exact mx_out_ul z4 e_m10 (Or.inr (Or.inr (Or.inr (Or.inr (Or.inr (Or.inr (Or.inr (Or.inl ⟨rfl, rfl⟩)))))))) | exact mx_out_cp z4 e_m10 (fun j => (Or.inr (Or.inr (Or.inr (Or.inr (Or.inr (Or.inr (Or.inr (Or.inl ⟨rfl, rfl⟩))))))))) | exact mx_out_cl z4 e_m10 (fun j => (Or.inr (Or.inr (Or.inr (Or.inr (Or.inr (Or.inr (Or.inr (Or.inl ⟨rfl, rfl⟩)))))))))
      obtain rfl := Option.some.inj h
      exact z5
  by_cases hc2z : r1 = 0
  · rw [if_pos hc2z] at h
    obtain ⟨r11, h_r11, h⟩ := Option.bind_eq_some_iff.mp h
    by_cases hc12z : r11 = 0
    · rw [if_pos hc12z] at h
      obtain ⟨r13, h_r13, h⟩ := Option.bind_eq_some_iff.mp h
      by_cases hc14z : r13 = 0
      · rw [if_pos hc14z] at h
        obtain ⟨r15, h_r15, h⟩ := Option.bind_eq_some_iff.mp h
        have z6 : mx_out (WSX12_readCompare a) m r15.2 := mx_out.tr z0 (mx_out.sub (ZX12_bad h_r15) (fun b j hb => (Or.elim hb (fun h0 => (Or.inl h0)) (fun g0 => (Or.inr (Or.inl g0))))))
        obtain ⟨-, h⟩ := mx_chkE h
        obtain rfl := Option.some.inj h
        exact z6
      · rw [if_neg hc14z] at h
        exact z_k4 h z0
    · rw [if_neg hc12z] at h
      exact z_k4 h z0
  · rw [if_neg hc2z] at h
    exact z_k4 h z0
set_option maxRecDepth 20000 in
theorem ZX12_readSaid_B {rec : Nat → mB → Option (Int32 × mB)} {a : Nat} {m : mB} {r : (Int32 × mB)} (zrec : ∀ {a : Nat} {m : mB} {r : (Int32 × mB)}, rec a m = some r → mx_out (WSX12_readSaid a) m r.2) (h : FX12_readSaid_B rec a m = some r) : mx_out (WSX12_readSaid a) m r.2 := by
  unfold FX12_readSaid_B at h
  have z0 : mx_out (WSX12_readSaid a) m m := mx_out.rf
  obtain ⟨r1, h_r1, h⟩ := Option.bind_eq_some_iff.mp h
  obtain ⟨q6, h_q6, h⟩ := Option.bind_eq_some_iff.mp h
  refine mx_letK (J := fun k9 => ∀ {m8 : mB}, k9 m8 = some r → mx_out (WSX12_readSaid a) m m8 → mx_out (WSX12_readSaid a) m r.2) h ?_ (fun k9 z_k9 h => ?_)
  · intro m8 h z1
    dsimp only at h
    by_cases hc10z : (m8.1 a 59) = 20
    · rw [if_pos hc10z] at h
      obtain ⟨r11, h_r11, h⟩ := Option.bind_eq_some_iff.mp h
      have z2 : mx_out (WSX12_readSaid a) m r11.2 := mx_out.tr z1 (mx_out.sub (ZX12_bad h_r11) (fun b j hb => (Or.elim hb (fun h0 => (Or.inl h0)) (fun g0 => (Or.inr (Or.inl g0))))))
      obtain ⟨-, h⟩ := mx_chkE h
      obtain rfl := Option.some.inj h
      exact z2
    · rw [if_neg hc10z] at h
      by_cases hc13z : (m8.1 a 60) = 8
      · rw [if_pos hc13z] at h
        obtain ⟨r32, h_r32, h⟩ := Option.bind_eq_some_iff.mp h
        have z3 : mx_out (WSX12_readSaid a) m r32.2 := mx_out.tr z1 (mx_out.sub (ZX12_bad h_r32) (fun b j hb => (Or.elim hb (fun h0 => (Or.inl h0)) (fun g0 => (Or.inr (Or.inl g0))))))
        obtain ⟨-, h⟩ := mx_chkE h
        obtain rfl := Option.some.inj h
        exact z3
      · rw [if_neg hc13z] at h
        obtain ⟨m14, e_m14, h⟩ := mx_letE h
        have z4 : mx_out (WSX12_readSaid a) m m14 := by first | exact mx_out_up z1 e_m14 (Or.inr (Or.inr (Or.inr (Or.inr (Or.inr (Or.inr (Or.inl ⟨rfl, rfl⟩))))))) | exact mx_out_ul z1 e_m14 (Or.inr (Or.inr (Or.inr (Or.inr (Or.inr (Or.inr (Or.inl ⟨rfl, rfl⟩))))))) | exact mx_out_cp z1 e_m14 (fun j => (Or.inr (Or.inr (Or.inr (Or.inr (Or.inr (Or.inr (Or.inl ⟨rfl, rfl⟩)))))))) | exact mx_out_cl z1 e_m14 (fun j => (Or.inr (Or.inr (Or.inr (Or.inr (Or.inr (Or.inr (Or.inl ⟨rfl, rfl⟩))))))))
        obtain ⟨m15, e_m15, h⟩ := mx_letE h
        have z5 : mx_out (WSX12_readSaid a) m m15 := by first | exact mx_out_up z4 e_m15 (Or.inr (Or.inr (Or.inr (Or.inr (Or.inr (Or.inr (Or.inr (Or.inr (Or.inl ⟨rfl, rfl⟩))))))))) | exact mx_out_ul z4 e_m15 (Or.inr (Or.inr (Or.inr (Or.inr (Or.inr (Or.inr (Or.inr (Or.inr (Or.inl ⟨rfl, rfl⟩))))))))) | exact mx_out_cp z4 e_m15 (fun j => (Or.inr (Or.inr (Or.inr (Or.inr (Or.inr (Or.inr (Or.inr (Or.inr (Or.inl ⟨rfl, rfl⟩)))))))))) | exact mx_out_cl z4 e_m15 (fun j => (Or.inr (Or.inr (Or.inr (Or.inr (Or.inr (Or.inr (Or.inr (Or.inr (Or.inl ⟨rfl, rfl⟩))))))))))
        obtain ⟨r16, h_r16, h⟩ := Option.bind_eq_some_iff.mp h
        have z6 : mx_out (WSX12_readSaid a) m r16 := mx_out.tr z5 (mx_out.sub (ZX12_go h_r16) (fun b j hb => (Or.elim hb (fun h0 => (Or.inr (Or.inr (Or.inl h0)))) (fun g0 => (Or.elim g0 (fun h1 => (Or.inr (Or.inr (Or.inr (Or.inr (Or.inl h1)))))) (fun g1 => (Or.elim g1 (fun h2 => (Or.inr (Or.inr (Or.inr (Or.inr (Or.inr (Or.inr (Or.inr (Or.inl h2))))))))) (fun g2 => (Or.elim g2 (fun h3 => (Or.inr (Or.inr (Or.inr (Or.inr (Or.inr (Or.inr (Or.inr (Or.inr (Or.inr (Or.inr (Or.inl h3)))))))))))) (fun g3 => (Or.elim g3 (fun h4 => (Or.inr (Or.inr (Or.inr (Or.inr (Or.inr (Or.inr (Or.inr (Or.inr (Or.inr (Or.inr (Or.inr (Or.inl h4))))))))))))) (fun g4 => (Or.inr (Or.inr (Or.inr (Or.inr (Or.inr (Or.inr (Or.inr (Or.inr (Or.inr (Or.inr (Or.inr (Or.inr (Or.inl g4)))))))))))))))))))))))))
        refine mx_letK (J := fun k20 => ∀ {y18 : Int32} {m19 : mB}, k20 y18 m19 = some r → mx_out (WSX12_readSaid a) m m19 → mx_out (WSX12_readSaid a) m r.2) h ?_ (fun k20 z_k20 h => ?_)
        · intro y18 m19 h z7
          dsimp only at h
          obtain ⟨m21, e_m21, h⟩ := mx_letE h
          have z8 : mx_out (WSX12_readSaid a) m m21 := by first | exact mx_out_up z7 e_m21 (Or.inr (Or.inr (Or.inr (Or.inr (Or.inr (Or.inr (Or.inr (Or.inr (Or.inl ⟨rfl, rfl⟩))))))))) | exact mx_out_ul z7 e_m21 (Or.inr (Or.inr (Or.inr (Or.inr (Or.inr (Or.inr (Or.inr (Or.inr (Or.inl ⟨rfl, rfl⟩))))))))) | exact mx_out_cp z7 e_m21 (fun j => (Or.inr (Or.inr (Or.inr (Or.inr (Or.inr (Or.inr (Or.inr (Or.inr (Or.inl ⟨rfl, rfl⟩)))))))))) | exact mx_out_cl z7 e_m21 (fun j => (Or.inr (Or.inr (Or.inr (Or.inr (Or.inr (Or.inr (Or.inr (Or.inr (Or.inl ⟨rfl, rfl⟩))))))))))
          obtain ⟨-, h⟩ := mx_chkE h
          obtain rfl := Option.some.inj h
          exact z8
        by_cases hc17z : r1 = 0
        · rw [if_pos hc17z] at h
          by_cases hc23z : q6 = 12
          · rw [if_pos hc23z] at h
            obtain ⟨r30, h_r30, h⟩ := Option.bind_eq_some_iff.mp h
            have z9 : mx_out (WSX12_readSaid a) m r30.2 := mx_out.tr z6 (mx_out.sub (ZX12_readNot zrec h_r30) (fun b j hb => (Or.elim hb (fun h0 => (Or.inl h0)) (fun g0 => (Or.elim g0 (fun h1 => (Or.inr (Or.inl h1))) (fun g1 => (Or.elim g1 (fun h2 => (Or.inr (Or.inr (Or.inl h2)))) (fun g2 => (Or.elim g2 (fun h3 => (Or.inr (Or.inr (Or.inr (Or.inl h3))))) (fun g3 => (Or.elim g3 (fun h4 => (Or.inr (Or.inr (Or.inr (Or.inr (Or.inl h4)))))) (fun g4 => (Or.elim g4 (fun h5 => (Or.inr (Or.inr (Or.inr (Or.inr (Or.inr (Or.inl h5))))))) (fun g5 => (Or.elim g5 (fun h6 => (Or.inr (Or.inr (Or.inr (Or.inr (Or.inr (Or.inr (Or.inl h6)))))))) (fun g6 => (Or.elim g6 (fun h7 => (Or.inr (Or.inr (Or.inr (Or.inr (Or.inr (Or.inr (Or.inr (Or.inl h7))))))))) (fun g7 => (Or.elim g7 (fun h8 => (Or.inr (Or.inr (Or.inr (Or.inr (Or.inr (Or.inr (Or.inr (Or.inr (Or.inl h8)))))))))) (fun g8 => (Or.elim g8 (fun h9 => (Or.inr (Or.inr (Or.inr (Or.inr (Or.inr (Or.inr (Or.inr (Or.inr (Or.inr (Or.inl h9))))))))))) (fun g9 => (Or.elim g9 (fun h10 => (Or.inr (Or.inr (Or.inr (Or.inr (Or.inr (Or.inr (Or.inr (Or.inr (Or.inr (Or.inr (Or.inl h10)))))))))))) (fun g10 => (Or.elim g10 (fun h11 => (Or.inr (Or.inr (Or.inr (Or.inr (Or.inr (Or.inr (Or.inr (Or.inr (Or.inr (Or.inr (Or.inr (Or.inl h11))))))))))))) (fun g11 => (Or.elim g11 (fun h12 => (Or.inr (Or.inr (Or.inr (Or.inr (Or.inr (Or.inr (Or.inr (Or.inr (Or.inr (Or.inr (Or.inr (Or.inr (Or.inl h12)))))))))))))) (fun g12 => (Or.inr (Or.inr (Or.inr (Or.inr (Or.inr (Or.inr (Or.inr (Or.inr (Or.inr (Or.inr (Or.inr (Or.inr (Or.inr g12)))))))))))))))))))))))))))))))))))))))))
            exact z_k20 h z9
          · rw [if_neg hc23z] at h
            by_cases hc24z : 15 ≤ q6
            · rw [if_pos hc24z] at h
              by_cases hc25z : 18 ≤ q6
              · rw [if_pos hc25z] at h
                obtain ⟨r26, h_r26, h⟩ := Option.bind_eq_some_iff.mp h
                have z10 : mx_out (WSX12_readSaid a) m r26.2 := mx_out.tr z6 (mx_out.sub (ZX12_readCompare h_r26) (fun b j hb => (Or.elim hb (fun h0 => (Or.inl h0)) (fun g0 => (Or.elim g0 (fun h1 => (Or.inr (Or.inl h1))) (fun g1 => (Or.elim g1 (fun h2 => (Or.inr (Or.inr (Or.inl h2)))) (fun g2 => (Or.elim g2 (fun h3 => (Or.inr (Or.inr (Or.inr (Or.inl h3))))) (fun g3 => (Or.elim g3 (fun h4 => (Or.inr (Or.inr (Or.inr (Or.inr (Or.inl h4)))))) (fun g4 => (Or.elim g4 (fun h5 => (Or.inr (Or.inr (Or.inr (Or.inr (Or.inr (Or.inl h5))))))) (fun g5 => (Or.elim g5 (fun h6 => (Or.inr (Or.inr (Or.inr (Or.inr (Or.inr (Or.inr (Or.inr (Or.inl h6))))))))) (fun g6 => (Or.elim g6 (fun h7 => (Or.inr (Or.inr (Or.inr (Or.inr (Or.inr (Or.inr (Or.inr (Or.inr (Or.inr (Or.inl h7))))))))))) (fun g7 => (Or.elim g7 (fun h8 => (Or.inr (Or.inr (Or.inr (Or.inr (Or.inr (Or.inr (Or.inr (Or.inr (Or.inr (Or.inr (Or.inl h8)))))))))))) (fun g8 => (Or.elim g8 (fun h9 => (Or.inr (Or.inr (Or.inr (Or.inr (Or.inr (Or.inr (Or.inr (Or.inr (Or.inr (Or.inr (Or.inr (Or.inl h9))))))))))))) (fun g9 => (Or.elim g9 (fun h10 => (Or.inr (Or.inr (Or.inr (Or.inr (Or.inr (Or.inr (Or.inr (Or.inr (Or.inr (Or.inr (Or.inr (Or.inr (Or.inl h10)))))))))))))) (fun g10 => (Or.inr (Or.inr (Or.inr (Or.inr (Or.inr (Or.inr (Or.inr (Or.inr (Or.inr (Or.inr (Or.inr (Or.inr (Or.inr g10)))))))))))))))))))))))))))))))))))))
                exact z_k20 h z10
              · rw [if_neg hc25z] at h
                obtain ⟨r27, h_r27, h⟩ := Option.bind_eq_some_iff.mp h
                have z11 : mx_out (WSX12_readSaid a) m r27.2 := mx_out.tr z6 (mx_out.sub (ZX12_readOf h_r27) (fun b j hb => (Or.elim hb (fun h0 => (Or.inl h0)) (fun g0 => (Or.elim g0 (fun h1 => (Or.inr (Or.inl h1))) (fun g1 => (Or.elim g1 (fun h2 => (Or.inr (Or.inr (Or.inl h2)))) (fun g2 => (Or.elim g2 (fun h3 => (Or.inr (Or.inr (Or.inr (Or.inl h3))))) (fun g3 => (Or.elim g3 (fun h4 => (Or.inr (Or.inr (Or.inr (Or.inr (Or.inl h4)))))) (fun g4 => (Or.elim g4 (fun h5 => (Or.inr (Or.inr (Or.inr (Or.inr (Or.inr (Or.inl h5))))))) (fun g5 => (Or.elim g5 (fun h6 => (Or.inr (Or.inr (Or.inr (Or.inr (Or.inr (Or.inr (Or.inr (Or.inl h6))))))))) (fun g6 => (Or.elim g6 (fun h7 => (Or.inr (Or.inr (Or.inr (Or.inr (Or.inr (Or.inr (Or.inr (Or.inr (Or.inr (Or.inl h7))))))))))) (fun g7 => (Or.elim g7 (fun h8 => (Or.inr (Or.inr (Or.inr (Or.inr (Or.inr (Or.inr (Or.inr (Or.inr (Or.inr (Or.inr (Or.inl h8)))))))))))) (fun g8 => (Or.elim g8 (fun h9 => (Or.inr (Or.inr (Or.inr (Or.inr (Or.inr (Or.inr (Or.inr (Or.inr (Or.inr (Or.inr (Or.inr (Or.inl h9))))))))))))) (fun g9 => (Or.elim g9 (fun h10 => (Or.inr (Or.inr (Or.inr (Or.inr (Or.inr (Or.inr (Or.inr (Or.inr (Or.inr (Or.inr (Or.inr (Or.inr (Or.inl h10)))))))))))))) (fun g10 => (Or.inr (Or.inr (Or.inr (Or.inr (Or.inr (Or.inr (Or.inr (Or.inr (Or.inr (Or.inr (Or.inr (Or.inr (Or.inr g10)))))))))))))))))))))))))))))))))))))
                exact z_k20 h z11
            · rw [if_neg hc24z] at h
              obtain ⟨r28, h_r28, h⟩ := Option.bind_eq_some_iff.mp h
              have z12 : mx_out (WSX12_readSaid a) m r28.2 := mx_out.tr z6 (mx_out.sub (ZX12_saysOne h_r28) (fun b j hb => (Or.elim hb (fun h0 => (Or.inr (Or.inr (Or.inr (Or.inr (Or.inr (Or.inl h0))))))) (fun g0 => (Or.inr (Or.inr (Or.inr (Or.inr (Or.inr (Or.inr (Or.inr (Or.inr (Or.inr (Or.inr (Or.inr (Or.inr (Or.inr g0)))))))))))))))))
              obtain ⟨m29, e_m29, h⟩ := mx_letE h
              have z13 : mx_out (WSX12_readSaid a) m m29 := by first | exact mx_out_up z12 e_m29 (Or.inr (Or.inr (Or.inr (Or.inr (Or.inr (Or.inr (Or.inr (Or.inr (Or.inr (Or.inl ⟨rfl, rfl⟩)))))))))) | exact mx_out_ul z12 e_m29 (Or.inr (Or.inr (Or.inr (Or.inr (Or.inr (Or.inr (Or.inr (Or.inr (Or.inr (Or.inl ⟨rfl, rfl⟩)))))))))) | exact mx_out_cp z12 e_m29 (fun j => (Or.inr (Or.inr (Or.inr (Or.inr (Or.inr (Or.inr (Or.inr (Or.inr (Or.inr (Or.inl ⟨rfl, rfl⟩))))))))))) | exact mx_out_cl z12 e_m29 (fun j => (Or.inr (Or.inr (Or.inr (Or.inr (Or.inr (Or.inr (Or.inr (Or.inr (Or.inr (Or.inl ⟨rfl, rfl⟩)))))))))))
              exact z_k20 h z13
        · rw [if_neg hc17z] at h
          obtain ⟨r31, h_r31, h⟩ := Option.bind_eq_some_iff.mp h
          have z14 : mx_out (WSX12_readSaid a) m r31.2 := mx_out.tr z6 (mx_out.sub (ZX12_readBracket zrec h_r31) (fun b j hb => (Or.elim hb (fun h0 => (Or.inl h0)) (fun g0 => (Or.elim g0 (fun h1 => (Or.inr (Or.inl h1))) (fun g1 => (Or.elim g1 (fun h2 => (Or.inr (Or.inr (Or.inl h2)))) (fun g2 => (Or.elim g2 (fun h3 => (Or.inr (Or.inr (Or.inr (Or.inl h3))))) (fun g3 => (Or.elim g3 (fun h4 => (Or.inr (Or.inr (Or.inr (Or.inr (Or.inl h4)))))) (fun g4 => (Or.elim g4 (fun h5 => (Or.inr (Or.inr (Or.inr (Or.inr (Or.inr (Or.inl h5))))))) (fun g5 => (Or.elim g5 (fun h6 => (Or.inr (Or.inr (Or.inr (Or.inr (Or.inr (Or.inr (Or.inl h6)))))))) (fun g6 => (Or.elim g6 (fun h7 => (Or.inr (Or.inr (Or.inr (Or.inr (Or.inr (Or.inr (Or.inr (Or.inl h7))))))))) (fun g7 => (Or.elim g7 (fun h8 => (Or.inr (Or.inr (Or.inr (Or.inr (Or.inr (Or.inr (Or.inr (Or.inr (Or.inl h8)))))))))) (fun g8 => (Or.elim g8 (fun h9 => (Or.inr (Or.inr (Or.inr (Or.inr (Or.inr (Or.inr (Or.inr (Or.inr (Or.inr (Or.inl h9))))))))))) (fun g9 => (Or.elim g9 (fun h10 => (Or.inr (Or.inr (Or.inr (Or.inr (Or.inr (Or.inr (Or.inr (Or.inr (Or.inr (Or.inr (Or.inl h10)))))))))))) (fun g10 => (Or.elim g10 (fun h11 => (Or.inr (Or.inr (Or.inr (Or.inr (Or.inr (Or.inr (Or.inr (Or.inr (Or.inr (Or.inr (Or.inr (Or.inl h11))))))))))))) (fun g11 => (Or.elim g11 (fun h12 => (Or.inr (Or.inr (Or.inr (Or.inr (Or.inr (Or.inr (Or.inr (Or.inr (Or.inr (Or.inr (Or.inr (Or.inr (Or.inl h12)))))))))))))) (fun g12 => (Or.inr (Or.inr (Or.inr (Or.inr (Or.inr (Or.inr (Or.inr (Or.inr (Or.inr (Or.inr (Or.inr (Or.inr (Or.inr g12)))))))))))))))))))))))))))))))))))))))))
          exact z_k20 h z14
  by_cases hc7z : r1 = 0
  · rw [if_pos hc7z] at h
    by_cases hc34z : q6 ≤ 21
    · rw [if_pos hc34z] at h
      exact z_k9 h z0
    · rw [if_neg hc34z] at h
      obtain ⟨r35, h_r35, h⟩ := Option.bind_eq_some_iff.mp h
      have z15 : mx_out (WSX12_readSaid a) m r35.2 := mx_out.tr z0 (mx_out.sub (ZX12_bad h_r35) (fun b j hb => (Or.elim hb (fun h0 => (Or.inl h0)) (fun g0 => (Or.inr (Or.inl g0))))))
      obtain ⟨-, h⟩ := mx_chkE h
      obtain rfl := Option.some.inj h
      exact z15
  · rw [if_neg hc7z] at h
    exact z_k9 h z0
theorem ZX12_readSaid : ∀ (D : Nat) {a : Nat} {m : mB} {r : (Int32 × mB)}, FX12_readSaid D a m = some r → mx_out (WSX12_readSaid a) m r.2 := by
  intro D
  induction D with
  | zero => intro _ _ _ h; cases h
  | succ D ih =>
    intro a m r h
    rw [FX12_readSaid] at h
    exact ZX12_readSaid_B (rec := FX12_readSaid D) (fun {_} {_} {_} hz => ih hz) h
set_option maxRecDepth 20000 in
theorem ZX12_sentence_L79 {q0 : Nat} : ∀ (f : Nat) {y1 : Int32} {m : mB} {q : (mB)}, FX12_sentence_L79 q0 f y1 m = some q → mx_out (WSX12_sentence_L79 q0) m q := by
  intro f
  induction f with
  | zero => intro _ _ _ h; cases h
  | succ f ih =>
    intro y1 m q h
    rw [FX12_sentence_L79] at h
    have z0 : mx_out (WSX12_sentence_L79 q0) m m := mx_out.rf
    by_cases hc10z : 240 ≤ y1
    · rw [if_pos hc10z] at h
      obtain rfl := Option.some.inj h
      exact z0
    · rw [if_neg hc10z] at h
      obtain ⟨-, h⟩ := mx_chkE h
      obtain ⟨-, h⟩ := mx_chkE h
      obtain ⟨m12, e_m12, h⟩ := mx_letE h
      have z1 : mx_out (WSX12_sentence_L79 q0) m m12 := by first | exact mx_out_up z0 e_m12 rfl | exact mx_out_ul z0 e_m12 rfl | exact mx_out_cp z0 e_m12 (fun j => rfl) | exact mx_out_cl z0 e_m12 (fun j => rfl)
      obtain ⟨v14, -, h⟩ := mx_letE h
      exact mx_out.tr z1 (ih h)
set_option maxRecDepth 20000 in
theorem ZX12_sentence {a : Nat} {m : mB} {r : (Int32 × mB)} (h : FX12_sentence a m = some r) : mx_out (WSX12_sentence a) m r.2 := by
  unfold FX12_sentence at h
  have z0 : mx_out (WSX12_sentence a) m m := mx_out.rf
  obtain ⟨r1, h_r1, h⟩ := Option.bind_eq_some_iff.mp h
  have z2 : mx_out (WSX12_sentence a) m r1 := mx_out.tr z0 (mx_out.sub (ZX12_begin h_r1) (fun b j hb => (Or.elim hb (fun h0 => (Or.inl h0)) (fun g0 => (Or.elim g0 (fun h1 => (Or.inr (Or.inl h1))) (fun g1 => (Or.elim g1 (fun h2 => (Or.inr (Or.inr (Or.inr (Or.inl h2))))) (fun g2 => (Or.elim g2 (fun h3 => (Or.inr (Or.inr (Or.inr (Or.inr (Or.inr (Or.inl h3))))))) (fun g3 => (Or.elim g3 (fun h4 => (Or.inr (Or.inr (Or.inr (Or.inr (Or.inr (Or.inr (Or.inl h4)))))))) (fun g4 => (Or.elim g4 (fun h5 => (Or.inr (Or.inr (Or.inr (Or.inr (Or.inr (Or.inr (Or.inr (Or.inl h5))))))))) (fun g5 => (Or.elim g5 (fun h6 => (Or.inr (Or.inr (Or.inr (Or.inr (Or.inr (Or.inr (Or.inr (Or.inr (Or.inl h6)))))))))) (fun g6 => (Or.elim g6 (fun h7 => (Or.inr (Or.inr (Or.inr (Or.inr (Or.inr (Or.inr (Or.inr (Or.inr (Or.inr (Or.inr (Or.inr (Or.inl h7))))))))))))) (fun g7 => (Or.elim g7 (fun h8 => (Or.inr (Or.inr (Or.inr (Or.inr (Or.inr (Or.inr (Or.inr (Or.inr (Or.inr (Or.inr (Or.inr (Or.inr (Or.inr (Or.inr (Or.inl h8)))))))))))))))) (fun g8 => (Or.elim g8 (fun h9 => (Or.inr (Or.inr (Or.inr (Or.inr (Or.inr (Or.inr (Or.inr (Or.inr (Or.inr (Or.inr (Or.inr (Or.inr (Or.inr (Or.inr (Or.inr (Or.inl h9))))))))))))))))) (fun g9 => (Or.inr (Or.inr (Or.inr (Or.inr (Or.inr (Or.inr (Or.inr (Or.inr (Or.inr (Or.inr (Or.inr (Or.inr (Or.inr (Or.inr (Or.inr (Or.inr (Or.inl g9)))))))))))))))))))))))))))))))))))))))
  obtain ⟨m2, e_m2, h⟩ := mx_letE h
  have z3 : mx_out (WSX12_sentence a) m m2 := by first | exact mx_out_up z2 e_m2 (Or.inr (Or.inr (Or.inr (Or.inr (Or.inr (Or.inr (Or.inr (Or.inr (Or.inr (Or.inl ⟨rfl, rfl⟩)))))))))) | exact mx_out_ul z2 e_m2 (Or.inr (Or.inr (Or.inr (Or.inr (Or.inr (Or.inr (Or.inr (Or.inr (Or.inr (Or.inl ⟨rfl, rfl⟩)))))))))) | exact mx_out_cp z2 e_m2 (fun j => (Or.inr (Or.inr (Or.inr (Or.inr (Or.inr (Or.inr (Or.inr (Or.inr (Or.inr (Or.inl ⟨rfl, rfl⟩))))))))))) | exact mx_out_cl z2 e_m2 (fun j => (Or.inr (Or.inr (Or.inr (Or.inr (Or.inr (Or.inr (Or.inr (Or.inr (Or.inr (Or.inl ⟨rfl, rfl⟩)))))))))))
  obtain ⟨m3, e_m3, h⟩ := mx_letE h
  have z4 : mx_out (WSX12_sentence a) m m3 := by first | exact mx_out_up z3 e_m3 (Or.inr (Or.inr (Or.inr (Or.inr (Or.inr (Or.inr (Or.inr (Or.inr (Or.inr (Or.inr (Or.inl ⟨rfl, rfl⟩))))))))))) | exact mx_out_ul z3 e_m3 (Or.inr (Or.inr (Or.inr (Or.inr (Or.inr (Or.inr (Or.inr (Or.inr (Or.inr (Or.inr (Or.inl ⟨rfl, rfl⟩))))))))))) | exact mx_out_cp z3 e_m3 (fun j => (Or.inr (Or.inr (Or.inr (Or.inr (Or.inr (Or.inr (Or.inr (Or.inr (Or.inr (Or.inr (Or.inl ⟨rfl, rfl⟩)))))))))))) | exact mx_out_cl z3 e_m3 (fun j => (Or.inr (Or.inr (Or.inr (Or.inr (Or.inr (Or.inr (Or.inr (Or.inr (Or.inr (Or.inr (Or.inl ⟨rfl, rfl⟩))))))))))))
  obtain ⟨m4, e_m4, h⟩ := mx_letE h
  have z5 : mx_out (WSX12_sentence a) m m4 := by first | exact mx_out_up z4 e_m4 (Or.inr (Or.inr (Or.inr (Or.inr (Or.inr (Or.inr (Or.inr (Or.inr (Or.inr (Or.inr (Or.inr (Or.inr (Or.inl ⟨rfl, rfl⟩))))))))))))) | exact mx_out_ul z4 e_m4 (Or.inr (Or.inr (Or.inr (Or.inr (Or.inr (Or.inr (Or.inr (Or.inr (Or.inr (Or.inr (Or.inr (Or.inr (Or.inl ⟨rfl, rfl⟩))))))))))))) | exact mx_out_cp z4 e_m4 (fun j => (Or.inr (Or.inr (Or.inr (Or.inr (Or.inr (Or.inr (Or.inr (Or.inr (Or.inr (Or.inr (Or.inr (Or.inr (Or.inl ⟨rfl, rfl⟩)))))))))))))) | exact mx_out_cl z4 e_m4 (fun j => (Or.inr (Or.inr (Or.inr (Or.inr (Or.inr (Or.inr (Or.inr (Or.inr (Or.inr (Or.inr (Or.inr (Or.inr (Or.inl ⟨rfl, rfl⟩))))))))))))))
  obtain ⟨r5, h_r5, h⟩ := Option.bind_eq_some_iff.mp h
  have z6 : mx_out (WSX12_sentence a) m r5.2 := mx_out.tr z5 (mx_out.sub (ZX12_readOr (ZX12_readSaid 64) h_r5) (fun b j hb => (Or.elim hb (fun h0 => (Or.inr (Or.inl h0))) (fun g0 => (Or.elim g0 (fun h1 => (Or.inr (Or.inr (Or.inl h1)))) (fun g1 => (Or.elim g1 (fun h2 => (Or.inr (Or.inr (Or.inr (Or.inl h2))))) (fun g2 => (Or.elim g2 (fun h3 => (Or.inr (Or.inr (Or.inr (Or.inr (Or.inl h3)))))) (fun g3 => (Or.elim g3 (fun h4 => (Or.inr (Or.inr (Or.inr (Or.inr (Or.inr (Or.inr (Or.inr (Or.inr (Or.inl h4)))))))))) (fun g4 => (Or.elim g4 (fun h5 => (Or.inr (Or.inr (Or.inr (Or.inr (Or.inr (Or.inr (Or.inr (Or.inr (Or.inr (Or.inl h5))))))))))) (fun g5 => (Or.elim g5 (fun h6 => (Or.inr (Or.inr (Or.inr (Or.inr (Or.inr (Or.inr (Or.inr (Or.inr (Or.inr (Or.inr (Or.inl h6)))))))))))) (fun g6 => (Or.elim g6 (fun h7 => (Or.inr (Or.inr (Or.inr (Or.inr (Or.inr (Or.inr (Or.inr (Or.inr (Or.inr (Or.inr (Or.inr (Or.inl h7))))))))))))) (fun g7 => (Or.elim g7 (fun h8 => (Or.inr (Or.inr (Or.inr (Or.inr (Or.inr (Or.inr (Or.inr (Or.inr (Or.inr (Or.inr (Or.inr (Or.inr (Or.inl h8)))))))))))))) (fun g8 => (Or.elim g8 (fun h9 => (Or.inr (Or.inr (Or.inr (Or.inr (Or.inr (Or.inr (Or.inr (Or.inr (Or.inr (Or.inr (Or.inr (Or.inr (Or.inr (Or.inl h9))))))))))))))) (fun g9 => (Or.elim g9 (fun h10 => (Or.inr (Or.inr (Or.inr (Or.inr (Or.inr (Or.inr (Or.inr (Or.inr (Or.inr (Or.inr (Or.inr (Or.inr (Or.inr (Or.inr (Or.inl h10)))))))))))))))) (fun g10 => (Or.elim g10 (fun h11 => (Or.inr (Or.inr (Or.inr (Or.inr (Or.inr (Or.inr (Or.inr (Or.inr (Or.inr (Or.inr (Or.inr (Or.inr (Or.inr (Or.inr (Or.inr (Or.inl h11))))))))))))))))) (fun g11 => (Or.elim g11 (fun h12 => (Or.inr (Or.inr (Or.inr (Or.inr (Or.inr (Or.inr (Or.inr (Or.inr (Or.inr (Or.inr (Or.inr (Or.inr (Or.inr (Or.inr (Or.inr (Or.inr (Or.inl h12)))))))))))))))))) (fun g12 => (Or.inr (Or.inr (Or.inr (Or.inr (Or.inr (Or.inr (Or.inr (Or.inr (Or.inr (Or.inr (Or.inr (Or.inr (Or.inr (Or.inr (Or.inr (Or.inr (Or.inr (Or.inr g12))))))))))))))))))))))))))))))))))))))))))))))
  by_cases hc6z : r5.1 = 0
  · rw [if_pos hc6z] at h
    obtain rfl := Option.some.inj h
    exact z6
  · rw [if_neg hc6z] at h
    by_cases hc7z : (r5.2.1 a 7) = 0
    · rw [if_pos hc7z] at h
      obtain ⟨m8, e_m8, h⟩ := mx_letE h
      have z7 : mx_out (WSX12_sentence a) m m8 := by first | exact mx_out_up z6 e_m8 (Or.inr (Or.inr (Or.inr (Or.inr (Or.inr (Or.inr (Or.inr (Or.inr (Or.inr (Or.inr (Or.inr (Or.inr (Or.inr (Or.inr (Or.inr (Or.inr (Or.inr (Or.inl rfl)))))))))))))))))) | exact mx_out_ul z6 e_m8 (Or.inr (Or.inr (Or.inr (Or.inr (Or.inr (Or.inr (Or.inr (Or.inr (Or.inr (Or.inr (Or.inr (Or.inr (Or.inr (Or.inr (Or.inr (Or.inr (Or.inr (Or.inl rfl)))))))))))))))))) | exact mx_out_cp z6 e_m8 (fun j => (Or.inr (Or.inr (Or.inr (Or.inr (Or.inr (Or.inr (Or.inr (Or.inr (Or.inr (Or.inr (Or.inr (Or.inr (Or.inr (Or.inr (Or.inr (Or.inr (Or.inr (Or.inl rfl))))))))))))))))))) | exact mx_out_cl z6 e_m8 (fun j => (Or.inr (Or.inr (Or.inr (Or.inr (Or.inr (Or.inr (Or.inr (Or.inr (Or.inr (Or.inr (Or.inr (Or.inr (Or.inr (Or.inr (Or.inr (Or.inr (Or.inr (Or.inl rfl)))))))))))))))))))
      obtain ⟨m9, e_m9, h⟩ := mx_letE h
      have z8 : mx_out (WSX12_sentence a) m m9 := by first | exact mx_out_up z7 e_m9 (Or.inr (Or.inr (Or.inr (Or.inr (Or.inr (Or.inr (Or.inr (Or.inr (Or.inr (Or.inr (Or.inr (Or.inr (Or.inr (Or.inr (Or.inr (Or.inr (Or.inr (Or.inl rfl)))))))))))))))))) | exact mx_out_ul z7 e_m9 (Or.inr (Or.inr (Or.inr (Or.inr (Or.inr (Or.inr (Or.inr (Or.inr (Or.inr (Or.inr (Or.inr (Or.inr (Or.inr (Or.inr (Or.inr (Or.inr (Or.inr (Or.inl rfl)))))))))))))))))) | exact mx_out_cp z7 e_m9 (fun j => (Or.inr (Or.inr (Or.inr (Or.inr (Or.inr (Or.inr (Or.inr (Or.inr (Or.inr (Or.inr (Or.inr (Or.inr (Or.inr (Or.inr (Or.inr (Or.inr (Or.inr (Or.inl rfl))))))))))))))))))) | exact mx_out_cl z7 e_m9 (fun j => (Or.inr (Or.inr (Or.inr (Or.inr (Or.inr (Or.inr (Or.inr (Or.inr (Or.inr (Or.inr (Or.inr (Or.inr (Or.inr (Or.inr (Or.inr (Or.inr (Or.inr (Or.inl rfl)))))))))))))))))))
      obtain ⟨q15, h_q15, h⟩ := Option.bind_eq_some_iff.mp h
      have z9 := mx_out.tr z8 (mx_out.sub (S := (WSX12_sentence a)) (ZX12_sentence_L79 mx_FU h_q15) (fun b j hb => (Or.inr (Or.inr (Or.inr (Or.inr (Or.inr (Or.inr (Or.inr (Or.inr (Or.inr (Or.inr (Or.inr (Or.inr (Or.inr (Or.inr (Or.inr (Or.inr (Or.inr (Or.inl hb))))))))))))))))))))
      obtain rfl := Option.some.inj h
      exact z9
    · rw [if_neg hc7z] at h
      obtain ⟨r16, h_r16, h⟩ := Option.bind_eq_some_iff.mp h
      have z10 : mx_out (WSX12_sentence a) m r16.2 := mx_out.tr z6 (mx_out.sub (ZX12_bad h_r16) (fun b j hb => (Or.elim hb (fun h0 => (Or.inr (Or.inl h0))) (fun g0 => (Or.inr (Or.inr (Or.inl g0)))))))
      obtain rfl := Option.some.inj h
      exact z10
theorem ZX12_said_L22 {q0 : Nat} {y1 : Int32} {m : mB} : ∀ (f : Nat) {y2 y3 : Int32} {rr : Int32 × mB}, FX12_said_L22 q0 y1 m f y2 y3 = some (.inl rr) → rr.2 = m := by
  intro f
  induction f with
  | zero => intro _ _ _ h; cases h
  | succ f ih =>
    intro y2 y3 rr h
    rw [FX12_said_L22] at h
    by_cases h1 : (m.1 (q0 + 2) 0) ≤ y3
    · rw [if_pos h1] at h; cases h
    · rw [if_neg h1] at h
      obtain ⟨r4, -, h⟩ := Option.bind_eq_some_iff.mp h
      by_cases h2 : r4 = 0
      · rw [if_pos h2] at h
        obtain ⟨v, -, h⟩ := mx_letE h
        exact ih h
      · rw [if_neg h2] at h
        by_cases h3 : y2 = y1
        · rw [if_pos h3] at h
          cases h
          rfl
        · rw [if_neg h3] at h
          obtain ⟨v, -, h⟩ := mx_letE h
          obtain ⟨v2, -, h⟩ := mx_letE h
          exact ih h
set_option maxRecDepth 20000 in
theorem ZX12_said {a : Nat} {x0 : Int32} {m : mB} {r : (Int32 × mB)} (h : FX12_said a x0 m = some r) : mx_out (WSX12_said a) m r.2 := by
  unfold FX12_said at h
  have z0 : mx_out (WSX12_said a) m m := mx_out.rf
  obtain ⟨m1, e_m1, h⟩ := mx_letE h
  have z1 : mx_out (WSX12_said a) m m1 := by first | exact mx_out_up z0 e_m1 ⟨rfl, rfl⟩ | exact mx_out_ul z0 e_m1 ⟨rfl, rfl⟩ | exact mx_out_cp z0 e_m1 (fun j => ⟨rfl, rfl⟩) | exact mx_out_cl z0 e_m1 (fun j => ⟨rfl, rfl⟩)
  by_cases hc2z : (m1.1 (a + 2) 190) = 0
  · rw [if_pos hc2z] at h
    obtain rfl := Option.some.inj h
    exact z1
  · rw [if_neg hc2z] at h
    obtain ⟨q10, h_q10, h⟩ := Option.bind_eq_some_iff.mp h
    rcases q10 with rr12 | u11
    · rw [Sum.elim_inl] at h
      obtain rfl := Option.some.inj h
      rw [ZX12_said_L22 mx_FU h_q10]
      exact z1
    · rw [Sum.elim_inr] at h
      by_cases hc13z : x0 = (-1)
      · rw [if_pos hc13z] at h
        obtain rfl := Option.some.inj h
        exact z1
      · rw [if_neg hc13z] at h
        obtain rfl := Option.some.inj h
        exact z1
set_option maxRecDepth 20000 in
theorem ZX12_image_L18 {q0 : Nat} {y1 : Int32} : ∀ (f : Nat) {y2 : Int32} {m : mB} {q : (mB)}, FX12_image_L18 q0 y1 f y2 m = some q → mx_out (WSX12_image_L18 q0) m q := by
  intro f
  induction f with
  | zero => intro _ _ _ h; cases h
  | succ f ih =>
    intro y2 m q h
    rw [FX12_image_L18] at h
    have z0 : mx_out (WSX12_image_L18 q0) m m := mx_out.rf
    by_cases hc4z : 432 ≤ y2
    · rw [if_pos hc4z] at h
      obtain rfl := Option.some.inj h
      exact z0
    · rw [if_neg hc4z] at h
      obtain ⟨-, h⟩ := mx_chkE h
      obtain ⟨-, h⟩ := mx_chkE h
      obtain ⟨m6, e_m6, h⟩ := mx_letE h
      have z1 : mx_out (WSX12_image_L18 q0) m m6 := by first | exact mx_out_up z0 e_m6 rfl | exact mx_out_ul z0 e_m6 rfl | exact mx_out_cp z0 e_m6 (fun j => rfl) | exact mx_out_cl z0 e_m6 (fun j => rfl)
      obtain ⟨v8, -, h⟩ := mx_letE h
      exact mx_out.tr z1 (ih h)
set_option maxRecDepth 20000 in
theorem ZX12_image_L51 {q0 : Nat} {y1 : Int32} : ∀ (f : Nat) {y2 : Int32} {m : mB} {q : (mB)}, FX12_image_L51 q0 y1 f y2 m = some q → mx_out (WSX12_image_L51 q0) m q := by
  intro f
  induction f with
  | zero => intro _ _ _ h; cases h
  | succ f ih =>
    intro y2 m q h
    rw [FX12_image_L51] at h
    have z0 : mx_out (WSX12_image_L51 q0) m m := mx_out.rf
    by_cases hc10z : 10 ≤ y2
    · rw [if_pos hc10z] at h
      obtain rfl := Option.some.inj h
      exact z0
    · rw [if_neg hc10z] at h
      obtain ⟨-, h⟩ := mx_chkE h
      obtain ⟨-, h⟩ := mx_chkE h
      obtain ⟨m12, e_m12, h⟩ := mx_letE h
      have z2 : mx_out (WSX12_image_L51 q0) m m12 := by first | exact mx_out_up z0 e_m12 rfl | exact mx_out_ul z0 e_m12 rfl | exact mx_out_cp z0 e_m12 (fun j => rfl) | exact mx_out_cl z0 e_m12 (fun j => rfl)
      obtain ⟨v14, -, h⟩ := mx_letE h
      exact mx_out.tr z2 (ih h)
set_option maxRecDepth 20000 in
theorem ZX12_image {a : Nat} {x0 : Int32} {m : mB} {r : (Int32 × mB)} (h : FX12_image a x0 m = some r) : mx_out (WSX12_image a) m r.2 := by
  unfold FX12_image at h
  have z0 : mx_out (WSX12_image a) m m := mx_out.rf
  obtain ⟨m1, e_m1, h⟩ := mx_letE h
  have z3 : mx_out (WSX12_image a) m m1 := by first | exact mx_out_up z0 e_m1 (Or.inl ⟨rfl, rfl⟩) | exact mx_out_ul z0 e_m1 (Or.inl ⟨rfl, rfl⟩) | exact mx_out_cp z0 e_m1 (fun j => (Or.inl ⟨rfl, rfl⟩)) | exact mx_out_cl z0 e_m1 (fun j => (Or.inl ⟨rfl, rfl⟩))
  obtain ⟨r2, h_r2, h⟩ := Option.bind_eq_some_iff.mp h
  by_cases hc3z : r2 = 0
  · rw [if_pos hc3z] at h
    obtain rfl := Option.some.inj h
    exact z3
  · rw [if_neg hc3z] at h
    obtain ⟨q9, h_q9, h⟩ := Option.bind_eq_some_iff.mp h
    have z4 := mx_out.tr z3 (mx_out.sub (S := (WSX12_image a)) (ZX12_image_L18 mx_FU h_q9) (fun b j hb => (Or.inr (Or.inr (Or.inr hb)))))
    obtain ⟨q15, h_q15, h⟩ := Option.bind_eq_some_iff.mp h
    have z5 := mx_out.tr z4 (mx_out.sub (S := (WSX12_image a)) (ZX12_image_L51 mx_FU h_q15) (fun b j hb => (Or.inr (Or.inl hb))))
    obtain ⟨-, h⟩ := mx_chkE h
    obtain ⟨m16, e_m16, h⟩ := mx_letE h
    have z6 : mx_out (WSX12_image a) m m16 := by first | exact mx_out_up z5 e_m16 (Or.inr (Or.inr (Or.inl rfl))) | exact mx_out_ul z5 e_m16 (Or.inr (Or.inr (Or.inl rfl))) | exact mx_out_cp z5 e_m16 (fun j => (Or.inr (Or.inr (Or.inl rfl)))) | exact mx_out_cl z5 e_m16 (fun j => (Or.inr (Or.inr (Or.inl rfl))))
    obtain rfl := Option.some.inj h
    exact z6
set_option maxRecDepth 20000 in
theorem ZX12_restore_L27 {q0 : Nat} {y1 : Int32} : ∀ (f : Nat) {y2 : Int32} {m : mB} {q : (mB)}, FX12_restore_L27 q0 y1 f y2 m = some q → mx_out (WSX12_restore_L27 q0) m q := by
  intro f
  induction f with
  | zero => intro _ _ _ h; cases h
  | succ f ih =>
    intro y2 m q h
    rw [FX12_restore_L27] at h
    have z0 : mx_out (WSX12_restore_L27 q0) m m := mx_out.rf
    by_cases hc6z : 432 ≤ y2
    · rw [if_pos hc6z] at h
      obtain rfl := Option.some.inj h
      exact z0
    · rw [if_neg hc6z] at h
      obtain ⟨-, h⟩ := mx_chkE h
      obtain ⟨-, h⟩ := mx_chkE h
      obtain ⟨m8, e_m8, h⟩ := mx_letE h
      have z1 : mx_out (WSX12_restore_L27 q0) m m8 := by first | exact mx_out_up z0 e_m8 rfl | exact mx_out_ul z0 e_m8 rfl | exact mx_out_cp z0 e_m8 (fun j => rfl) | exact mx_out_cl z0 e_m8 (fun j => rfl)
      obtain ⟨v10, -, h⟩ := mx_letE h
      exact mx_out.tr z1 (ih h)
set_option maxRecDepth 20000 in
theorem ZX12_restore_L60 {q0 : Nat} {y1 : Int32} : ∀ (f : Nat) {y2 : Int32} {m : mB} {q : (mB)}, FX12_restore_L60 q0 y1 f y2 m = some q → mx_out (WSX12_restore_L60 q0) m q := by
  intro f
  induction f with
  | zero => intro _ _ _ h; cases h
  | succ f ih =>
    intro y2 m q h
    rw [FX12_restore_L60] at h
    have z0 : mx_out (WSX12_restore_L60 q0) m m := mx_out.rf
    by_cases hc12z : 10 ≤ y2
    · rw [if_pos hc12z] at h
      obtain rfl := Option.some.inj h
      exact z0
    · rw [if_neg hc12z] at h
      obtain ⟨-, h⟩ := mx_chkE h
      obtain ⟨-, h⟩ := mx_chkE h
      obtain ⟨m14, e_m14, h⟩ := mx_letE h
      have z2 : mx_out (WSX12_restore_L60 q0) m m14 := by first | exact mx_out_up z0 e_m14 rfl | exact mx_out_ul z0 e_m14 rfl | exact mx_out_cp z0 e_m14 (fun j => rfl) | exact mx_out_cl z0 e_m14 (fun j => rfl)
      obtain ⟨v16, -, h⟩ := mx_letE h
      exact mx_out.tr z2 (ih h)
set_option maxRecDepth 20000 in
theorem ZX12_restore {a : Nat} {x0 : Int32} {m : mB} {r : (Int32 × mB)} (h : FX12_restore a x0 m = some r) : mx_out (WSX12_restore a) m r.2 := by
  unfold FX12_restore at h
  have z0 : mx_out (WSX12_restore a) m m := mx_out.rf
  obtain ⟨m1, e_m1, h⟩ := mx_letE h
  have z3 : mx_out (WSX12_restore a) m m1 := by first | exact mx_out_up z0 e_m1 (Or.inl ⟨rfl, rfl⟩) | exact mx_out_ul z0 e_m1 (Or.inl ⟨rfl, rfl⟩) | exact mx_out_cp z0 e_m1 (fun j => (Or.inl ⟨rfl, rfl⟩)) | exact mx_out_cl z0 e_m1 (fun j => (Or.inl ⟨rfl, rfl⟩))
  obtain ⟨r2, h_r2, h⟩ := Option.bind_eq_some_iff.mp h
  by_cases hc3z : r2 = 0
  · rw [if_pos hc3z] at h
    obtain rfl := Option.some.inj h
    exact z3
  · rw [if_neg hc3z] at h
    obtain ⟨-, h⟩ := mx_chkE h
    by_cases hc5z : (m1.1 (a + 11) (Int32.toNatClampNeg x0)) = 0
    · rw [if_pos hc5z] at h
      obtain rfl := Option.some.inj h
      exact z3
    · rw [if_neg hc5z] at h
      obtain ⟨q11, h_q11, h⟩ := Option.bind_eq_some_iff.mp h
      have z4 := mx_out.tr z3 (mx_out.sub (S := (WSX12_restore a)) (ZX12_restore_L27 mx_FU h_q11) (fun b j hb => (Or.inr (Or.inr (Or.inl hb)))))
      obtain ⟨q17, h_q17, h⟩ := Option.bind_eq_some_iff.mp h
      have z5 := mx_out.tr z4 (mx_out.sub (S := (WSX12_restore a)) (ZX12_restore_L60 mx_FU h_q17) (fun b j hb => (Or.inr (Or.inr (Or.inr hb)))))
      obtain ⟨m18, e_m18, h⟩ := mx_letE h
      have z6 : mx_out (WSX12_restore a) m m18 := by first | exact mx_out_up z5 e_m18 (Or.inr (Or.inl ⟨rfl, rfl⟩)) | exact mx_out_ul z5 e_m18 (Or.inr (Or.inl ⟨rfl, rfl⟩)) | exact mx_out_cp z5 e_m18 (fun j => (Or.inr (Or.inl ⟨rfl, rfl⟩))) | exact mx_out_cl z5 e_m18 (fun j => (Or.inr (Or.inl ⟨rfl, rfl⟩)))
      obtain rfl := Option.some.inj h
      exact z6
set_option maxRecDepth 20000 in
theorem ZX12_count {a : Nat} {x0 : Int32} {m : mB} {r : (Int32 × mB)} (h : FX12_count a x0 m = some r) : mx_out (WSX12_count a) m r.2 := by
  unfold FX12_count at h
  have z0 : mx_out (WSX12_count a) m m := mx_out.rf
  obtain ⟨m1, e_m1, h⟩ := mx_letE h
  have z1 : mx_out (WSX12_count a) m m1 := by first | exact mx_out_up z0 e_m1 ⟨rfl, rfl⟩ | exact mx_out_ul z0 e_m1 ⟨rfl, rfl⟩ | exact mx_out_cp z0 e_m1 (fun j => ⟨rfl, rfl⟩) | exact mx_out_cl z0 e_m1 (fun j => ⟨rfl, rfl⟩)
  by_cases hc2 : x0 = 0
  · rw [if_pos hc2] at h
    obtain rfl := Option.some.inj h
    exact z1
  · rw [if_neg hc2] at h
    by_cases hc3 : x0 = 1
    · rw [if_pos hc3] at h
      obtain rfl := Option.some.inj h
      exact z1
    · rw [if_neg hc3] at h
      by_cases hc4 : x0 = 2
      · rw [if_pos hc4] at h
        obtain rfl := Option.some.inj h
        exact z1
      · rw [if_neg hc4] at h
        by_cases hc5 : x0 = 3
        · rw [if_pos hc5] at h
          obtain rfl := Option.some.inj h
          exact z1
        · rw [if_neg hc5] at h
          obtain rfl := Option.some.inj h
          exact z1
