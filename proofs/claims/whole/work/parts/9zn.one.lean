/-! ===== one memory for class and reference ===== -/
section ONE
variable {m : mB}
def lo222 : Nat → Nat → Prop := fun b _ => b < 222
def hi222 : Nat → Nat → Prop := fun b _ => 222 ≤ b ∧ b < 249
theorem ag_lo {m m' : mB} (z : mx_out lo222 m m') : ag SD m m' := ag_of z (fun b j q w => by unfold SD at q; unfold lo222 at w; omega)
theorem ag_hi {m m' : mB} (z : mx_out hi222 m m') : ag SC m m' := ag_of z (fun b j q w => by unfold SC at q; unfold hi222 at w; omega)
theorem Un_sm {A B : mB → Option (Int32 × mB)} (h : RR m m) (hO : ∀ c d, RR c d → Sm (A c) (B d)) (zA : ∀ c r, A c = some r → mx_out lo222 c r.2) (zB : ∀ c r, B c = some r → mx_out hi222 c r.2) :
    ∃ r m1 m2, A m = some (r, m1) ∧ B m1 = some (r, m2) ∧ RR m2 m2 := by
  obtain ⟨⟨r, m1⟩, s, e1, -, -, -⟩ := hO m m h
  have h1 : RR m m1 := RR_mv h ag_rf (ag_lo (zA m _ e1))
  obtain ⟨⟨r', m1'⟩, ⟨r2, m2⟩, f1, f2, f3, f4⟩ := hO m m1 h1
  rw [e1] at f1
  cases f1
  cases f3
  exact ⟨r, m1, m2, e1, f2, RR_mv f4 (ag_hi (zB m1 _ f2)) ag_rf⟩
theorem Un_sv {A : mB → Option Int32} {B : mB → Option (Int32 × mB)} (h : RR m m) (hO : ∀ c d, RR c d → Sv c (A c) (B d)) (zB : ∀ c r, B c = some r → mx_out hi222 c r.2) :
    ∃ r m2, A m = some r ∧ B m = some (r, m2) ∧ RR m2 m2 := by
  obtain ⟨r, ⟨r2, m2⟩, f1, f2, f3, f4⟩ := hO m m h
  cases f3
  exact ⟨_, m2, f1, f2, RR_mv f4 (ag_hi (zB m _ f2)) ag_rf⟩
theorem Un_th {A : mB → Option Int32} {TH : mB → Prop} {B : mB → Option (Int32 × mB)} {m' : mB} (h : RR m m) (hw : mx_out (fun b _ => 249 ≤ b) m m') (hO : ∀ c d, RR c d → Th c (A c) (TH c) (B d)) (zB : ∀ c r, B c = some r → mx_out hi222 c r.2) :
    ∃ r m2, B m' = some (r, m2) ∧ RR m2 m2 ∧ m2.2 249 0 = m'.2 249 0 ∧ ((A m = some r ∧ m2.1 222 0 = 0) ∨ (TH m ∧ m2.1 222 0 = 1)) := by
  have h1 : RR m m' := RR_mv h ag_rf (ag_of hw (fun b j q w => by unfold SD at q; omega))
  obtain ⟨⟨r, m2⟩, f1, f2, f3⟩ := hO m m' h1
  have z := zB m' _ f1
  exact ⟨r, m2, f1, RR_mv f2 (ag_tr (ag_of hw (fun b j q w => by unfold SC at q; omega)) (ag_hi z)) ag_rf, (z 249 0 (fun w => by unfold hi222 at w; omega)).2, f3⟩
theorem L_image {x : Int32} {r : Int32 × mB} (h : FX11_image 0 x m = some r) : mx_out lo222 m r.2 := by
  unfold FX11_image at h
  by_cases q : x < 0
  · rw [if_pos q] at h; cases h; exact mx_out.rf
  rw [if_neg q] at h
  by_cases q2 : 2 ≤ x
  · rw [if_pos q2] at h; cases h; exact mx_out.rf
  rw [if_neg q2] at h
  obtain ⟨hi, h⟩ := mx_chkE h
  have hx : Int32.toNatClampNeg x < 2 := Nat.not_le.mp (fun w => mx_inbE hi (Or.inr w))
  obtain ⟨r1, e1, h⟩ := Option.bind_eq_some_iff.mp h
  cases h
  exact (ZX6_take e1).sub (fun b j q => by unfold WSX6_take at q; unfold lo222; omega)
theorem L_restore {x : Int32} {r : Int32 × mB} (h : FX11_restore 0 x m = some r) : mx_out lo222 m r.2 := by
  unfold FX11_restore at h
  by_cases q : x < 0
  · rw [if_pos q] at h; cases h; exact mx_out.rf
  rw [if_neg q] at h
  by_cases q2 : 2 ≤ x
  · rw [if_pos q2] at h; cases h; exact mx_out.rf
  rw [if_neg q2] at h
  obtain ⟨hi, h⟩ := mx_chkE h
  have hx : Int32.toNatClampNeg x < 2 := Nat.not_le.mp (fun w => mx_inbE hi (Or.inr w))
  obtain ⟨r1, e1, h⟩ := Option.bind_eq_some_iff.mp h
  have z1 : mx_out lo222 m r1.2 := (ZX6_giveBack e1).sub (fun b j q => by unfold WSX6_giveBack at q; unfold lo222; omega)
  by_cases q3 : r1.1 = 0
  · rw [if_pos q3] at h; cases h; exact z1
  rw [if_neg q3] at h
  obtain ⟨r2, e2, h⟩ := Option.bind_eq_some_iff.mp h
  cases h
  exact z1.tr ((ZX3_forget e2).sub (fun b j q => by unfold WSX3_forget at q; unfold lo222; omega))
theorem L_addText {k : Nat} : ∀ (n j : Nat) (m r : mB), FX7_addText (0 + 186) k n j m = some r → mx_out lo222 m r := by
  intro n
  induction n with
  | zero => intro j m r h; cases h; exact mx_out.rf
  | succ n ih =>
    intro j m r h
    obtain ⟨r1, e1, h⟩ := Option.bind_eq_some_iff.mp h
    exact ((ZX7_add e1).sub (fun b j q => by unfold WSX7_add at q; unfold lo222; omega) : mx_out lo222 m r1).tr (ih _ _ _ h)
theorem L_tail {x : Int32} {r : Int32 × mB} (h : Option.bind (FX7_addText (0 + 186) 3 (mx_sl.getD 3 0) 0 m) (fun r10 => Option.bind (FX4_priceOf (0 + 4) x r10) (fun r11 => Option.bind (FX7_addDigits (0 + 186) r11 r10) (fun r12 => Option.bind (FX7_size (0 + 186) r12) (fun r13 => (some (r13, r12)))))) = some r) : mx_out lo222 m r.2 := by
  obtain ⟨r1, e1, h⟩ := Option.bind_eq_some_iff.mp h
  obtain ⟨r2, e2, h⟩ := Option.bind_eq_some_iff.mp h
  obtain ⟨r3, e3, h⟩ := Option.bind_eq_some_iff.mp h
  obtain ⟨r4, e4, h⟩ := Option.bind_eq_some_iff.mp h
  cases h
  exact (L_addText _ _ _ _ e1).tr ((ZX7_addDigits e3).sub (fun b j q => by unfold WSX7_addDigits at q; unfold lo222; omega))
theorem L_tag {x : Int32} {r : Int32 × mB} (h : FX11_tag 0 x m = some r) : mx_out lo222 m r.2 := by
  unfold FX11_tag at h
  obtain ⟨r1, e1, h⟩ := Option.bind_eq_some_iff.mp h
  by_cases q : r1 = 0
  · rw [if_pos q] at h; cases h; exact mx_out.rf
  rw [if_neg q] at h
  obtain ⟨r3, e3, h⟩ := Option.bind_eq_some_iff.mp h
  obtain ⟨r4, e4, h⟩ := Option.bind_eq_some_iff.mp h
  obtain ⟨r5, e5, h⟩ := Option.bind_eq_some_iff.mp h
  obtain ⟨r6, e6, h⟩ := Option.bind_eq_some_iff.mp h
  have z5 : mx_out lo222 m r5 := ((ZX7_clear e3).sub (fun b j q => by unfold WSX7_clear at q; unfold lo222; omega) : mx_out lo222 m r3).tr ((ZX7_addName e5).sub (fun b j q => by unfold WSX7_addName at q; unfold lo222; omega))
  rw [mx_letI] at h
  by_cases q2 : r6 = 0
  · rw [if_pos q2] at h
    obtain ⟨r14, e14, h⟩ := Option.bind_eq_some_iff.mp h
    obtain ⟨r15, e15, h⟩ := Option.bind_eq_some_iff.mp h
    obtain ⟨r16, e16, h⟩ := Option.bind_eq_some_iff.mp h
    obtain ⟨r17, e17, h⟩ := Option.bind_eq_some_iff.mp h
    exact z5.tr ((L_addText _ _ _ _ e14).tr (((ZX7_addName e17).sub (fun b j q => by unfold WSX7_addName at q; unfold lo222; omega) : mx_out lo222 r14 r17).tr (L_tail h)))
  · rw [if_neg q2] at h
    obtain ⟨r18, e18, h⟩ := Option.bind_eq_some_iff.mp h
    exact z5.tr ((L_addText _ _ _ _ e18).tr (L_tail h))
theorem N_proofBy (h : m.1 0 16 = -1) : FX11_proofBy 0 m = none := by unfold FX11_proofBy; rw [if_pos h]
theorem N_slack {x : Int32} (h : FX4_hasLink 4 x m = some 0) : FX11_slack 0 x m = none := by
  unfold FX11_slack
  show Option.bind (FX4_hasLink 4 x m) _ = _
  rw [h, ob_some, if_pos rfl]
theorem N_point {x y : Int32} (h : ∃ b, FX4_hasPoint 4 x m = some b ∧ (b = 0 ∨ y < 0 ∨ ¬ y ≤ 4)) : FX11_point 0 x y m = none := by
  obtain ⟨b, e, h⟩ := h
  unfold FX11_point
  show Option.bind (FX4_hasPoint 4 x m) _ = _
  rw [e, ob_some]
  by_cases q1 : b = 0
  · rw [if_pos q1]
  rw [if_neg q1]
  by_cases q2 : y < 0
  · rw [if_pos q2]
  rw [if_neg q2, if_neg ((h.resolve_left q1).resolve_left q2)]
theorem N_mean {x : Int32} (h : ∃ b, FX4_pairs 4 m = some b ∧ (b < 1 ∨ x < 0 ∨ ¬ x ≤ 1)) : FX11_mean 0 x m = none := by
  obtain ⟨b, e, h⟩ := h
  unfold FX11_mean
  show Option.bind (FX4_pairs 4 m) _ = _
  rw [e, ob_some]
  by_cases q1 : b < 1
  · rw [if_pos q1]
  rw [if_neg q1]
  by_cases q2 : x < 0
  · rw [if_pos q2]
  rw [if_neg q2, if_neg ((h.resolve_left q1).resolve_left q2)]
theorem U_pair (h : RR m m) (x y : Int32) : ∃ r m1 m2, FX11_pair 0 x y m = some (r, m1) ∧ FX12_pair 222 x y m1 = some (r, m2) ∧ RR m2 m2 := Un_sm (A := fun c => FX11_pair 0 x y c) (B := fun c => FX12_pair 222 x y c) h (fun c d h => O_pair h x y) (fun c r e => (ZX11_pair e).sub (fun b j q => by unfold WSX11_pair at q; unfold lo222; omega)) (fun c r e => (ZX12_pair e).sub (fun b j q => by unfold WSX12_pair at q; unfold hi222; omega))
theorem U_part (h : RR m m) (x : Int32) : ∃ r m1 m2, FX11_part 0 x m = some (r, m1) ∧ FX12_part 222 x m1 = some (r, m2) ∧ RR m2 m2 := Un_sm (A := fun c => FX11_part 0 x c) (B := fun c => FX12_part 222 x c) h (fun c d h => O_part h x) (fun c r e => (ZX11_part e).sub (fun b j q => by unfold WSX11_part at q; unfold lo222; omega)) (fun c r e => (ZX12_part e).sub (fun b j q => by unfold WSX12_part at q; unfold hi222; omega))
theorem U_price (h : RR m m) (x n : Int32) : ∃ r m1 m2, FX11_price 0 x n m = some (r, m1) ∧ FX12_price 222 x n m1 = some (r, m2) ∧ RR m2 m2 := Un_sm (A := fun c => FX11_price 0 x n c) (B := fun c => FX12_price 222 x n c) h (fun c d h => O_price h x n) (fun c r e => (ZX11_price e).sub (fun b j q => by unfold WSX11_price at q; unfold lo222; omega)) (fun c r e => (ZX12_price e).sub (fun b j q => by unfold WSX12_price at q; unfold hi222; omega))
theorem U_crown (h : RR m m) (x n : Int32) : ∃ r m1 m2, FX11_crown 0 x n m = some (r, m1) ∧ FX12_crown 222 x n m1 = some (r, m2) ∧ RR m2 m2 := Un_sm (A := fun c => FX11_crown 0 x n c) (B := fun c => FX12_crown 222 x n c) h (fun c d h => O_crown h x n) (fun c r e => (ZX11_crown e).sub (fun b j q => by unfold WSX11_crown at q; unfold lo222; omega)) (fun c r e => (ZX12_crown e).sub (fun b j q => by unfold WSX12_crown at q; unfold hi222; omega))
theorem U_weigh (h : RR m m) (x y n : Int32) : ∃ r m1 m2, FX11_weigh 0 x y n m = some (r, m1) ∧ FX12_weigh 222 x y n m1 = some (r, m2) ∧ RR m2 m2 := Un_sm (A := fun c => FX11_weigh 0 x y n c) (B := fun c => FX12_weigh 222 x y n c) h (fun c d h => O_weigh h x y n) (fun c r e => (ZX11_weigh e).sub (fun b j q => by unfold WSX11_weigh at q; unfold lo222; omega)) (fun c r e => (ZX12_weigh e).sub (fun b j q => by unfold WSX12_weigh at q; unfold hi222; omega))
theorem U_open (h : RR m m) (x : Int32) : ∃ r m1 m2, FX11_open 0 x m = some (r, m1) ∧ FX12_open 222 x m1 = some (r, m2) ∧ RR m2 m2 := Un_sm (A := fun c => FX11_open 0 x c) (B := fun c => FX12_open 222 x c) h (fun c d h => O_open h x) (fun c r e => (ZX11_open e).sub (fun b j q => by unfold WSX11_open at q; unfold lo222; omega)) (fun c r e => (ZX12_open e).sub (fun b j q => by unfold WSX12_open at q; unfold hi222; omega))
theorem U_fault (h : RR m m) : ∃ r m2, FX11_fault 0 m = some r ∧ FX12_fault 222 m = some (r, m2) ∧ RR m2 m2 := Un_sv (A := fun c => FX11_fault 0 c) (B := fun c => FX12_fault 222 c) h (fun c d h => O_fault h) (fun c r e => (ZX12_fault e).sub (fun b j q => by unfold WSX12_fault at q; unfold hi222; omega))
theorem U_ask (h : RR m m) : ∃ r m2, FX11_ask 0 m = some r ∧ FX12_ask 222 m = some (r, m2) ∧ RR m2 m2 := Un_sv (A := fun c => FX11_ask 0 c) (B := fun c => FX12_ask 222 c) h (fun c d h => O_ask h) (fun c r e => (ZX12_ask e).sub (fun b j q => by unfold WSX12_ask at q; unfold hi222; omega))
theorem U_proofAt (h : RR m m) : ∃ r m2, FX11_proofAt 0 m = some r ∧ FX12_proofAt 222 m = some (r, m2) ∧ RR m2 m2 := Un_sv (A := fun c => FX11_proofAt 0 c) (B := fun c => FX12_proofAt 222 c) h (fun c d h => O_proofAt h) (fun c r e => (ZX12_proofAt e).sub (fun b j q => by unfold WSX12_proofAt at q; unfold hi222; omega))
theorem U_count (h : RR m m) (x : Int32) : ∃ r m2, FX11_count 0 x m = some r ∧ FX12_count 222 x m = some (r, m2) ∧ RR m2 m2 := Un_sv (A := fun c => FX11_count 0 x c) (B := fun c => FX12_count 222 x c) h (fun c d h => O_count h x) (fun c r e => (ZX12_count e).sub (fun b j q => by unfold WSX12_count at q; unfold hi222; omega))
theorem U_odd (h : RR m m) (x y : Int32) : ∃ r m2, FX11_odd 0 x y m = some r ∧ FX12_odd 222 x y m = some (r, m2) ∧ RR m2 m2 := Un_sv (A := fun c => FX11_odd 0 x y c) (B := fun c => FX12_odd 222 x y c) h (fun c d h => O_odd h x y) (fun c r e => (ZX12_odd e).sub (fun b j q => by unfold WSX12_odd at q; unfold hi222; omega))
theorem U_now (h : RR m m) (x : Int32) : ∃ r m2, FX11_now 0 x m = some r ∧ FX12_now 222 x m = some (r, m2) ∧ RR m2 m2 := Un_sv (A := fun c => FX11_now 0 x c) (B := fun c => FX12_now 222 x c) h (fun c d h => O_now h x) (fun c r e => (ZX12_now e).sub (fun b j q => by unfold WSX12_now at q; unfold hi222; omega))
theorem U_room (h : RR m m) (x : Int32) : ∃ r m2, FX11_room 0 x m = some r ∧ FX12_room 222 x m = some (r, m2) ∧ RR m2 m2 := Un_sv (A := fun c => FX11_room 0 x c) (B := fun c => FX12_room 222 x c) h (fun c d h => O_room h x) (fun c r e => (ZX12_room e).sub (fun b j q => by unfold WSX12_room at q; unfold hi222; omega))
theorem U_growAt (h : RR m m) (x : Int32) : ∃ r m2, FX11_growAt 0 x m = some r ∧ FX12_growAt 222 x m = some (r, m2) ∧ RR m2 m2 := Un_sv (A := fun c => FX11_growAt 0 x c) (B := fun c => FX12_growAt 222 x c) h (fun c d h => O_growAt h x) (fun c r e => (ZX12_growAt e).sub (fun b j q => by unfold WSX12_growAt at q; unfold hi222; omega))
theorem U_flowerAt (h : RR m m) (x : Int32) : ∃ r m2, FX11_flowerAt 0 x m = some r ∧ FX12_flowerAt 222 x m = some (r, m2) ∧ RR m2 m2 := Un_sv (A := fun c => FX11_flowerAt 0 x c) (B := fun c => FX12_flowerAt 222 x c) h (fun c d h => O_flowerAt h x) (fun c r e => (ZX12_flowerAt e).sub (fun b j q => by unfold WSX12_flowerAt at q; unfold hi222; omega))
theorem U_bestOf (h : RR m m) (x : Int32) : ∃ r m2, FX11_bestOf 0 x m = some r ∧ FX12_bestOf 222 x m = some (r, m2) ∧ RR m2 m2 := Un_sv (A := fun c => FX11_bestOf 0 x c) (B := fun c => FX12_bestOf 222 x c) h (fun c d h => O_bestOf h x) (fun c r e => (ZX12_bestOf e).sub (fun b j q => by unfold WSX12_bestOf at q; unfold hi222; omega))
theorem U_byteAt (h : RR m m) (x : Int32) : ∃ r m2, FX11_byteAt 0 x m = some r ∧ FX12_byteAt 222 x m = some (r, m2) ∧ RR m2 m2 := Un_sv (A := fun c => FX11_byteAt 0 x c) (B := fun c => FX12_byteAt 222 x c) h (fun c d h => O_byteAt h x) (fun c r e => (ZX12_byteAt e).sub (fun b j q => by unfold WSX12_byteAt at q; unfold hi222; omega))
theorem U_told (h : RR m m) (x : Int32) : ∃ r m2, FX11_told 0 x m = some r ∧ FX12_told 222 x m = some (r, m2) ∧ RR m2 m2 := Un_sv (A := fun c => FX11_told 0 x c) (B := fun c => FX12_told 222 x c) h (fun c d h => O_told h x) (fun c r e => (ZX12_told e).sub (fun b j q => by unfold WSX12_told at q; unfold hi222; omega))
theorem U_turn (h : RR m m) : ∃ r m1 m2, FX11_turn 0 m = some (r, m1) ∧ FX12_turn 222 m1 = some (r, m2) ∧ RR m2 m2 := Un_sm (A := fun c => FX11_turn 0 c) (B := fun c => FX12_turn 222 c) h (fun c d h => O_turn h) (fun c r e => (ZX11_turn e).sub (fun b j q => by unfold WSX11_turn at q; unfold lo222; omega)) (fun c r e => (ZX12_turn e).sub (fun b j q => by unfold WSX12_turn at q; unfold hi222; omega))
theorem U_shrink (h : RR m m) : ∃ r m1 m2, FX11_shrink 0 m = some (r, m1) ∧ FX12_shrink 222 m1 = some (r, m2) ∧ RR m2 m2 := Un_sm (A := fun c => FX11_shrink 0 c) (B := fun c => FX12_shrink 222 c) h (fun c d h => O_shrink h) (fun c r e => (ZX11_shrink e).sub (fun b j q => by unfold WSX11_shrink at q; unfold lo222; omega)) (fun c r e => (ZX12_shrink e).sub (fun b j q => by unfold WSX12_shrink at q; unfold hi222; omega))
theorem U_undo (h : RR m m) : ∃ r m1 m2, FX11_undo 0 m = some (r, m1) ∧ FX12_undo 222 m1 = some (r, m2) ∧ RR m2 m2 := Un_sm (A := fun c => FX11_undo 0 c) (B := fun c => FX12_undo 222 c) h (fun c d h => O_undo h) (fun c r e => (ZX11_undo e).sub (fun b j q => by unfold WSX11_undo at q; unfold lo222; omega)) (fun c r e => (ZX12_undo e).sub (fun b j q => by unfold WSX12_undo at q; unfold hi222; omega))
theorem U_heavy (h : RR m m) (x : Int32) : ∃ r m1 m2, FX11_heavy 0 x m = some (r, m1) ∧ FX12_heavy 222 x m1 = some (r, m2) ∧ RR m2 m2 := Un_sm (A := fun c => FX11_heavy 0 x c) (B := fun c => FX12_heavy 222 x c) h (fun c d h => O_heavy h x) (fun c r e => (ZX11_heavy e).sub (fun b j q => by unfold WSX11_heavy at q; unfold lo222; omega)) (fun c r e => (ZX12_heavy e).sub (fun b j q => by unfold WSX12_heavy at q; unfold hi222; omega))
theorem U_ways (h : RR m m) (x : Int32) : ∃ r m1 m2, FX11_ways 0 x m = some (r, m1) ∧ FX12_ways 222 x m1 = some (r, m2) ∧ RR m2 m2 := Un_sm (A := fun c => FX11_ways 0 x c) (B := fun c => FX12_ways 222 x c) h (fun c d h => O_ways h x) (fun c r e => (ZX11_ways e).sub (fun b j q => by unfold WSX11_ways at q; unfold lo222; omega)) (fun c r e => (ZX12_ways e).sub (fun b j q => by unfold WSX12_ways at q; unfold hi222; omega))
theorem U_next (h : RR m m) : ∃ r m1 m2, FX11_next 0 m = some (r, m1) ∧ FX12_next 222 m1 = some (r, m2) ∧ RR m2 m2 := Un_sm (A := fun c => FX11_next 0 c) (B := fun c => FX12_next 222 c) h (fun c d h => O_next h) (fun c r e => (ZX11_next e).sub (fun b j q => by unfold WSX11_next at q; unfold lo222; omega)) (fun c r e => (ZX12_next e).sub (fun b j q => by unfold WSX12_next at q; unfold hi222; omega))
theorem U_gain (h : RR m m) : ∃ r m1 m2, FX11_gain 0 m = some (r, m1) ∧ FX12_gain 222 m1 = some (r, m2) ∧ RR m2 m2 := Un_sm (A := fun c => FX11_gain 0 c) (B := fun c => FX12_gain 222 c) h (fun c d h => O_gain h) (fun c r e => (ZX11_gain e).sub (fun b j q => by unfold WSX11_gain at q; unfold lo222; omega)) (fun c r e => (ZX12_gain e).sub (fun b j q => by unfold WSX12_gain at q; unfold hi222; omega))
theorem U_best (h : RR m m) : ∃ r m1 m2, FX11_best 0 m = some (r, m1) ∧ FX12_best 222 m1 = some (r, m2) ∧ RR m2 m2 := Un_sm (A := fun c => FX11_best 0 c) (B := fun c => FX12_best 222 c) h (fun c d h => O_best h) (fun c r e => (ZX11_best e).sub (fun b j q => by unfold WSX11_best at q; unfold lo222; omega)) (fun c r e => (ZX12_best e).sub (fun b j q => by unfold WSX12_best at q; unfold hi222; omega))
theorem U_feed (h : RR m m) (x0 x1 x2 x3 x4 : Int32) : ∃ r m1 m2, FX11_feed 0 x0 x1 x2 x3 x4 m = some (r, m1) ∧ FX12_feed 222 x0 x1 x2 x3 x4 m1 = some (r, m2) ∧ RR m2 m2 := Un_sm (A := fun c => FX11_feed 0 x0 x1 x2 x3 x4 c) (B := fun c => FX12_feed 222 x0 x1 x2 x3 x4 c) h (fun c d h => O_feed h x0 x1 x2 x3 x4) (fun c r e => (ZX11_feed e).sub (fun b j q => by unfold WSX11_feed at q; unfold lo222; omega)) (fun c r e => (ZX12_feed e).sub (fun b j q => by unfold WSX12_feed at q; unfold hi222; omega))
theorem U_end (h : RR m m) (x : Int32) : ∃ r m1 m2, FX11_end 0 x m = some (r, m1) ∧ FX12_end 222 x m1 = some (r, m2) ∧ RR m2 m2 := Un_sm (A := fun c => FX11_end 0 x c) (B := fun c => FX12_end 222 x c) h (fun c d h => O_end h x) (fun c r e => (ZX11_end e).sub (fun b j q => by unfold WSX11_end at q; unfold lo222; omega)) (fun c r e => (ZX12_end e).sub (fun b j q => by unfold WSX12_end at q; unfold hi222; omega))
theorem U_link (h : RR m m) (x y : Int32) : ∃ r m1 m2, FX11_link 0 x y m = some (r, m1) ∧ FX12_link 222 x y m1 = some (r, m2) ∧ RR m2 m2 := Un_sm (A := fun c => FX11_link 0 x y c) (B := fun c => FX12_link 222 x y c) h (fun c d h => O_link h x y) (fun c r e => (ZX11_link e).sub (fun b j q => by unfold WSX11_link at q; unfold lo222; omega)) (fun c r e => (ZX12_link e).sub (fun b j q => by unfold WSX12_link at q; unfold hi222; omega))
theorem U_grow (h : RR m m) (x : Int32) : ∃ r m1 m2, FX11_grow 0 x m = some (r, m1) ∧ FX12_grow 222 x m1 = some (r, m2) ∧ RR m2 m2 := Un_sm (A := fun c => FX11_grow 0 x c) (B := fun c => FX12_grow 222 x c) h (fun c d h => O_grow h x) (fun c r e => (ZX11_grow e).sub (fun b j q => by unfold WSX11_grow at q; unfold lo222; omega)) (fun c r e => (ZX12_grow e).sub (fun b j q => by unfold WSX12_grow at q; unfold hi222; omega))
theorem U_flower (h : RR m m) (x : Int32) : ∃ r m1 m2, FX11_flower 0 x m = some (r, m1) ∧ FX12_flower 222 x m1 = some (r, m2) ∧ RR m2 m2 := Un_sm (A := fun c => FX11_flower 0 x c) (B := fun c => FX12_flower 222 x c) h (fun c d h => O_flower h x) (fun c r e => (ZX11_flower e).sub (fun b j q => by unfold WSX11_flower at q; unfold lo222; omega)) (fun c r e => (ZX12_flower e).sub (fun b j q => by unfold WSX12_flower at q; unfold hi222; omega))
theorem U_network (h : RR m m) : ∃ r m1 m2, FX11_network 0 m = some (r, m1) ∧ FX12_network 222 m1 = some (r, m2) ∧ RR m2 m2 := Un_sm (A := fun c => FX11_network 0 c) (B := fun c => FX12_network 222 c) h (fun c d h => O_network h) (fun c r e => (ZX11_network e).sub (fun b j q => by unfold WSX11_network at q; unfold lo222; omega)) (fun c r e => (ZX12_network e).sub (fun b j q => by unfold WSX12_network at q; unfold hi222; omega))
theorem U_proof (h : RR m m) : ∃ r m1 m2, FX11_proof 0 m = some (r, m1) ∧ FX12_proof 222 m1 = some (r, m2) ∧ RR m2 m2 := Un_sm (A := fun c => FX11_proof 0 c) (B := fun c => FX12_proof 222 c) h (fun c d h => O_proof h) (fun c r e => (ZX11_proof e).sub (fun b j q => by unfold WSX11_proof at q; unfold lo222; omega)) (fun c r e => (ZX12_proof e).sub (fun b j q => by unfold WSX12_proof at q; unfold hi222; omega))
theorem U_image (h : RR m m) (x : Int32) : ∃ r m1 m2, FX11_image 0 x m = some (r, m1) ∧ FX12_image 222 x m1 = some (r, m2) ∧ RR m2 m2 := Un_sm (A := fun c => FX11_image 0 x c) (B := fun c => FX12_image 222 x c) h (fun c d h => O_image h x) (fun c r e => L_image e) (fun c r e => (ZX12_image e).sub (fun b j q => by unfold WSX12_image at q; unfold hi222; omega))
theorem U_restore (h : RR m m) (x : Int32) : ∃ r m1 m2, FX11_restore 0 x m = some (r, m1) ∧ FX12_restore 222 x m1 = some (r, m2) ∧ RR m2 m2 := Un_sm (A := fun c => FX11_restore 0 x c) (B := fun c => FX12_restore 222 x c) h (fun c d h => O_restore h x) (fun c r e => L_restore e) (fun c r e => (ZX12_restore e).sub (fun b j q => by unfold WSX12_restore at q; unfold hi222; omega))
theorem U_who (h : RR m m) : ∃ r m1 m2, FX11_who 0 m = some (r, m1) ∧ FX12_who 222 m1 = some (r, m2) ∧ RR m2 m2 := Un_sm (A := fun c => FX11_who 0 c) (B := fun c => FX12_who 222 c) h (fun c d h => O_who h) (fun c r e => (ZX11_who e).sub (fun b j q => by unfold WSX11_who at q; unfold lo222; omega)) (fun c r e => (ZX12_who e).sub (fun b j q => by unfold WSX12_who at q; unfold hi222; omega))
theorem U_drawn (h : RR m m) (x y : Int32) : ∃ r m1 m2, FX11_drawn 0 x y m = some (r, m1) ∧ FX12_drawn 222 x y m1 = some (r, m2) ∧ RR m2 m2 := Un_sm (A := fun c => FX11_drawn 0 x y c) (B := fun c => FX12_drawn 222 x y c) h (fun c d h => O_drawn h x y) (fun c r e => (ZX11_drawn e).sub (fun b j q => by unfold WSX11_drawn at q; unfold lo222; omega)) (fun c r e => (ZX12_drawn e).sub (fun b j q => by unfold WSX12_drawn at q; unfold hi222; omega))
theorem U_odds (h : RR m m) (x y z : Int32) : ∃ r m1 m2, FX11_odds 0 x y z m = some (r, m1) ∧ FX12_odds 222 x y z m1 = some (r, m2) ∧ RR m2 m2 := Un_sm (A := fun c => FX11_odds 0 x y z c) (B := fun c => FX12_odds 222 x y z c) h (fun c d h => O_odds h x y z) (fun c r e => (ZX11_odds e).sub (fun b j q => by unfold WSX11_odds at q; unfold lo222; omega)) (fun c r e => (ZX12_odds e).sub (fun b j q => by unfold WSX12_odds at q; unfold hi222; omega))
theorem U_book (h : RR m m) (x : Int32) : ∃ r m1 m2, FX11_book 0 x m = some (r, m1) ∧ FX12_book 222 x m1 = some (r, m2) ∧ RR m2 m2 := Un_sm (A := fun c => FX11_book 0 x c) (B := fun c => FX12_book 222 x c) h (fun c d h => O_book h x) (fun c r e => (ZX11_book e).sub (fun b j q => by unfold WSX11_book at q; unfold lo222; omega)) (fun c r e => (ZX12_book e).sub (fun b j q => by unfold WSX12_book at q; unfold hi222; omega))
theorem U_said (h : RR m m) (x : Int32) : ∃ r m1 m2, FX11_said 0 x m = some (r, m1) ∧ FX12_said 222 x m1 = some (r, m2) ∧ RR m2 m2 := Un_sm (A := fun c => FX11_said 0 x c) (B := fun c => FX12_said 222 x c) h (fun c d h => O_said h x) (fun c r e => (ZX11_said e).sub (fun b j q => by unfold WSX11_said at q; unfold lo222; omega)) (fun c r e => (ZX12_said e).sub (fun b j q => by unfold WSX12_said at q; unfold hi222; omega))
theorem U_sentence (h : RR m m) : ∃ r m1 m2, FX11_sentence 0 m = some (r, m1) ∧ FX12_sentence 222 m1 = some (r, m2) ∧ RR m2 m2 := Un_sm (A := fun c => FX11_sentence 0 c) (B := fun c => FX12_sentence 222 c) h (fun c d h => O_sentence h) (fun c r e => (ZX11_sentence e).sub (fun b j q => by unfold WSX11_sentence at q; unfold lo222; omega)) (fun c r e => (ZX12_sentence e).sub (fun b j q => by unfold WSX12_sentence at q; unfold hi222; omega))
theorem U_tag (h : RR m m) (x : Int32) : ∃ r m1 m2, FX11_tag 0 x m = some (r, m1) ∧ FX12_tag 222 x m1 = some (r, m2) ∧ RR m2 m2 := Un_sm (A := fun c => FX11_tag 0 x c) (B := fun c => FX12_tag 222 x c) h (fun c d h => O_tag h x) (fun c r e => L_tag e) (fun c r e => (ZX12_tag e).sub (fun b j q => by unfold WSX12_tag at q; unfold hi222; omega))
theorem U_point {m' : mB} (h : RR m m) (hw : mx_out (fun b _ => 249 ≤ b) m m') (x y : Int32) : ∃ r m2, FX12_point 222 x y m' = some (r, m2) ∧ RR m2 m2 ∧ m2.2 249 0 = m'.2 249 0 ∧ ((FX11_point 0 x y m = some r ∧ m2.1 222 0 = 0) ∨ ((∃ b, FX4_hasPoint 4 x m = some b ∧ (b = 0 ∨ y < 0 ∨ ¬ y ≤ 4)) ∧ m2.1 222 0 = 1)) := Un_th (A := fun c => FX11_point 0 x y c) (TH := fun c => (∃ b, FX4_hasPoint 4 x c = some b ∧ (b = 0 ∨ y < 0 ∨ ¬ y ≤ 4))) (B := fun c => FX12_point 222 x y c) h hw (fun c d h => T_point h x y) (fun c r e => (ZX12_point e).sub (fun b j q => by unfold WSX12_point at q; unfold hi222; omega))
theorem U_slack {m' : mB} (h : RR m m) (hw : mx_out (fun b _ => 249 ≤ b) m m') (x : Int32) : ∃ r m2, FX12_slack 222 x m' = some (r, m2) ∧ RR m2 m2 ∧ m2.2 249 0 = m'.2 249 0 ∧ ((FX11_slack 0 x m = some r ∧ m2.1 222 0 = 0) ∨ ((FX4_hasLink 4 x m = some 0) ∧ m2.1 222 0 = 1)) := Un_th (A := fun c => FX11_slack 0 x c) (TH := fun c => (FX4_hasLink 4 x c = some 0)) (B := fun c => FX12_slack 222 x c) h hw (fun c d h => T_slack h x) (fun c r e => (ZX12_slack e).sub (fun b j q => by unfold WSX12_slack at q; unfold hi222; omega))
theorem U_proofBy {m' : mB} (h : RR m m) (hw : mx_out (fun b _ => 249 ≤ b) m m') : ∃ r m2, FX12_proofBy 222 m' = some (r, m2) ∧ RR m2 m2 ∧ m2.2 249 0 = m'.2 249 0 ∧ ((FX11_proofBy 0 m = some r ∧ m2.1 222 0 = 0) ∨ ((m.1 0 16 = -1) ∧ m2.1 222 0 = 1)) := Un_th (A := fun c => FX11_proofBy 0 c) (TH := fun c => (c.1 0 16 = -1)) (B := fun c => FX12_proofBy 222 c) h hw (fun c d h => T_proofBy h) (fun c r e => (ZX12_proofBy e).sub (fun b j q => by unfold WSX12_proofBy at q; unfold hi222; omega))
theorem U_mean {m' : mB} (h : RR m m) (hw : mx_out (fun b _ => 249 ≤ b) m m') (x : Int32) : ∃ r m2, FX12_mean 222 x m' = some (r, m2) ∧ RR m2 m2 ∧ m2.2 249 0 = m'.2 249 0 ∧ ((FX11_mean 0 x m = some r ∧ m2.1 222 0 = 0) ∨ ((∃ b, FX4_pairs 4 m = some b ∧ (b < 1 ∨ x < 0 ∨ ¬ x ≤ 1)) ∧ m2.1 222 0 = 1)) := Un_th (A := fun c => FX11_mean 0 x c) (TH := fun c => (∃ b, FX4_pairs 4 c = some b ∧ (b < 1 ∨ x < 0 ∨ ¬ x ≤ 1))) (B := fun c => FX12_mean 222 x c) h hw (fun c d h => T_mean h x) (fun c r e => (ZX12_mean e).sub (fun b j q => by unfold WSX12_mean at q; unfold hi222; omega))
end ONE
