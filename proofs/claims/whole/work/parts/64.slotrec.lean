/-! ===== slotFor ===== -/
section SREC
variable {m m1 : mB} {N : Rw} {n : Nat}
theorem CG_WM (g : GI N) (h : CG m 46 N) (z : mx_out WM m m1) : CG m1 46 N := CG_mv g h (z.fld 46 0 (by unfold WM; omega)) (z.fld 46 1 (by unfold WM; omega)) (z.cell _ (fun j => by unfold WM; omega)) (z.cell _ (fun j => by unfold WM; omega)) (z.cell _ (fun j => by unfold WM; omega)) (z.cell _ (fun j => by unfold WM; omega)) (z.cell _ (fun j => by unfold WM; omega)) (fun _ _ => rfl) (fun _ _ => rfl)
def Fq (N : Rw) (free q : Nat) : List (Nat × Nat) := (tl N (clr (clr free (lst free)) q)).map (fun x => (Wt N (lst free) q + x.1, x.2 + 1))
def qf (N : Rw) (free k : Nat) : List Nat := (List.range k).filter (fun q => (clr free (lst free)).testBit q && lk N (lst free) q)
theorem qf_mem {free k q : Nat} (h : q ∈ qf N free k) : q < k ∧ (clr free (lst free)).testBit q = true ∧ lk N (lst free) q = true := by
  unfold qf at h
  rw [List.mem_filter, Bool.and_eq_true, List.mem_range] at h
  exact ⟨h.1, h.2.1, h.2.2⟩
theorem LB_part (g : GI N) (s : SI N) {free k : Nat} (hf : free < 1024) (h0 : free ≠ 0) (hk : k ≤ 10) : LB (tl N (clr free (lst free)) ++ (qf N free k).flatMap (Fq N free)) := by
  obtain ⟨l1, l2⟩ := lst_ok free hf h0
  have c2 := clr_1024 free hf _ l1
  have p1 := pc_clr free hf _ l1 l2
  have hp := @pc_le free
  obtain ⟨b1, -, b3⟩ := tl_b g s _ c2
  have t10 : ∀ j, j ≤ 10 → tm j ≤ 9496 := fun j hj => by have := tm_le hj; rw [tm_10] at this; exact this
  refine ⟨?_, fun x hx => ?_⟩
  · rw [List.length_append]
    have h1 := t10 _ (show pc (clr free (lst free)) ≤ 10 by omega)
    have h2 := flat_len (Fq N free) 9496 (qf N free k) (fun q hq => by
      obtain ⟨q1, q2, -⟩ := qf_mem hq
      have p2 := pc_clr _ c2 q (by omega) q2
      have := (tl_b g s _ (clr_1024 _ c2 q (by omega))).1
      have h3 := t10 _ (show pc (clr (clr free (lst free)) q) ≤ 10 by omega)
      unfold Fq
      rw [List.length_map]
      omega)
    have h4 : (qf N free k).length ≤ 10 := by
      have : (qf N free k).length ≤ (List.range k).length := List.length_filter_le _ _
      rw [List.length_range] at this
      omega
    have h5 : (qf N free k).length * 9496 ≤ 10 * 9496 := Nat.mul_le_mul_right _ h4
    omega
  · rw [List.mem_append] at hx
    rcases hx with hx | hx
    · have := b3 x hx; omega
    · rw [List.mem_flatMap] at hx
      obtain ⟨q, hq, hx⟩ := hx
      obtain ⟨q1, q2, -⟩ := qf_mem hq
      unfold Fq at hx
      obtain ⟨y, hy, rfl⟩ := List.mem_map.mp hx
      have p2 := pc_clr _ c2 q (by omega) q2
      have := (tl_b g s _ (clr_1024 _ c2 q (by omega))).2.2 y hy
      have hw := Wt_le g s (lst free) q
      dsimp only
      omega
theorem pow10 {n : Nat} (h : n ≤ 10) {x : Nat} (hx : x < 2 ^ n) : x < 1024 := Nat.lt_of_lt_of_le hx (pow_le h)
theorem bit_lt {n x j : Nat} (hx : x < 2 ^ n) (hb : x.testBit j = true) : j < n := by
  rcases Nat.lt_or_ge j n with q | q
  · exact q
  · have := Nat.testBit_lt_two_pow (x := x) (i := j) (Nat.lt_of_lt_of_le hx (Nat.pow_le_pow_right (by omega) q))
    rw [this] at hb
    cases hb
theorem C_slotFor (g : GI N) (s : SI N) (hnP : n = nP N) : ∀ (D : Nat) {free depth : Nat} {m : mB}, pc free < D → depth + pc free ≤ 10 → free < 2 ^ n → rOK n free = true → CG m 46 N → MI m n → (∀ j, j ≤ free → m.1 57 j ≠ -1 → VL m N j) → hw (FX2_slotFor D 45 (i3 free) (i3 depth) m) (QM N n free m) := by
  have hn10 := g.1.2
  intro D
  induction D with
  | zero => intro free depth m hD; omega
  | succ D ih =>
    intro free depth m hD hdep hfr hr hC hM hV
    have hn : n < 11 := by omega
    have hf : free < 1024 := pow10 (by omega) hfr
    rw [FX2_slotFor]
    unfold FX2_slotFor_B
    rw [if_neg (i3_ge0 (by omega)), if_neg (by show ¬ i3 1024 ≤ i3 free; rw [i3_le (by omega) (by omega)]; omega), if_pos (by show i3 depth ≤ i3 10; rw [i3_le (by omega) (by omega)]; omega), mx_inb_i3 hf (by omega), mx_chkT, i3_toNat (by omega)]
    by_cases h57 : m.1 57 free = -1
    · rw [if_pos (show m.1 (45 + 12) free = -1 from h57)]
      have k1 := MI_lt hn hM hf hr h57
      have e5 : m.1 45 5 = i3 (KN m) := hM.1
      rw [mx_letI, e5, if_neg (i3_ge0 (by omega)), if_pos (by show i3 (KN m) < i3 144; rw [i3_lt (by omega) (by omega)]; omega), i3_succ, mx_letI, mx_letI]
      by_cases h0 : free = 0
      · subst h0
        rw [if_pos (show i3 0 = 0 from rfl)]
        obtain ⟨m2, e2, I2⟩ := IM_new (N := N) hn hf hr hM h57 hV true
        show hw (Option.bind (FX2_startSlot 45 (i3 (KN m)) (b2 true) (mx_up (mx_up m.1 45 5 (i3 (KN m + 1))) 57 0 (i3 (KN m)), m.2)) _) _
        rw [e2, ob_some, if_pos (show i3 0 = 0 from rfl)]
        rw [if_pos rfl] at I2
        exact hw_some (IM_done hn hr hM hf h57 I2 (by rw [tl_0]) (fun h => absurd rfl h))
      · have hne : ¬ i3 free = 0 := by show ¬ i3 free = i3 0; rw [i3_eq (by omega) (by omega)]; exact h0
        rw [if_neg hne]
        obtain ⟨m2, e2, I2⟩ := IM_new (N := N) hn hf hr hM h57 hV false
        show hw (Option.bind (FX2_startSlot 45 (i3 (KN m)) (b2 false) (mx_up (mx_up m.1 45 5 (i3 (KN m + 1))) 57 free (i3 (KN m)), m.2)) _) _
        rw [e2, ob_some, if_neg hne, FX2_least hf h0, ob_some]
        rw [if_neg (by decide)] at I2
        obtain ⟨l1, l2⟩ := lst_ok free hf h0
        have lp := bit_lt hfr l2
        have c1 := clr_lt free hf _ l1 l2
        have c2 := clr_1024 free hf _ l1
        have c3 := clr_pw n hn free hfr _ lp
        have p1 := pc_clr free hf _ l1 l2
        obtain ⟨rs1, rs2⟩ := rOK_step hn hfr hr h0
        show hw (mx_let (i3 free &&& (pw (lst free) ^^^ (-1))) _) _
        rw [clr_i3 hf l1, mx_letI]
        have K10 := KN_1024 m
        -- the lone ones
        have R := ih (free := clr free (lst free)) (depth := depth + 1) (m := m2) (by omega) (by omega) c3 rs1 (CG_WM g hC I2.2.2.2.2.2.2.2.2) I2.1 (fun j hj h1 => I2.2.2.2.2.1 j (by omega) h1)
        obtain ⟨⟨r1, m3⟩, e3, Q3⟩ := R
        rw [i3_succ, e3, ob_some]
        have I3 := IM_rec hf c1 I2 Q3
        obtain ⟨⟨sl1, w1, w2, w3⟩, -, Q4, -⟩ := Q3
        dsimp only at w2 w3
        subst w2
        have nn : ∀ {x : Nat}, x < 2147483648 → i3 x ≠ -1 := fun hx q => (i3_ne1 hx).mp q
        obtain ⟨sl2, L1, v1, v2, v3, v4, -⟩ := Q4 _ (Nat.le_refl _) (by rw [w3]; exact nn (by omega))
        rw [w3, i3_eq (by omega) (by omega)] at v2
        subst v2
        have hdiff : ∀ {m' : mB} {L : List (Nat × Nat)} {y slx : Nat}, IM N n free m m' L → y < free → slx < 144 → m'.1 57 y = i3 slx → KN m ≠ slx := by
          intro m' L y slx hI hy hs he q
          have := hI.1.2.2 y free (by omega) hf (by rw [he]; exact nn (by omega)) (by rw [he, hI.2.1, q])
          omega
        obtain ⟨m4, e4, s4, z4⟩ := C_addWays (m := m3) k1 w1 (hdiff I3 c1 w1 w3) (w := 0) (more := 0) (by omega) (by omega) (L := []) (L' := L1) ⟨by simp, by simp⟩ (LB_perm v4 (tl_LB g s c2)) (fun q => by
          rw [q] at v4
          exact (tl_b g s _ c2).2.1 (List.nil_perm.mp v4)) I3.2.2.2.1 v3
        show hw (Option.bind (FX2_addWays 45 (i3 (KN m)) (i3 sl1) (i3 0) (i3 0) m3) _) _
        rw [e4, ob_some]
        rw [List.nil_append, shl_00] at s4
        have I4 := IM_add hn hf I3 z4 s4
        have hC4 := CG_WM g hC I4.2.2.2.2.2.2.2.2
        show hw (Option.bind (FX4_nearTo 46 (i3 (lst free)) m4) _) _
        rw [C_nearTo_y g hC4 (by omega), ob_some, mx_letI, mx_letI, i3_succ]
        have hnb : ∀ j, j < 32 → bt (m4.1 (46 + 2) (lst free) &&& i3 (clr free (lst free))) j = ((clr free (lst free)).testBit j && lk N (lst free) j) := fun j hj => by
          rw [bt_and, hC4.2.1 _ (by omega), bt_i3 hj, Bool.and_comm]
        have q0 : qf N free (lst free + 1) = [] := by
          unfold qf
          rw [List.filter_eq_nil_iff]
          intro q hq
          rw [List.mem_range] at hq
          rw [clr_bit]
          by_cases e : q = lst free
          · simp [e]
          · rw [lst_least (m := free) (by omega) hf]
            simp
        -- the others
        have key : hw (FX2_slotFor_L142 (FX2_slotFor D) 45 (i3 depth) (i3 (KN m)) (i3 (lst free)) (i3 (clr free (lst free))) (m4.1 (46 + 2) (lst free) &&& i3 (clr free (lst free))) mx_FU (i3 (lst free + 1)) m4) (fun m' => (∃ L, IM N n free m m' L ∧ L.Perm (tl N free)) ∧ CL m' N free) := by
          refine lp_inv (L := fun fu y m' => FX2_slotFor_L142 (FX2_slotFor D) 45 (i3 depth) (i3 (KN m)) (i3 (lst free)) (i3 (clr free (lst free))) (m4.1 (46 + 2) (lst free) &&& i3 (clr free (lst free))) fu y m') (n := 10)
            (fun k m' => (∃ L, IM N n free m m' L ∧ L.Perm (tl N (clr free (lst free)) ++ (qf N free k).flatMap (Fq N free))) ∧ m'.1 57 (clr free (lst free)) ≠ -1 ∧ ∀ q ∈ qf N free k, m'.1 57 (clr (clr free (lst free)) q) ≠ -1) ?_ ?_ (lst free + 1) mx_FU m4 (by omega) (FU_lt (by omega)) ⟨⟨L1, I4, by rw [q0]; simpa using v4⟩, by rw [z4.cell 57 (fun j => by unfold SE; omega), w3]; exact nn (by omega), by rw [q0]; simp⟩
          · intro fu m5 hm
            show hw (FX2_slotFor_L142 (FX2_slotFor D) 45 (i3 depth) (i3 (KN m)) (i3 (lst free)) (i3 (clr free (lst free))) (m4.1 (46 + 2) (lst free) &&& i3 (clr free (lst free))) (fu + 1) (i3 10) m5) _
            rw [FX2_slotFor_L142]
            obtain ⟨⟨L, hI, hp⟩, hc1, hc2⟩ := hm
            refine hw_some ⟨⟨L, hI, ?_⟩, fun _ => ⟨hc1, fun q hq hb hl => hc2 q ?_⟩⟩
            · rw [tl_eq N hf h0]
              exact hp.trans List.perm_append_comm
            · unfold qf
              rw [List.mem_filter, List.mem_range, hb, hl]
              exact ⟨hq, rfl⟩
          · intro fu k m5 hk hm hs2
            show hw (FX2_slotFor_L142 (FX2_slotFor D) 45 (i3 depth) (i3 (KN m)) (i3 (lst free)) (i3 (clr free (lst free))) (m4.1 (46 + 2) (lst free) &&& i3 (clr free (lst free))) (fu + 1) (i3 k) m5) _
            obtain ⟨⟨L, hI, hp⟩, hc1, hc2⟩ := hm
            have hqs : qf N free (k + 1) = qf N free k ++ (if ((clr free (lst free)).testBit k && lk N (lst free) k) = true then [k] else []) := by
              unfold qf
              rw [List.range_succ, List.filter_append]
              congr 1
              by_cases c : ((clr free (lst free)).testBit k && lk N (lst free) k) = true
              · rw [if_pos c, List.filter_cons, if_pos c]; rfl
              · rw [if_neg c, List.filter_cons, if_neg c]; rfl
            rw [FX2_slotFor_L142, if_neg (by show ¬ i3 10 ≤ i3 k; rw [i3_le (by omega) (by omega)]; omega)]
            have ebt := bt_sh (m4.1 (46 + 2) (lst free) &&& i3 (clr free (lst free))) (k := k) (by omega)
            rw [hnb k (by omega)] at ebt
            by_cases c : ((clr free (lst free)).testBit k && lk N (lst free) k) = true
            · rw [if_neg (fun q => by rw [ebt.mp q] at c; cases c)]
              rw [if_pos c] at hqs
              rw [Bool.and_eq_true] at c
              have kn := bit_lt c3 c.1
              have d1 := clr_lt _ c2 k hk c.1
              have d2 := clr_1024 _ c2 k hk
              have d3 := clr_pw n hn _ c3 k kn
              have p2 := pc_clr _ c2 k hk c.1
              have R := ih (free := clr (clr free (lst free)) k) (depth := depth + 1) (m := m5) (by omega) (by omega) d3 (rs2 k kn c.1) (CG_WM g hC hI.2.2.2.2.2.2.2.2) hI.1 (fun j hj h1 => hI.2.2.2.2.1 j (by omega) h1)
              obtain ⟨⟨r6, m6⟩, e6, Q6⟩ := R
              show hw (Option.bind (FX2_slotFor D 45 (i3 (clr free (lst free)) &&& (pw k ^^^ (-1))) (i3 depth + 1) m5) _) _
              rw [clr_i3 c2 hk, i3_succ, e6, ob_some]
              have I6 := IM_rec hf (show clr (clr free (lst free)) k < free by omega) hI Q6
              obtain ⟨⟨sl6, y1, y2, y3⟩, -, Q7, -, Q8, -⟩ := Q6
              dsimp only at y2 y3
              subst y2
              obtain ⟨sl7, L6, x1, x2, x3, x4, -⟩ := Q7 _ (Nat.le_refl _) (by rw [y3]; exact nn (by omega))
              rw [y3, i3_eq (by omega) (by omega)] at x2
              subst x2
              have hC6 := CG_WM g hC I6.2.2.2.2.2.2.2.2
              show hw (Option.bind (FX4_weightOf 46 (i3 (lst free)) (i3 k) m6) _) _
              rw [Wt_C g s hC6 c.2, ob_some]
              obtain ⟨m7, e7, s7, z7⟩ := C_addWays (m := m6) k1 y1 (hdiff I6 (show clr (clr free (lst free)) k < free by omega) y1 y3) (w := Wt N (lst free) k) (more := 1) (Wt_le g s _ _) (by omega) (L := L) (L' := L6) (LB_perm hp (LB_part g s hf h0 (by omega))) (LB_perm x4 (tl_LB g s d2)) (fun q => by
                rw [q] at x4
                exact (tl_b g s _ d2).2.1 (List.nil_perm.mp x4)) I6.2.2.2.1 x3
              show hw (Option.bind (FX2_addWays 45 (i3 (KN m)) (i3 sl6) (i3 (Wt N (lst free) k)) (i3 1) m6) _) _
              rw [e7, ob_some, mx_letI, i3_succ]
              have s57 : m7.1 57 = m6.1 57 := z7.cell 57 (fun j => by unfold SE; omega)
              refine hs2 m7 ⟨⟨_, IM_add hn hf I6 z7 s7, ?_⟩, ?_, fun q hq => ?_⟩
              · rw [hqs, List.flatMap_append, ← List.append_assoc]
                refine List.Perm.append hp ?_
                show (shl (Wt N (lst free) k) 1 L6).Perm ([k].flatMap (Fq N free))
                simp only [List.flatMap_cons, List.flatMap_nil, List.append_nil]
                unfold shl Fq
                exact x4.map _
              · rw [s57, Q8 _ c2 hc1]; exact hc1
              · rw [s57]
                rw [hqs, List.mem_append, List.mem_singleton] at hq
                rcases hq with hq | hq
                · rw [Q8 _ (clr_1024 _ c2 q (by have := (qf_mem hq).1; omega)) (hc2 q hq)]; exact hc2 q hq
                · rw [hq, y3]; exact nn (by omega)
            · rw [if_pos (ebt.mpr (by revert c; cases ((clr free (lst free)).testBit k && lk N (lst free) k) <;> simp)), mx_letI, i3_succ]
              rw [if_neg c, List.append_nil] at hqs
              exact hs2 m5 ⟨⟨L, hI, by rw [hqs]; exact hp⟩, hc1, by rw [hqs]; exact hc2⟩
        obtain ⟨m8, e8, ⟨L8, I8, P8⟩, C8⟩ := key
        show hw (Option.bind (FX2_slotFor_L142 (FX2_slotFor D) 45 (i3 depth) (i3 (KN m)) (i3 (lst free)) (i3 (clr free (lst free))) (m4.1 (46 + 2) (lst free) &&& i3 (clr free (lst free))) mx_FU (i3 (lst free + 1)) m4) _) _
        rw [e8, ob_some]
        exact hw_some (IM_done hn hr hM hf h57 I8 P8 C8)
    · rw [if_neg (show ¬ m.1 (45 + 12) free = -1 from h57)]
      obtain ⟨sl, L, c1, c2, c3, c4, -⟩ := hV free (Nat.le_refl _) h57
      rw [slotKnown_y hf c1 c2, ob_some]
      exact hw_some ⟨⟨sl, c1, rfl, c2⟩, hM, hV, fun _ _ => sam.rf, fun _ _ _ => rfl, fun _ _ => rfl, mx_out.rf, Nat.le_refl _⟩
end SREC
