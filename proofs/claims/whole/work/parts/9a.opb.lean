/-! ===== operations: what is asked; the tape ===== -/
section OPB
variable {c c' d d' : mB}
theorem O_fault (h : RR c d) : Sv c (FX11_fault 0 c) (FX12_fault 222 d) := by
  have h0 := th0 h 0
  exact hb_some ⟨h0.2.1, h0⟩
theorem O_ask (h : RR c d) : Sv c (FX11_ask 0 c) (FX12_ask 222 d) := by
  have h0 := th0 h 0
  exact hb_some ⟨h0.2.2.2.2.2.2.2.1, h0⟩
theorem O_proofAt (h : RR c d) : Sv c (FX11_proofAt 0 c) (FX12_proofAt 222 d) := by
  have h0 := th0 h 0
  exact hb_some ⟨h0.2.2.2.2.2.2.1.1, h0⟩
theorem O_count (h : RR c d) (x : Int32) : Sv c (FX11_count 0 x c) (FX12_count 222 x d) := by
  have h0 := th0 h 0
  unfold FX11_count FX12_count FX4_points FX4_links FX4_sets FX10_length
  rw [mx_letI]
  generalize (mx_up d.1 222 0 0, d.2) = d0 at h0 ⊢
  obtain ⟨g, s, hg, hs⟩ := h0.2.2.1.1
  obtain ⟨n, t, -, t2, t3, -⟩ := h0.1
  by_cases c0 : x = 0
  · rw [if_pos c0, if_pos c0]; exact hb_some ⟨hg.1.1, h0⟩
  · rw [if_neg c0, if_neg c0]
    by_cases c1 : x = 1
    · rw [if_pos c1, if_pos c1]; exact hb_some ⟨hg.1.2, h0⟩
    · rw [if_neg c1, if_neg c1]
      by_cases c2 : x = 2
      · rw [if_pos c2, if_pos c2]; exact hb_some ⟨hs.1.1, h0⟩
      · rw [if_neg c2, if_neg c2]
        by_cases c3 : x = 3
        · rw [if_pos c3, if_pos c3]; exact hb_some ⟨t2.trans t3.symm, h0⟩
        · rw [if_neg c3, if_neg c3]; exact hb_some ⟨rfl, h0⟩
theorem O_odd (h : RR c d) (x y : Int32) : Sv c (FX11_odd 0 x y c) (FX12_odd 222 x y d) := by
  have h0 := th0 h 0
  unfold FX11_odd FX12_odd
  rw [mx_letI]
  generalize (mx_up d.1 222 0 0, d.2) = d0 at h0 ⊢
  obtain ⟨g, s, hg, hs⟩ := h0.2.2.1.1
  have hK := s.1.2
  show Sv c (Option.bind (FX4_hasSet 4 x c) _) _
  rcases i3_cases x (nK (d0.1 224)) (by omega) with ⟨k, hk, rfl⟩ | ⟨-, hx⟩
  · rw [C_hasSet_y s hs hk, M_isOdd_y s rfl hk, ob_some, ob_some, if_neg (show ¬ (1 : Int32) = 0 by decide), if_neg (show ¬ (1 : Int32) = 0 by decide)]
    by_cases c0 : y = 0
    · rw [if_pos c0, if_pos c0]
      show Sv c (Option.bind (FX4_membersOf 4 (i3 k) c) _) _
      rw [C_membersOf_y s hs hk, ob_some, i3_Ladd, mx_inb_i3 (by omega) (by omega), mx_chkT, i3_toNat (by omega)]
      exact hb_some ⟨rfl, h0⟩
    · rw [if_neg c0, if_neg c0]
      by_cases c1 : y = 1
      · rw [if_pos c1, if_pos c1]
        show Sv c (Option.bind (FX4_crownOf 4 (i3 k) c) _) _
        rw [C_crownOf_y s hs hk, ob_some, i3_Ladd, mx_inb_i3 (by omega) (by omega), mx_chkT, i3_toNat (by omega)]
        exact hb_some ⟨rfl, h0⟩
      · rw [if_neg c1, if_neg c1]
        by_cases c2 : y = 2
        · rw [if_pos c2, if_pos c2]
          show Sv c (Option.bind (FX4_pairsWithin 4 (i3 k) c) _) _
          rw [C_pairsWithin g s hg hs hk, ob_some, i3_Ladd, mx_inb_i3 (by omega) (by omega), mx_chkT, i3_toNat (by omega), M_pairsIn g s rfl, ob_some]
          exact hb_some ⟨rfl, h0⟩
        · rw [if_neg c2, if_neg c2]; exact hb_some ⟨rfl, h0⟩
  · rw [C_hasSet_n s hs hx, M_isOdd_n s rfl hx, ob_some, ob_some, if_pos rfl, if_pos rfl]
    exact hb_some ⟨rfl, h0⟩
theorem O_now (h : RR c d) (x : Int32) : Sv c (FX11_now 0 x c) (FX12_now 222 x d) := by
  have h0 := th0 h 0
  unfold FX11_now FX12_now
  rw [mx_letI]
  generalize (mx_up d.1 222 0 0, d.2) = d0 at h0 ⊢
  obtain ⟨g, s, hg, hs⟩ := h0.2.2.1.1
  by_cases c0 : x = 0
  · rw [if_pos c0, if_pos c0]
    show Sv c (Option.bind (FX4_total 4 c) _) _
    rw [C_total g s hg hs, M_totalNow g s rfl, ob_some, ob_some]
    exact hb_some ⟨rfl, h0⟩
  · rw [if_neg c0, if_neg c0]
    by_cases c1 : x = 1
    · rw [if_pos c1, if_pos c1]
      show Sv c (Option.bind (FX4_pairs 4 c) _) _
      rw [C_pairs g s hg hs, M_pairMany g s rfl, ob_some, ob_some]
      exact hb_some ⟨rfl, h0⟩
    · rw [if_neg c1, if_neg c1]
      by_cases c2 : x = 2
      · rw [if_pos c2, if_pos c2]
        show Sv c (Option.bind (FX4_lonePoints 4 c) _) (Option.bind (FX12_now_L64 222 d0 mx_FU 0 (i3 0)) _)
        rw [C_lonePoints g s hg hs, M_now_L2 g s rfl, ob_some, ob_some]
        exact hb_some ⟨rfl, h0⟩
      · rw [if_neg c2, if_neg c2]
        by_cases c3 : x = 3
        · rw [if_pos c3, if_pos c3]
          show Sv c (Option.bind (FX4_tightLinks 4 c) _) (Option.bind (FX12_now_L98 222 d0 mx_FU 0 (i3 0)) _)
          rw [C_tightLinks g s hg hs, M_now_L3 g s rfl, ob_some, ob_some]
          exact hb_some ⟨rfl, h0⟩
        · rw [if_neg c3, if_neg c3]
          by_cases c4 : x = 4
          · rw [if_pos c4, if_pos c4]
            show Sv c (Option.bind (FX4_bound 4 c) _) _
            rw [C_bound g s hg hs, M_boundNow g s rfl, ob_some, ob_some]
            exact hb_some ⟨rfl, h0⟩
          · rw [if_neg c4, if_neg c4]
            unfold FX4_turned FX4_shrunk
            by_cases c5 : x = 5
            · rw [if_pos c5, if_pos c5]; exact hb_some ⟨hs.1.2.1, h0⟩
            · rw [if_neg c5, if_neg c5]
              by_cases c6 : x = 6
              · rw [if_pos c6, if_pos c6]; exact hb_some ⟨hs.1.2.2, h0⟩
              · rw [if_neg c6, if_neg c6]; exact hb_some ⟨rfl, h0⟩
theorem O_room (h : RR c d) (x : Int32) : Sv c (FX11_room 0 x c) (FX12_room 222 x d) := by
  have h0 := th0 h 0
  unfold FX11_room FX12_room
  rw [mx_letI]
  generalize (mx_up d.1 222 0 0, d.2) = d0 at h0 ⊢
  obtain ⟨g, s, hg, hs⟩ := h0.2.2.1.1
  have hn := g.1.2
  show Sv c (Option.bind (FX4_hasPoint 4 x c) _) _
  rcases i3_cases x (nP (d0.1 224)) (by omega) with ⟨p, hp, rfl⟩ | ⟨-, hx⟩
  · rw [C_hasPoint_y g hg hp, M_isPoint_y g rfl hp, ob_some, ob_some, if_neg (show ¬ (1 : Int32) = 0 by decide), if_neg (show ¬ (1 : Int32) = 0 by decide)]
    show Sv c (Option.bind (FX4_roomOf 4 (i3 p) c) _) _
    rw [C_roomOf g s hg hs hp, ob_some, i3_Ladd, mx_inb_i3 (by omega) (by omega), mx_chkT, i3_toNat (by omega), mx_letI]
    show Sv c _ (Option.bind (FX12_room_L28 222 (i3 p) d0 mx_FU (d0.1 224 (168 + p)) (i3 0)) _)
    rw [M_room_L g s rfl hp, ob_some]
    by_cases q : 0 < rmo (d0.1 224) p
    · rw [if_pos q, if_pos (Int32.le_of_lt q)]
      exact hb_some ⟨rfl, h0⟩
    · rw [if_neg q]
      by_cases q2 : 0 ≤ rmo (d0.1 224) p
      · rw [if_pos q2]
        refine hb_some ⟨?_, h0⟩
        show (0 : Int32) = rmo (d0.1 224) p
        rw [Int32.lt_iff_toInt_lt] at q
        rw [Int32.le_iff_toInt_le] at q2
        apply Int32.toInt_inj.mp
        omega
      · rw [if_neg q2]; exact hb_some ⟨rfl, h0⟩
  · rw [C_hasPoint_n g hg hx, M_isPoint_n g rfl hx, ob_some, ob_some, if_pos rfl, if_pos rfl]
    exact hb_some ⟨rfl, h0⟩
/-- what stands at a place of a row -/
theorem at_sim {r cap q f w k : Nat} (h : RR c d) (hr : Rl c r cap k) (hf : d.1 222 f = i3 k) (hv : ∀ i, i < k → c.1 (r + 1) i = d.1 q i) (hw7 : k ≤ w) (hw2 : w < 1000) (x : Int32) : Sv c (Option.bind (FX7_at r x c) (fun r1 => some r1)) (Option.bind (FX12_isIn x 0 (d.1 222 f - 1) d) (fun r2 => if r2 = 0 then some (-1, d) else mx_chk (mx_inb x w) (some (d.1 q (Int32.toNatClampNeg x), d)))) := by
  have h40 := hr.2.1
  have h41 := hr.2.2.2.2
  rw [hf]
  rcases i3_cases x k (by omega) with ⟨i, hi, rfl⟩ | ⟨-, hx⟩
  · rw [R_at_y hr hi, M_isIn_y0 hi (by omega), ob_some, ob_some, if_neg (show ¬ (1 : Int32) = 0 by decide), mx_inb_i3 (by omega) (by omega), mx_chkT, i3_toNat (by omega)]
    exact hb_some ⟨hv i hi, h⟩
  · rw [R_at_n hr hx, M_isIn_n (by omega) hx, ob_some, ob_some, if_pos rfl]
    exact hb_some ⟨rfl, h⟩
theorem O_growAt (h : RR c d) (x : Int32) : Sv c (FX11_growAt 0 x c) (FX12_growAt 222 x d) := by
  have h0 := th0 h 0
  obtain ⟨k, g, hr, hf, hv, -⟩ := h0.2.2.2.2.1
  exact at_sim h0 hr.1 hf (fun i hi => by rw [(hr.2 i hi).1, hv i hi]) hr.1.2.1 (by omega) x
theorem O_flowerAt (h : RR c d) (x : Int32) : Sv c (FX11_flowerAt 0 x c) (FX12_flowerAt 222 x d) := by
  have h0 := th0 h 0
  obtain ⟨k, g, hr, hf, hv, -⟩ := h0.2.2.2.2.2.1
  exact at_sim h0 hr.1 hf (fun i hi => by rw [(hr.2 i hi).1, hv i hi]) hr.1.2.1 (by omega) x
theorem O_bestOf (h : RR c d) (x : Int32) : Sv c (FX11_bestOf 0 x c) (FX12_bestOf 222 x d) := by
  have h0 := th0 h 0
  obtain ⟨k, hr, hf, hv⟩ := h0.2.2.2.2.2.2.2.2.1
  exact at_sim h0 hr hf hv hr.2.1 (by omega) x
theorem O_byteAt (h : RR c d) (x : Int32) : Sv c (FX11_byteAt 0 x c) (FX12_byteAt 222 x d) := by
  have h0 := th0 h 0
  obtain ⟨k, hr, hf, hv⟩ := h0.2.2.2.2.2.2.2.2.2.2.2.2.2
  exact at_sim h0 hr hf hv (Nat.le_trans hr.2.1 (by omega)) (by omega) x
theorem O_told (h : RR c d) (x : Int32) : Sv c (FX11_told 0 x c) (FX12_told 222 x d) := by
  have h0 := th0 h 0
  unfold FX11_told FX12_told FX0_toldOf
  rw [mx_letI]
  generalize (mx_up d.1 222 0 0, d.2) = d0 at h0 ⊢
  obtain ⟨b1, b2', b3⟩ := h0.2.2.2.2.2.2.2.2.2.2.1
  show Sv c (Option.bind (if c.1 169 5 = 0 then _ else _) _) _
  rw [b1]
  by_cases c0 : d0.1 222 56 = 0
  · rw [if_pos c0, if_pos c0]; exact hb_some ⟨rfl, h0⟩
  · obtain ⟨e0, e1, e2, e3⟩ := b3 (b2'.resolve_left c0)
    rw [if_neg c0, if_neg c0]
    show Sv c _ (Option.bind (FX12_isIn x (i3 0) (i3 3) d0) _)
    rcases M_in (x := x) (lo := 0) (hi := 3) (by omega) (by omega) d0 with ⟨w, rfl, w1, w2, e⟩ | ⟨w1, e⟩
    · rw [e, ob_some, if_neg (show ¬ (1 : Int32) = 0 by decide), mx_inb_i3 (by omega) (by omega), mx_chkT, i3_toNat (by omega)]
      rcases (by omega : w = 0 ∨ w = 1 ∨ w = 2 ∨ w = 3) with q | q | q | q <;> subst q
      · exact hb_some ⟨e0, h0⟩
      · exact hb_some ⟨e1, h0⟩
      · exact hb_some ⟨e2, h0⟩
      · exact hb_some ⟨e3, h0⟩
    · have n : ∀ k, k ≤ 3 → x ≠ i3 k := fun k hk q => by
        subst q
        rw [i3_lt (by omega) (by omega), i3_lt (by omega) (by omega)] at w1
        omega
      rw [e, ob_some, if_pos rfl, if_neg (show ¬ x = 0 from n 0 (by omega)), if_neg (show ¬ x = 1 from n 1 (by omega)), if_neg (show ¬ x = 2 from n 2 (by omega)), if_neg (show ¬ x = 3 from n 3 (by omega))]
      exact hb_some ⟨rfl, h0⟩
end OPB
