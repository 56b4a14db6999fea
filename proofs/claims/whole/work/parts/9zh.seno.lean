/-! ===== a sentence is read: one; all ===== -/
section SENO
variable {c c' d d' : mB} {n lim p L o w P : Nat} {t : Nat → Nat}
theorem S_one (P n lim : Nat) (t : Nat → Nat) : ∀ (D : Nat) {w : Nat}, w ≤ 8 → 9 ≤ D + w → ∀ {c d : mB} {p L o : Nat}, PR c d n lim t p → NmB P c d → SX c d L o w → hb (FX8_readOne D 179 1 4 (i3 (w + 1)) c) (FX12_readSaid D 222 d) (OS c d n lim t L o w) := by
  intro D
  induction D with
  | zero => intro w h1 h2; omega
  | succ D ih =>
    intro w hw hD c d p L o h hN hS
    rw [FX8_readOne, FX12_readSaid]
    unfold FX8_readOne_B FX12_readSaid_B FX10_kind
    rw [ob_some, mx_letI]
    show hb _ (Option.bind (FX12_isSign 222 (i3 40) d) _) _
    rcases PR_isSign h (x := 40) rfl with ⟨q1, q2, q3, q4, q5⟩ | ⟨q1, q2⟩
    · rw [q2, ob_some]
      have hL10 : ∃ y, FX12_readSaid_L10 (FX12_readSaid D) 222 1 d mx_FU 12 = some y := by
        rcases M_said1 h (FX12_readSaid D) 1 with ⟨u, u1, u2, u3, u4, -⟩ | ⟨-, u4⟩
        · exact ⟨_, u4⟩
        · exact ⟨_, u4⟩
      obtain ⟨y, hy⟩ := hL10
      rw [hy, ob_some, mx_letI, if_neg (show ¬ (1 : Int32) = 0 by decide), q1, if_pos (show i3 40 = 40 from rfl)]
      refine S_beg h hN hS hw q3 (by rw [q4]; decide) (fun c1 d1 p1 hw8 h1 hN1 hS1 hp zc zd => ?_)
      rw [if_pos (show i3 40 = 40 from rfl), mx_letI, if_neg (show ¬ (1 : Int32) = 0 by decide), i3_succ]
      have hr : ∀ {c d : mB} {p L o : Nat}, PR c d n lim t p → NmB P c d → SX c d L o (w + 1) → hb (FX8_readOne D 179 1 4 (i3 (w + 1 + 1)) c) (FX12_readSaid D 222 d) (OS c d n lim t L o (w + 1)) := ih (by omega) (by omega)
      exact S_fin (S_brk (F := fun m => FX8_readCond (FX8_readOne D) 179 1 4 (i3 (w + 1 + 1)) m) (G := fun m => FX12_readOr (FX12_readSaid D) 222 m) (S_cond hr h1 hN1 hS1)) zc zd
    · rw [q2, ob_some]
      have q1' : ¬ c.1 1 6 = 40 := q1
      rcases M_said1 h (FX12_readSaid D) 0 with ⟨u, u1, u2, u3, u4, u5, u6⟩ | ⟨u3, u4⟩
      · rw [u4, ob_some, mx_letI, if_pos rfl, if_pos (show i3 u ≤ 21 by show i3 u ≤ i3 21; rw [i3_le (by omega) (by omega)]; omega), if_neg q1', u3, if_neg (show ¬ i3 (100 + u) < 112 by show ¬ i3 (100 + u) < i3 112; rw [i3_lt (by omega) (by omega)]; omega), if_pos (show i3 (100 + u) ≤ 121 by show i3 (100 + u) ≤ i3 121; rw [i3_le (by omega) (by omega)]; omega)]
        refine S_beg h hN hS hw u5 (by rw [u6]; decide) (fun c1 d1 p1 hw8 h1 hN1 hS1 hp zc zd => ?_)
        have ne : ∀ k, k ≠ 100 + u → k < 1000 → ¬ i3 (100 + u) = i3 k := fun k q1 q2 q => by rw [i3_eq (by omega) (by omega)] at q; omega
        have ne2 : ∀ k, k ≠ u → k < 1000 → ¬ i3 u = i3 k := fun k q1 q2 q => by rw [i3_eq (by omega) (by omega)] at q; omega
        rw [if_neg (show ¬ i3 (100 + u) = 40 from ne 40 (by omega) (by omega)), mx_letI, if_pos rfl]
        by_cases e12 : u = 12
        · subst e12
          rw [if_pos (show i3 (100 + 12) = 112 from rfl), if_pos (show i3 12 = 12 from rfl), i3_succ]
          exact S_fin (S_not (F := fun m => FX8_readOne D 179 1 4 (i3 (w + 1 + 1)) m) (rec := FX12_readSaid D) hp (ih (by omega) (by omega) h1 hN1 hS1)) zc zd
        · rw [if_neg (show ¬ i3 (100 + u) = 112 from ne 112 (by omega) (by omega)), if_neg (show ¬ i3 u = 12 from ne2 12 (by omega) (by omega))]
          by_cases e14 : u ≤ 14
          · rw [if_neg (show ¬ 15 ≤ i3 u by show ¬ i3 15 ≤ i3 u; rw [i3_le (by omega) (by omega)]; omega)]
            obtain ⟨c2, d2, f1, f2, f3⟩ := S_leaf h1 hN1 hS1 hp (u := u) (v := 0) (g := 0) (by omega) (by omega) 0 0 0 0 0 (Or.inl e14)
            have eC : ∀ X : Option (Int32 × mB), (if i3 (100 + u) = 113 then Option.bind (FX8_put 179 (i3 (100 + u)) 0 0 c1) (fun r22 => mx_chk (mx_b01 r22.1) ((some (r22.1, r22.2)))) else if i3 (100 + u) = 114 then Option.bind (FX8_put 179 (i3 (100 + u)) 0 0 c1) (fun r25 => mx_chk (mx_b01 r25.1) ((some (r25.1, r25.2)))) else X) = some (1, c2) := fun X => by
              rw [f1, ob_some]
              dsimp only
              rw [show mx_b01 1 = true from rfl, mx_chkT]
              rcases (by omega : u = 13 ∨ u = 14) with e | e <;> subst e
              · rw [if_pos (show i3 (100 + 13) = 113 from rfl)]
              · rw [if_neg (show ¬ i3 (100 + 14) = 113 by decide), if_pos (show i3 (100 + 14) = 114 from rfl)]
            rw [eC, i3_Ladd, f2, ob_some, mx_letI]
            exact S_fin (Y := some (1, (mx_up d2.1 222 61 (i3 L), d2.2))) (hb_some f3) zc zd
          · rw [if_neg (show ¬ i3 (100 + u) = 113 from ne 113 (by omega) (by omega)), if_neg (show ¬ i3 (100 + u) = 114 from ne 114 (by omega) (by omega)), if_pos (show 15 ≤ i3 u by show i3 15 ≤ i3 u; rw [i3_le (by omega) (by omega)]; omega)]
            by_cases e17 : u ≤ 17
            · rw [if_neg (show ¬ 18 ≤ i3 u by show ¬ i3 18 ≤ i3 u; rw [i3_le (by omega) (by omega)]; omega)]
              unfold FX12_readOf FX12_readThat
              rw [i3_Ladd]
              by_cases e7 : u = 17
              · subst e7
                rw [if_neg (show ¬ i3 (100 + 17) = 115 by decide), if_neg (show ¬ i3 (100 + 17) = 116 by decide), if_pos (show i3 (100 + 17) = 117 from rfl), if_pos (show i3 17 = 17 from rfl)]
                refine S_fin (S_of (u := 17) (A := fun v => v ≤ 5) (p := p1) hS1 hN1 hp (by omega) (by omega) (fun v hv => Or.inr ⟨rfl, hv⟩) ?_) zc zd
                obtain ⟨r, s, e1, e2, q⟩ := PR_num h1 (a := 0) (b := 5) (by omega) (by omega)
                show hb (FX10_takeNumber 1 (i3 0) (i3 5) c1) (Option.bind (FX12_readNumber 222 (i3 0) (i3 5) d1) _) _
                rw [e1, e2, ob_some]
                rcases q with ⟨v, p', v1, v2, b1, b2', b3, b4⟩ | ⟨b1, b2', b3⟩
                · rw [b2', show mx_b01 1 = true from rfl, mx_chkT]
                  exact hb_some (Or.inl ⟨v, p', v2, by omega, b1, rfl, b3, b4⟩)
                · rw [b2', show mx_b01 0 = true from rfl, mx_chkT]
                  exact hb_some (Or.inr ⟨b1, rfl, b3⟩)
              · have hX : hb (FX10_takePoint 1 4 c1) (if i3 u = 17 then Option.bind (FX12_readNumber 222 0 5 d1) (fun r4 => mx_chk (mx_b01 r4.1) ((some (r4.1, r4.2)))) else Option.bind (FX12_readPointName 222 d1) (fun r2 => mx_chk (mx_b01 r2.1) ((some (r2.1, r2.2))))) (fun r s => (∃ v p', v < P ∧ v < 1000 ∧ r.1 = i3 v ∧ s.1 = 1 ∧ s.2.1 222 13 = i3 v ∧ RS c1 d1 n lim t p1 r.2 s.2 p') ∨ (r.1 = -1 ∧ s.1 = 0 ∧ RF c1 d1 r.2 s.2)) := by
                  rw [if_neg (show ¬ i3 u = 17 from ne2 17 (by omega) (by omega))]
                  obtain ⟨r, s, e1, e2, q⟩ := PR_point h1 (a := 4) hN1.1 hN1.2.1 hN1.2.2.1 hN1.2.2.2
                  rw [e1, e2, ob_some]
                  rcases q with ⟨v, p', v2, b1, b2', b3, b4⟩ | ⟨b1, b2', b3⟩
                  · rw [b2', show mx_b01 1 = true from rfl, mx_chkT]
                    have := hN1.1
                    exact hb_some (Or.inl ⟨v, p', v2, by omega, b1, rfl, b3, b4⟩)
                  · rw [b2', show mx_b01 0 = true from rfl, mx_chkT]
                    exact hb_some (Or.inr ⟨b1, rfl, b3⟩)
                have hY := S_fin (S_of (u := u) (A := fun v => v < P) (p := p1) hS1 hN1 hp (by omega) (by omega) (fun v hv => Or.inl ⟨by omega, hv⟩) hX) zc zd
                rcases (by omega : u = 15 ∨ u = 16) with e | e
                · subst e
                  rw [if_pos (show i3 (100 + 15) = 115 from rfl)]
                  exact hY
                · subst e
                  rw [if_neg (show ¬ i3 (100 + 16) = 115 by decide), if_pos (show i3 (100 + 16) = 116 from rfl)]
                  exact hY
            · rw [if_pos (show 18 ≤ i3 u by show i3 18 ≤ i3 u; rw [i3_le (by omega) (by omega)]; omega), if_neg (show ¬ i3 (100 + u) = 115 from ne 115 (by omega) (by omega)), if_neg (show ¬ i3 (100 + u) = 116 from ne 116 (by omega) (by omega)), if_neg (show ¬ i3 (100 + u) = 117 from ne 117 (by omega) (by omega))]
              exact S_fin (S_cmp h1 hN1 hS1 hp (by omega) u2) zc zd
      · rw [u4, ob_some, mx_letI, if_pos rfl, if_neg (show ¬ (22 : Int32) ≤ 21 by decide), if_neg q1']
        by_cases e1 : c.1 1 6 < 112
        · rw [if_pos e1]
          exact S_fail h (fun _ => rfl)
        · rw [if_neg e1]
          by_cases e2 : c.1 1 6 ≤ 121
          · exfalso
            have k1 : (112 : Int) ≤ (c.1 1 6).toInt := Int.not_lt.mp (fun q => e1 (Int32.lt_iff_toInt_lt.mpr q))
            have k2 : (c.1 1 6).toInt ≤ 121 := Int32.le_iff_toInt_le.mp e2
            have k3 : c.1 1 6 = i3 ((c.1 1 6).toInt.toNat) := by
              apply Int32.toInt_inj.mp
              rw [i3_toInt (by omega)]
              omega
            exact u3 ((c.1 1 6).toInt.toNat - 100) (by omega) (by omega) (by rw [show 100 + ((c.1 1 6).toInt.toNat - 100) = (c.1 1 6).toInt.toNat by omega]; exact k3)
          · rw [if_neg e2]
            exact S_fail h (fun _ => rfl)
end SENO
