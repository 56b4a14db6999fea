/-! ===== operations: drawn, odds ===== -/
section DRAWC
variable {c c' d d' : mB} {N : Rw}
theorem cb_of {N N' : Rw} {S : Nat → Int32} (hS : ∀ k, k < 65 → S k = N' (125 + k)) (hN : ∀ k, k < 125 ∨ 190 ≤ k → N' k = N k) : cb N S = N' := by
  funext x
  unfold cb
  by_cases q : 125 ≤ x ∧ x < 190
  · rw [if_pos q, hS _ (by omega), show 125 + (x - 125) = x by omega]
  · rw [if_neg q, hN x (by omega)]
theorem M_savea (q : Nat) (hq : q ≠ 224) : ∃ d', FX12_save 222 q 65 0 d = some d' ∧ (∀ k, k < 65 → d'.1 q k = d.1 224 (125 + k)) ∧ mx_out (fun b _ => b = q) d d' := by
  refine ⟨seg d q 0, M_save (fr := 0) hq (by omega) (by omega), fun k hk => ?_, fun b j w => ?_⟩
  · simp [seg, hk]
  · refine ⟨?_, rfl⟩
    simp [seg, w]
theorem M_stay (x : Int32) {N' : Rw} (hN : ∀ k, k < 125 ∨ 190 ≤ k → N' k = N k) (h : d.1 224 = N') (ht : ∀ k, k < 65 → d.1 229 k = N (125 + k)) : ∃ d2, mx_out (fun b _ => b = 224 ∨ b = 228) d d2 ∧ d2.1 224 = N ∧ FX12_stay 222 x d = (if x = 0 then some d2 else Option.bind (FX12_snap 222 d2) (fun r4 => Option.bind (FX12_comeBack 222 228 65 0 r4) (fun r5 => some r5))) ∧ (∀ k, k < 65 → d2.1 228 k = N' (125 + k)) := by
  obtain ⟨d1, e1, v1, z1⟩ := M_savea (d := d) 228 (by omega)
  have h1 : d1.1 224 = N' := by rw [z1.cell 224 (fun j => by omega)]; exact h
  have e2 := M_comeBack h1 (q := 229) (w := 65) (fr := 0) (by omega) (by omega) (by omega)
  rw [cb_of (N' := N) (fun k hk => by rw [Nat.zero_add, z1.cell 229 (fun j => by omega)]; exact ht k hk) (fun k hk => (hN k hk).symm)] at e2
  refine ⟨sr d1 N, mx_out.tr (z1.sub (fun b j q => Or.inr q)) ((sr_out d1 N).sub (fun b j q => ?_)), sr_row _ _, ?_, fun k hk => by rw [sr_ne _ _ (by omega), v1 k hk, h]⟩
  · sorry
  · unfold FX12_stay
    show Option.bind (FX12_save 222 228 65 0 d) _ = _
    rw [e1, ob_some]
    show Option.bind (FX12_comeBack 222 229 65 (i3 0) d1) _ = _
    rw [e2, ob_some]
    rfl
end DRAWC
