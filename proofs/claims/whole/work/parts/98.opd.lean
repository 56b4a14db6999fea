/-! ===== deeds, on both sides ===== -/
section OPD
variable {c c' d d' : mB}
def SCn : Nat → Nat → Prop := fun b j => SC b j ∧ ¬ (4 ≤ b ∧ b ≤ 14) ∧ ¬ (68 ≤ b ∧ b ≤ 168)
def SDn : Nat → Nat → Prop := fun b j => SD b j ∧ ¬ (b = 224 ∧ 125 ≤ j ∧ j < 190) ∧ b ≠ 227 ∧ ¬ (b = 222 ∧ j = 25)
theorem RR_net (h : RR c d) (hc : ag SCn c c') (hd : ag SDn d d') (hn : NE c' d') (hh : HI c' d') : RR c' d' := by
  obtain ⟨h1, h2, h3, h4, h5, h6, h7, h8, h9, h10, h11, h12, h13, h14⟩ := h
  refine ⟨TP_mv h1 (ag_sub hc (fun b j q => by unfold SCn SC; omega)) (ag_sub hd (fun b j q => by unfold SDn SD; omega)), FA_mv h2 (ag_sub hc (fun b j q => by unfold SCn SC; omega)) (ag_sub hd (fun b j q => by unfold SDn SD; omega)), hn, hh, RW_mv h5 (ag_sub hc (fun b j q => by unfold SCn SC; omega)) (ag_sub hd (fun b j q => by unfold SDn SD; omega)), RW_mv h6 (ag_sub hc (fun b j q => by unfold SCn SC; omega)) (ag_sub hd (fun b j q => by unfold SDn SD; omega)), PF_mv h7 (ag_sub hc (fun b j q => by unfold SCn SC; omega)) (ag_sub hd (fun b j q => by unfold SDn SD; omega)), AD_mv h8 (ag_sub hc (fun b j q => by unfold SCn SC; omega)) (ag_sub hd (fun b j q => by unfold SDn SD; omega)), RN_mv h9 (ag_sub hc (fun b j q => by unfold SCn SC; omega)) (ag_sub hd (fun b j q => by unfold SDn SD; omega)), HV_mv h10 (fun b q1 q2 => (ag_cell hc b (fun j => by unfold SCn SC; omega)).1), BK_mv h11 (ag_sub hc (fun b j q => by unfold SCn SC; omega)) (ag_sub hd (fun b j q => by unfold SDn SD; omega)), SY_mv h12 (ag_sub hc (fun b j q => by unfold SCn SC; omega)) (ag_sub hd (fun b j q => by unfold SDn SD; omega)), PI_mv h13 (ag_sub hc (fun b j q => by unfold SCn SC; omega)) (ag_sub hd (fun b j q => by unfold SDn SD; omega)), RN_mv h14 (ag_sub hc (fun b j q => by unfold SCn SC; omega)) (ag_sub hd (fun b j q => by unfold SDn SD; omega))⟩
/-- the cells of the network, but for the names -/
def WN : Nat → Nat → Prop := fun b _ => b = 4 ∨ (6 ≤ b ∧ b ≤ 14)
theorem sr_ag (d : mB) {N' : Rw} (hN : ∀ k, k < 125 ∨ 190 ≤ k → N' k = d.1 224 k) : ag (fun b j => ¬ (b = 224 ∧ 125 ≤ j ∧ j < 190)) d (sr d N') := by
  intro b j q
  refine ⟨?_, rfl⟩
  by_cases e : b = 224
  · subst e
    rw [sr_row]
    exact hN j (by omega)
  · rw [sr_ne d N' e]
/-- a deed that was refused: only the place ahead is noted -/
theorem RR_ref (h : RR c d) {a k : Nat} (h1 : HK c' d a k) (hk : d.1 222 25 = i3 k) (hn : NR c' 4 (d.1 224) (d.2 230)) (z : mx_out (fun b _ => 70 ≤ b ∧ b ≤ 168) c c') : RR c' d := RR_net h (ag_of z (fun b j q => by unfold SCn at q; omega)) ag_rf hn ⟨a, k, h1, hk⟩
/-- a deed that was done -/
theorem RR_done (h : RR c d) {a k : Nat} (hk : d.1 222 25 = i3 k) {c1 c2 : mB} (h1 : HK c1 d a k) (hm : NR c1 (70 + 11 * a) (d.1 224) (d.2 230)) (z1 : mx_out (fun b _ => 70 ≤ b ∧ b ≤ 168) c c1) {N' : Rw} (hN2 : Nt c2 4 N') (z2 : mx_out WN c1 c2) (hN : ∀ k, k < 125 ∨ 190 ≤ k → N' k = d.1 224 k) :
    ∃ c3 d1, FX3_keep 68 c2 = some c3 ∧ FX12_snap 222 d = some d1 ∧ d1.1 224 = d.1 224 ∧ RR c3 (sr d1 N') := by
  have h8 := h1.2.1
  obtain ⟨d1, e1, s1, s2, s3⟩ := M_snap hk h8
  have zs := ZX12_snap e1
  have f224 : d1.1 224 = d.1 224 := zs.cell 224 (fun j => by unfold WSX12_snap; omega)
  have hN1 : ∀ k, k < 125 ∨ 190 ≤ k → N' k = d1.1 224 k := fun k q => by rw [f224]; exact hN k q
  have zr := sr_ag d1 hN1
  have H2 : HK c2 d a k := HK_mv h1 (fun b q1 q2 => ⟨z2.cell b (fun j => by unfold WN; omega), z2.cellL b (fun j => by unfold WN; omega)⟩) (fun _ _ => rfl) rfl rfl
  have hm2 : NR c2 (70 + 11 * a) (d.1 224) (d.2 230) := NR_mem hm (fun b q1 q2 => z2.cell b (fun j => by unfold WN; omega)) (z2.cellL _ (fun j => by unfold WN; omega))
  obtain ⟨c3, e3, H3, z3'⟩ := C_keep (d' := sr d1 N') H2 hm2 (fun x _ => rfl) (fun j q1 q2 x hx => by rw [sr_ne _ _ (by omega)]; exact s2 j q1 q2 x hx) (fun x hx => by rw [sr_ne _ _ (by omega)]; exact s3 x hx) (fun x hx => by rw [sr_row]; exact hN x (Or.inl hx)) (by rw [sr_2, zs.cellL 230 (fun j => by unfold WSX12_snap; omega)])
  refine ⟨c3, d1, e3, e1, f224, RR_net h (ag_tr (ag_of z1 (fun b j q => by unfold SCn at q; omega)) (ag_tr (ag_of z2 (fun b j q => by unfold SCn SC at q; unfold WN; omega)) (ag_of z3' (fun b j q => by unfold SCn at q; omega)))) (ag_tr (ag_of zs (fun b j q => by unfold SDn at q; unfold WSX12_snap; omega)) (ag_sub zr (fun b j q => by unfold SDn at q; exact q.2.1))) ?_ ⟨_, _, H3, ?_⟩⟩
  · unfold NE
    rw [sr_row, sr_2, zs.cellL 230 (fun j => by unfold WSX12_snap; omega)]
    refine ⟨Nt_mem hN2 (fun b q1 q2 => z3'.cell b (fun j => by omega)), fun p hp => ?_⟩
    have e5 : c3.2 (4 + 1) = c.2 (4 + 1) := by rw [z3'.cellL _ (fun j => by omega), z2.cellL _ (fun j => by unfold WN; omega), z1.cellL _ (fun j => by omega)]
    rw [e5]
    refine h.2.2.1.2 p ?_
    have : nP N' = nP (d.1 224) := by unfold nP; rw [hN 0 (by omega)]
    rw [← this]; exact hp
  · rw [sr_ne _ _ (by omega), s1]
theorem deed (h : RR c d) {F : mB → Option (Int32 × mB)} {what x y n rc : Int32} {N' : Rw}
    (hF : ∀ c1, Nt c1 4 (d.1 224) → ∃ c2, F c1 = some (rc, c2) ∧ Nt c2 4 (if rc = 0 then N' else d.1 224) ∧ (rc ≠ 0 → c2 = c1) ∧ mx_out WN c1 c2)
    (hR : ∀ d0, d0.1 224 = d.1 224 → FX12_refusal 222 what x y n d0 = some (rc, d0))
    (hL : rc = 0 → ∀ d0, d0.1 224 = d.1 224 → FX12_live 222 what x y n d0 = some (sr d0 N'))
    (hN : ∀ k, k < 125 ∨ 190 ≤ k → N' k = d.1 224 k) :
    hb (Option.bind (FX3_mark 68 4 c) (fun r3 => Option.bind (F r3) (fun r4 => Option.bind (FX11_keepIfDone 0 r4.1 r4.2) (fun r5 => some (r5.1, r5.2))))) (FX12_act 222 what x y n 1 d) (fun r s => r.1 = s.1 ∧ RR r.2 s.2) := by
  obtain ⟨a, k, hH, hk⟩ := h.2.2.2.1
  obtain ⟨c1, e1, H1, M1, N1', z1⟩ := C_mark hH h.2.2.1
  obtain ⟨c2, e2, n2, i2, z2⟩ := hF c1 N1'.1
  unfold FX12_act FX11_keepIfDone
  rw [if_neg (show ¬ (1 : Int32) = 0 by decide), hR d rfl, e1, ob_some, ob_some, e2, ob_some]
  dsimp only
  by_cases c0 : rc = 0
  · rw [if_pos c0, if_pos c0]
    rw [if_pos c0] at n2
    obtain ⟨c3, d1, e3, e4, f4, R⟩ := RR_done h hk H1 M1 z1 n2 z2 hN
    show hb (Option.bind (Option.bind (FX3_keep 68 c2) _) _) _ _
    rw [e3, e4, ob_some, ob_some, ob_some, hL c0 d1 f4, ob_some, c0]
    exact hb_some ⟨rfl, R⟩
  · rw [if_neg c0, if_neg c0, ob_some, i2 c0]
    exact hb_some ⟨rfl, RR_ref h H1 hk N1' z1⟩
theorem th0 (h : RR c d) (v : Int32) : RR c (mx_up d.1 222 0 v, d.2) := RR_mv h ag_rf (ag_of (S := fun b j => b = 222 ∧ j = 0) (mx_out_up mx_out.rf rfl ⟨rfl, rfl⟩) (fun b j q => by unfold SD at q; omega))
end OPD
