/-! ===== what is known of the links ===== -/
section CACHE
variable {m m1 : mB} {N A : Rw} {p0 : Nat}
theorem GE_en (h : GE A N) (x : Nat) : en A x = en N x := GE_em h 10 x
theorem GE_mxt (h : GE A N) (x : Nat) : mxt A x = mxt N x := by unfold mxt; rw [GE_tl h]
theorem GE_bm (h : GE A N) (x : Nat) : bm A x = bm N x := by
  unfold bm
  rw [GE_en h, GE_mxt h]
  congr 1
  funext M
  rw [GE_tk h]
theorem GE_fat (h : GE A N) {l : Nat} (hl : l < nL N) : fat A l = fat N l := by
  have e1 : nA A l = nA N l := by unfold nA; rw [(h.2.2 l hl).1]
  have e2 : nB A l = nB N l := by unfold nB; rw [(h.2.2 l hl).2.1]
  have e3 : lcn A l = lcn N l := by
    unfold lcn
    rw [GE_P h, GE_bm h, e1, e2]
  unfold fat
  rw [e3, GE_P h, GE_bm h]
theorem GE_FT (h : GE A N) (hf : FT m A) : FT m N := fun l hl => by
  rw [hf l (by rw [GE_L h]; exact hl), GE_fat h hl]
def HV (m : mB) : Prop := m.1 45 1 = 0 ∨ ∃ A, GI A ∧ SI A ∧ HL m A ∧ (m.1 45 2 = 0 ∨ FT m A)
theorem HV_mv (h : HV m) (hc : ∀ b, 45 ≤ b → b ≤ 65 → m1.1 b = m.1 b) : HV m1 := by
  have z : mx_out (fun b _ => b < 45 ∨ 65 < b) m (m1.1, m.2) := fun b j q => ⟨by
    show m1.1 b j = m.1 b j
    rw [hc b (by omega) (by omega)], rfl⟩
  rcases h with h | ⟨A, g, s, h1, h2⟩
  · left
    rw [hc 45 (by omega) (by omega)]; exact h
  · right
    have k := HL_mv g h1 z (fun b j q => by omega)
    refine ⟨A, g, s, ?_, ?_⟩
    · unfold HL CG MI VL CL SLT WA KN al at k ⊢
      exact k
    · unfold FT
      rw [hc 45 (by omega) (by omega), hc 65 (by omega) (by omega)]
      exact h2
theorem C_lookAt (hp0 : p0 + 11 ≤ 45) (h : Nt m p0 N) (hv : HV m) : ∃ m', FX2_lookAt 45 p0 m = some m' ∧ HL m' N ∧ (m'.1 45 2 = 0 ∨ FT m' N) := by
  obtain ⟨mN, eN, hN, fN⟩ := C_lookNew hp0 h
  unfold FX2_lookAt
  rw [mx_letI, eN]
  by_cases c : m.1 45 1 = 0
  · rw [if_pos c]
    exact ⟨mN, rfl, hN, Or.inl fN⟩
  · rw [if_neg c]
    obtain ⟨A, ga, sa, hA, fA⟩ := hv.resolve_left c
    obtain ⟨b, e, hb⟩ := C_hasLinks ga h.1 hA.2.1 h.2.2.1
    show ∃ m', Option.bind (FX4_hasLinksOf 46 p0 m) _ = _ ∧ _
    rw [e, ob_some]
    cases b with
    | false =>
      rw [if_pos (show b2 false = 0 from rfl)]
      exact ⟨mN, rfl, hN, Or.inl fN⟩
    | true =>
      rw [if_neg (show ¬ b2 true = 0 by decide)]
      have ge := hb rfl
      exact ⟨m, rfl, HL_GE ge hA, fA.imp id (GE_FT ge)⟩
theorem HV_of (g : GI N) (s : SI N) (h : HL m N) (hf : m.1 45 2 = 0 ∨ FT m N) : HV m := Or.inr ⟨N, g, s, h, hf⟩
end CACHE
