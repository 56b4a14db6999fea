/-! ===== the world at the law's entry ===== -/
theorem kw_of {own : String} {idx c N : Nat} {s : State} {args : Array Value} (hTB : ∀ w ∈ mx_TB, w.before args s = true) (h : mx_cls own idx c N) : ∃ x : ClassId × (Nat → Nat), ∀ q : vw_C, vwCl[c]? = some q → u_Kn s q.1 q.2.1 q.2.2 x.1 x.2 := by
  obtain ⟨C, T, h1, -, h3, -, h5, -⟩ := h
  obtain ⟨cC, iS, hk⟩ := u_known hTB h5 (hTB _ h3)
  refine ⟨(cC, iS), fun q hq => ?_⟩
  cases Option.some.inj (hq.symm.trans h1)
  exact hk
theorem kw_all {s : State} {args : Array Value} (hTB : ∀ w ∈ mx_TB, w.before args s = true) : ∃ (dC : Nat → ClassId) (dI : Nat → Nat → Nat), ∀ (k : Nat) (q : vw_C), vwCl[k]? = some q → u_Kn s q.1 q.2.1 q.2.2 (dC k) (dI k) := by
  have h0 : ∀ k : Nat, ∃ x : ClassId × (Nat → Nat), ∀ q : vw_C, vwCl[k]? = some q → u_Kn s q.1 q.2.1 q.2.2 x.1 x.2 := by
    intro k
    match k with
    | 0 => exact kw_of hTB kX11_69
    | 1 => exact kw_of hTB kX11_92
    | 2 => exact kw_of hTB kX11_52
    | 3 => exact kw_of hTB kX11_62
    | 4 => exact kw_of hTB kX11_16
    | 5 => exact kw_of hTB kX11_26
    | 6 => exact kw_of hTB kX11_86
    | 7 => exact kw_of hTB kX9_9
    | 8 => exact kw_of hTB kX11_76
    | 9 => exact kw_of hTB kX11_33
    | 10 => exact kw_of hTB kX11_7
    | 11 => exact kw_of hTB kL_8
    | 12 => exact kw_of hTB kL_27
    | k + 13 =>
      obtain ⟨x, -⟩ := kw_of hTB kL_8
      exact ⟨x, fun q hq => by simp at hq⟩
  obtain ⟨f, hf⟩ := Classical.axiomOfChoice h0
  exact ⟨fun k => (f k).1, fun k => (f k).2, fun k q hq => hf k q hq⟩
theorem ar_of {s : State} {args : Array Value} {ty : FieldType} (h : (Cond.arrayClass ty).before args s = true) : ∃ cA, ArrOfT s cA ty ∧ s.vm.findClass ("[" ++ ty.toString) = some cA := by
  obtain ⟨cA, kA, comp, h1, h2, h3⟩ := Cond.arrayClass_spec (args := args) (first := s) (o := none) (s := s) (idx := []) h
  exact ⟨cA, fun n z => ⟨(fun k h => by cases h), kA, h2, comp, h3⟩, h1⟩
theorem ao_of {s : State} {args : Array Value} {C : String} (h : (Cond.arrayOver (.object C)).before args s = true) : ∃ cA, ArrOfT s cA (.object C) ∧ va_RA s cA (.object C) := by
  obtain ⟨comp, cA, kA, h1, -, h2, h3, h4⟩ := Cond.arrayOver_spec (args := args) (first := s) (o := none) (s := s) (idx := []) h
  exact ⟨cA, fun n z => ⟨(fun k h => by cases h), kA, h2, comp, h3⟩, kA, comp, h2, h3, h1, h4⟩
def tmS (i : Nat) : Term := match i with
  | 0 => .string RX10 19 | 1 => .string RX11 370 | 2 => .string RX11 376 | _ => .string RX11 378
def fG : List Cond := flatC (Jvm.Cond.and given_1 narrow_1)
theorem g_ex : ∀ i, i < 4 → Cond.exactly (tmS i) "java/lang/String" ∈ fG := by decide +kernel
theorem g_co : ∀ i, i < 4 → Cond.eq (.field (tmS i) "java/lang/String" "coder" "B") (.int 0) ∈ fG := by decide +kernel
theorem g_ar : ∀ i, i < 4 → Cond.arrayOf (.field (tmS i) "java/lang/String" "value" "[B") .byte ∈ fG := by decide +kernel
theorem g_le : ∀ i, i < 4 → Cond.eq (.length (.field (tmS i) "java/lang/String" "value" "[B")) (.int (Int32.ofNat (mx_sl.getD i 0))) ∈ fG := by decide +kernel
theorem g_el : ∀ i, i < 4 → ∀ j, j < mx_sl.getD i 0 → Cond.eq (.elem (.field (tmS i) "java/lang/String" "value" "[B") (.int (Int32.ofNat j))) (.int ((mx_sb.getD i []).getD j 0)) ∈ fG := by decide +kernel
theorem g_ne : ∀ i, i < 4 → ∀ j, j < 4 → i ≠ j → Cond.not (Cond.eq (tmS i) (tmS j)) ∈ fG ∨ Cond.not (Cond.eq (tmS j) (tmS i)) ∈ fG := by decide +kernel
theorem g_cs : Cond.eq (.static "java/lang/String" "COMPACT_STRINGS" "Z") (.int 1) ∈ fG := by decide +kernel
theorem g_sf : Cond.isRef (.static "jdk/internal/util/Preconditions" "SIOOBE_FORMATTER" "Ljava/util/function/BiFunction;") ∈ fG := by decide +kernel
theorem g_us : Cond.isRef (.static Bundle.tN "UNASSIGNED_STACK" Bundle.steD) ∈ fG := by decide +kernel
theorem g_ss : Cond.isRef (.static Bundle.tN "SUPPRESSED_SENTINEL" Bundle.listD) ∈ fG := by decide +kernel
def nsi : List Nat := [131, 183, 188, 201, 232, 237, 295, 308, 345, 375, 384, 389, 391]
theorem w_ns : mx_nest.map (fun q => Cond.methodLinkNest q.1 q.2.1 q.2.2.1 q.2.2.2) = nsi.filterMap (fun i => tables_1[i]?) := by decide +kernel
def sri : List Nat := [39, 1170, 1177, 1179]
theorem w_sr : mx_sr.map (fun q => Cond.stringRef q.1 q.2.1 q.2.2.1) = sri.filterMap (fun i => tables_1[i]?) := by decide +kernel
theorem w_tm : ∀ q ∈ mx_sr, q.2.2.2 < 4 ∧ tmS q.2.2.2 = .string q.1 q.2.1 := by decide +kernel
theorem w_0 : tables_1[1428]? = some (.declares (Bundle.init0 "java/lang/RuntimeException")) ∧ tables_1[1430]? = some (.declares (Bundle.init0 "java/lang/Exception")) ∧ tables_1[1432]? = some (.declares (Bundle.init0 Bundle.tN)) ∧ tables_1[1427]? = some (.castable xN xN) := by decide +kernel
theorem w_1 : tables_1[1452]? = some (.laysStatic Bundle.tN "UNASSIGNED_STACK" Bundle.steD) ∧ tables_1[1454]? = some (.laysStatic Bundle.tN "SUPPRESSED_SENTINEL" Bundle.listD) ∧ tables_1[20]? = some (.initialized Bundle.tN) := by decide +kernel
theorem w_2 : tables_1[49]? = some (.laysStatic "java/lang/String" "COMPACT_STRINGS" "Z") ∧ tables_1[3]? = some (.initialized "java/lang/String") ∧ tables_1[65]? = some (.laysStatic "jdk/internal/util/Preconditions" "SIOOBE_FORMATTER" "Ljava/util/function/BiFunction;") ∧ tables_1[5]? = some (.initialized "jdk/internal/util/Preconditions") := by decide +kernel
theorem w_3 : tables_1[126]? = some (.arrayClass .int) ∧ tables_1[127]? = some (.arrayClass .long) ∧ tables_1[1733]? = some (.arrayClass .boolean) ∧ tables_1[294]? = some (.arrayOver (.object RX4)) ∧ tables_1[372]? = some (.arrayOver (.object RX6)) := by decide +kernel
/-- the world G of a start -/
theorem law_world {s : State} {b Ls : Nat} {xs : Nat → Int32} (hts : ∀ w ∈ lw_tbl, w.before #[Value.ref b] s = true) (hX : va_X b Ls xs s s.heap) (hbl : b < s.heap.size) (hgv : (Jvm.Cond.and given_1 narrow_1).before #[Value.ref b] s = true) :
    ∃ G : mG, G.1 = s.heap.size ∧ G.2.2.2 400000 = b ∧ mx_K G s ∧ mx_YL G Ls xs s := by
  have tb : ∀ {w : Cond} {i : Nat}, tables_1[i]? = some w → w.before #[Value.ref b] s = true := fun h => hts _ (List.mem_append_right _ (List.mem_of_getElem? h))
  have hTB : ∀ w ∈ mx_TB, w.before #[Value.ref b] s = true := fun w hw => hts w (List.mem_filter.mp hw).1
  have hf : ∀ w ∈ fG, w.before #[Value.ref b] s = true := flat_of_before _ hgv
  obtain ⟨dC, dI, hKn⟩ := kw_all hTB
  obtain ⟨c0, a0, b0⟩ := ar_of (tb w_3.1)
  obtain ⟨c1, a1, b1⟩ := ar_of (tb w_3.2.1)
  obtain ⟨c2, a2, b2⟩ := ar_of (tb w_3.2.2.1)
  obtain ⟨c3, a3, b3⟩ := ao_of (tb w_3.2.2.2.1)
  obtain ⟨c4, a4, b4⟩ := ao_of (tb w_3.2.2.2.2)
  have hA : ∀ a : Nat, a < s.heap.size → ¬ (fun q : Nat => s.heap.size ≤ q) a := fun a h => Nat.not_le.mpr h
  obtain ⟨adK, adV, hSt, hTm⟩ := vk_Sof (args := #[Value.ref b]) (s := s) (N := 4) (tm := tmS) (len := mx_sl) (byt := mx_sb) (A := fun q : Nat => s.heap.size ≤ q) (by decide +kernel) (fun i h => hf _ (g_ex i h)) (fun i h => hf _ (g_co i h)) (fun i h => hf _ (g_ar i h)) (fun i h => hf _ (g_le i h)) (fun i h j hj => hf _ (g_el i h j hj)) (fun i j h1 h2 h3 => (g_ne i h1 j h2 h3).imp (hf _) (hf _)) hA
  have hZq := va_Zqof (A := fun q : Nat => s.heap.size ≤ q) (tb w_2.2.2.1) (tb w_2.2.2.2) (hf _ g_sf) hA
  obtain ⟨fm, hfm⟩ : ∃ fm : Nat, va_Z "jdk/internal/util/Preconditions" "SIOOBE_FORMATTER" "Ljava/util/function/BiFunction;" .null (fun q : Nat => s.heap.size ≤ q) s s.heap ∨ va_Z "jdk/internal/util/Preconditions" "SIOOBE_FORMATTER" "Ljava/util/function/BiFunction;" (.ref fm) (fun q : Nat => s.heap.size ≤ q) s s.heap := by
    rcases hZq with h | ⟨t, h⟩
    · exact ⟨0, Or.inl h⟩
    · exact ⟨t, Or.inr h⟩
  obtain ⟨ac, hac⟩ : ∃ ac : Nat → ClassId, ac 0 = c0 ∧ ac 1 = c1 ∧ ac 2 = c2 ∧ ac 3 = c3 ∧ ac 4 = c4 := ⟨fun k => if k = 0 then c0 else if k = 1 then c1 else if k = 2 then c2 else if k = 3 then c3 else c4, rfl, rfl, rfl, rfl, rfl⟩
  obtain ⟨ad, hd1, hd2, hd3, hd4⟩ : ∃ ad : Nat → Nat, ad 400000 = b ∧ ad 300000 = fm ∧ (∀ k, k < 4 → ad (100000 + k) = adK k) ∧ (∀ k, k < 4 → ad (200000 + k) = adV k) := by
    refine ⟨fun i => if i = 400000 then b else if i = 300000 then fm else if 200000 ≤ i then adV (i - 200000) else adK (i - 100000), if_pos rfl, rfl, fun k hk => ?_, fun k hk => ?_⟩
    · show (if 100000 + k = 400000 then b else if 100000 + k = 300000 then fm else if 200000 ≤ 100000 + k then adV (100000 + k - 200000) else adK (100000 + k - 100000)) = _
      rw [if_neg (by omega), if_neg (by omega), if_neg (by omega), Nat.add_sub_cancel_left]
    · show (if 200000 + k = 400000 then b else if 200000 + k = 300000 then fm else if 200000 ≤ 200000 + k then adV (200000 + k - 200000) else adK (200000 + k - 100000)) = _
      rw [if_neg (by omega), if_neg (by omega), if_pos (by omega), Nat.add_sub_cancel_left]
  refine ⟨(s.heap.size, (dC, dI), ac, ad), rfl, hd1, ⟨hKn, fun k q hq => ?_⟩, ⟨by show va_X (ad 400000) Ls xs s s.heap; rw [hd1]; exact hX, by show ad 400000 < _; rw [hd1]; exact hbl, by show ¬ s.heap.size ≤ ad 400000; rw [hd1]; omega⟩, ?_, ?_⟩
  · obtain ⟨q0, q1, q2, q3, q4⟩ := hac
    match k, hq with
    | 0, hq => cases hq; exact ⟨by show ArrOfT s (ac 0) _; rw [q0]; exact a0, by show s.vm.findClass _ = some (ac 0); rw [q0]; exact b0⟩
    | 1, hq => cases hq; exact ⟨by show ArrOfT s (ac 1) _; rw [q1]; exact a1, by show s.vm.findClass _ = some (ac 1); rw [q1]; exact b1⟩
    | 2, hq => cases hq; exact ⟨by show ArrOfT s (ac 2) _; rw [q2]; exact a2, by show s.vm.findClass _ = some (ac 2); rw [q2]; exact b2⟩
    | 3, hq => cases hq; exact ⟨by show ArrOfT s (ac 3) _; rw [q3]; exact a3, by show va_RA s (ac 3) _; rw [q3]; exact b3⟩
    | 4, hq => cases hq; exact ⟨by show ArrOfT s (ac 4) _; rw [q4]; exact a4, by show va_RA s (ac 4) _; rw [q4]; exact b4⟩
    | k + 5, hq => simp [mx_tys] at hq
  · refine ⟨fun q hq => ?_, va_AO.of (tb w_3.2.2.2.1), va_AO.of (tb w_3.2.2.2.2), ⟨fun i hi => ?_, fun i j hi hj e => ?_⟩, fun q hq => ?_, ?_, ?_⟩
    · have h1 : Cond.methodLinkNest q.1 q.2.1 q.2.2.1 q.2.2.2 ∈ nsi.filterMap (fun i => tables_1[i]?) := by rw [← w_ns]; exact List.mem_map.mpr ⟨q, hq, rfl⟩
      obtain ⟨i, -, hi⟩ := List.mem_filterMap.mp h1
      exact va_Nw.of rfl (tb hi)
    · have := hSt.1 i hi
      rw [← hd3 i hi, ← hd4 i hi] at this
      exact this
    · have e2 : ad (100000 + i) = ad (100000 + j) := e
      rw [hd3 i hi, hd3 j hj] at e2
      exact hSt.2 i j hi hj e2
    · have h1 : Cond.stringRef q.1 q.2.1 q.2.2.1 ∈ sri.filterMap (fun i => tables_1[i]?) := by rw [← w_sr]; exact List.mem_map.mpr ⟨q, hq, rfl⟩
      obtain ⟨i, -, hi⟩ := List.mem_filterMap.mp h1
      obtain ⟨w1, w2⟩ := w_tm q hq
      have h2 := hTm q.2.2.2 w1
      rw [w2] at h2
      show vk_R q.1 q.2.1 q.2.2.1 (ad (100000 + q.2.2.2)) s
      rw [hd3 _ w1]
      exact vk_R.of (tb hi) h2
    · exact va_Zof (tb w_2.1) (tb w_2.2.1) (va_eqt (hf _ g_cs)) hA
    · rcases hfm with h | h
      · exact Or.inl h
      · refine Or.inr ?_
        show va_Z _ _ _ (.ref (ad 300000)) _ s s.heap
        rw [hd2]
        exact h
  · refine ⟨fun x hx => ?_, va_Nw.of rfl (tb w_0.2.2.2), vx_Zqof (tb w_1.1) (tb w_1.2.2) (hf _ g_us) hA, vx_Zqof (tb w_1.2.1) (tb w_1.2.2) (hf _ g_ss) hA⟩
    have hx' : x = Bundle.init0 "java/lang/RuntimeException" ∨ x = Bundle.init0 "java/lang/Exception" ∨ x = Bundle.init0 Bundle.tN := by simpa [xds] using hx
    rcases hx' with rfl | rfl | rfl
    · exact va_Nw.of rfl (tb w_0.1)
    · exact va_Nw.of rfl (tb w_0.2.1)
    · exact va_Nw.of rfl (tb w_0.2.2.1)
