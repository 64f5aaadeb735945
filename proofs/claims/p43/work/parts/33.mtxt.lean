section MT
set_option maxHeartbeats 4000000 in
set_option maxRecDepth 100000 in
theorem c_X3_text (l : Launch) (D : va_G) (cB cJ : ClassId) (o a : Nat) (c : Nat → Nat) (ac : Int32) (re : Int32) (kn : Int32) (z : Int) (hz : 0 ≤ z ∧ z ≤ 5) : zAV l yX3_text 7 209 72 34864 D cB 2 cJ o a [.int (iZ (z))] c [.int (ac), .int (re), .int (kn)] (fun v => ∃ q, v = some (.ref q)) (c) [.int (ac), .int (re), .int (kn)] := by
  refine zAV.intro (lo := 188) (nA := 1) (own := RX3) zi_X3_text (by decide) rfl rfl (by decide +kernel) rfl (Nat.le_of_ble_eq_true rfl) ?_
  intro p e s m below meth c0 ls C hr hk B K V hl
  have hl : lv_has ls 2 [(0, .ref o), (1, .int (iZ (z)))] := hl
  have ho9 := B.1.lt
  have hA : ∀ q, s.heap.size ≤ q → zF o a s.heap.size q := fun _ h => Or.inr (Or.inr h)
  refine lv_aload_n C.1 C.2.1 dX3_text_0 rfl (lv_at hl 0 rfl) ?_
  refine lv_iload_n C.1 C.2.1 dX3_text_1 rfl (lv_at hl 1 rfl) ?_
  refine zo_callD C B (r := some (.long (lN ((c) (z).toNat)))) (c_X3_polyIn l D cJ o a (c) (ac) (re) (kn) (z) (by first | assumption | omega | rfl | exact decide_eq_false (by omega) | exact decide_eq_true (by assumption) | exact decide_eq_true (by omega) | exact one_shl33 (by omega) | exact pm_lt _ _ | exact rm_lt (by first | assumption | exact pm_lt _ _) | exact Nat.lt_of_le_of_lt (Nat.shiftRight_le _ _) (by assumption) | exact Nat.lt_of_le_of_lt Nat.and_le_right (by omega))) ml_X3_43 rfl ⟨Nat.le_of_ble_eq_true rfl, Nat.le_of_ble_eq_true rfl⟩ ⟨Nat.le_of_ble_eq_true rfl, Nat.le_of_ble_eq_true rfl⟩ hl (Nat.le_of_ble_eq_true rfl) rfl dX3_text_2 (fun H locs B => ?_)
  have q2_0 := B.1.2.2.2 ((z)).toNat
  refine zo_callT C B K V ho9 (c_X2_placesOf l D cB ((c) (z).toNat) (by first | assumption | omega | rfl | exact decide_eq_false (by omega) | exact decide_eq_true (by assumption) | exact decide_eq_true (by omega) | exact one_shl33 (by omega) | exact pm_lt _ _ | exact rm_lt (by first | assumption | exact pm_lt _ _) | exact Nat.lt_of_le_of_lt (Nat.shiftRight_le _ _) (by assumption) | exact Nat.lt_of_le_of_lt Nat.and_le_right (by omega))) ml_X3_130 ⟨Nat.le_of_ble_eq_true rfl, Nat.le_of_ble_eq_true rfl⟩ ⟨Nat.le_of_ble_eq_true rfl, Nat.le_of_ble_eq_true rfl⟩ hl (Nat.le_of_ble_eq_true rfl) rfl dX3_text_5 (fun q H locs B => ?_)
  exact zo_aret C B hr hk (Nat.le_of_ble_eq_true rfl) (Nat.le_of_ble_eq_true rfl) dX3_text_8 ⟨_, rfl⟩ rfl rfl

set_option maxHeartbeats 4000000 in
set_option maxRecDepth 100000 in
theorem c_X3_code (l : Launch) (D : va_G) (cB cJ : ClassId) (o a : Nat) (c : Nat → Nat) (ac : Int32) (re : Int32) (kn : Int32) (z : Int) (r : Int) (hz : 0 ≤ z ∧ z ≤ 5) (hr0 : 2 ≤ r ∧ r ≤ 36) : zAV l yX3_code 7 215 70 33900 D cB 2 cJ o a [.int (iZ (z)), .int (iZ (r))] c [.int (ac), .int (re), .int (kn)] (fun v => ∃ q, v = some (.ref q)) (c) [.int (ac), .int (re), .int (kn)] := by
  refine zAV.intro (lo := 191) (nA := 2) (own := RX3) zi_X3_code (by decide) rfl rfl (by decide +kernel) rfl (Nat.le_of_ble_eq_true rfl) ?_
  intro p e s m below meth c0 ls C hr hk B K V hl
  have hl : lv_has ls 5 [(0, .ref o), (1, .int (iZ (z))), (2, .int (iZ (r)))] := hl
  have ho9 := B.1.lt
  have hA : ∀ q, s.heap.size ≤ q → zF o a s.heap.size q := fun _ h => Or.inr (Or.inr h)
  refine lv_aload_n C.1 C.2.1 dX3_code_0 rfl (lv_at hl 0 rfl) ?_
  refine lv_iload_n C.1 C.2.1 dX3_code_1 rfl (lv_at hl 1 rfl) ?_
  refine zo_callD C B (r := some (.long (lN ((c) (z).toNat)))) (c_X3_polyIn l D cJ o a (c) (ac) (re) (kn) (z) (by first | assumption | omega | rfl | exact decide_eq_false (by omega) | exact decide_eq_true (by assumption) | exact decide_eq_true (by omega) | exact one_shl33 (by omega) | exact pm_lt _ _ | exact rm_lt (by first | assumption | exact pm_lt _ _) | exact Nat.lt_of_le_of_lt (Nat.shiftRight_le _ _) (by assumption) | exact Nat.lt_of_le_of_lt Nat.and_le_right (by omega))) ml_X3_43 rfl ⟨Nat.le_of_ble_eq_true rfl, Nat.le_of_ble_eq_true rfl⟩ ⟨Nat.le_of_ble_eq_true rfl, Nat.le_of_ble_eq_true rfl⟩ hl (Nat.le_of_ble_eq_true rfl) rfl dX3_code_2 (fun H locs B => ?_)
  have q2_0 := B.1.2.2.2 ((z)).toNat
  refine lv_lstore_n (lv' := [(3, .long (lN ((c) (z).toNat))), (0, .ref o), (1, .int (iZ (z))), (2, .int (iZ (r)))]) C.1 C.2.1 dX3_code_5 rfl hl (by decide) rfl (fun ls hl => ?_)
  refine lv_iload_n C.1 C.2.1 dX3_code_6 rfl (lv_at hl 3 rfl) ?_
  refine z_iconst C dX3_code_7 ?_
  refine z_bipush C dX3_code_8 (by decide) ?_
  refine z_callv C (c_X3_checkRange l (r) (2 : Int) (36 : Int) (by first | assumption | omega | rfl | exact decide_eq_false (by omega) | exact decide_eq_true (by assumption) | exact decide_eq_true (by omega) | exact one_shl33 (by omega) | exact pm_lt _ _ | exact rm_lt (by first | assumption | exact pm_lt _ _) | exact Nat.lt_of_le_of_lt (Nat.shiftRight_le _ _) (by assumption) | exact Nat.lt_of_le_of_lt Nat.and_le_right (by omega))) ml_X3_33 ⟨by decide, by decide⟩ ⟨Nat.le_of_ble_eq_true rfl, Nat.le_of_ble_eq_true rfl⟩ hl (Nat.le_of_ble_eq_true rfl) rfl dX3_code_10 ?_
  refine lv_lload_n C.1 C.2.1 dX3_code_13 rfl (lv_at hl 0 rfl) ?_
  refine lv_iload_n C.1 C.2.1 dX3_code_14 rfl (lv_at hl 3 rfl) ?_
  refine zo_callT C B K V ho9 (c_X2_numberIn l D cB ((c) (z).toNat) (r) (by first | assumption | omega | rfl | exact decide_eq_false (by omega) | exact decide_eq_true (by assumption) | exact decide_eq_true (by omega) | exact one_shl33 (by omega) | exact pm_lt _ _ | exact rm_lt (by first | assumption | exact pm_lt _ _) | exact Nat.lt_of_le_of_lt (Nat.shiftRight_le _ _) (by assumption) | exact Nat.lt_of_le_of_lt Nat.and_le_right (by omega)) (by first | assumption | omega | rfl | exact decide_eq_false (by omega) | exact decide_eq_true (by assumption) | exact decide_eq_true (by omega) | exact one_shl33 (by omega) | exact pm_lt _ _ | exact rm_lt (by first | assumption | exact pm_lt _ _) | exact Nat.lt_of_le_of_lt (Nat.shiftRight_le _ _) (by assumption) | exact Nat.lt_of_le_of_lt Nat.and_le_right (by omega))) ml_X3_136 ⟨Nat.le_of_ble_eq_true rfl, Nat.le_of_ble_eq_true rfl⟩ ⟨Nat.le_of_ble_eq_true rfl, Nat.le_of_ble_eq_true rfl⟩ hl (Nat.le_of_ble_eq_true rfl) rfl dX3_code_15 (fun q H locs B => ?_)
  exact zo_aret C B hr hk (Nat.le_of_ble_eq_true rfl) (Nat.le_of_ble_eq_true rfl) dX3_code_18 ⟨_, rfl⟩ rfl rfl

set_option maxHeartbeats 4000000 in
set_option maxRecDepth 100000 in
theorem c_X3_factors_ok (l : Launch) (D : va_G) (cB cJ : ClassId) (o a : Nat) (c : Nat → Nat) (ac : Int32) (re : Int32) (kn : Int32) (z : Int) (hz : 0 ≤ z ∧ z ≤ 5) (hg : 0 ≤ tp (c z.toNat) ∧ tp (c z.toNat) ≤ 8) : zAV l yX3_factors 7 214 24 10000 D cB 2 cJ o a [.int (iZ (z))] c [.int (ac), .int (re), .int (kn)] (fun v => ∃ q, v = some (.ref q)) (c) [.int (ac), .int (re), .int (kn)] := by
  refine zAV.intro (lo := 191) (nA := 1) (own := RX3) zi_X3_factors (by decide) rfl rfl (by decide +kernel) rfl (Nat.le_of_ble_eq_true rfl) ?_
  intro p e s m below meth c0 ls C hr hk B K V hl
  have hl : lv_has ls 4 [(0, .ref o), (1, .int (iZ (z)))] := hl
  have ho9 := B.1.lt
  have hA : ∀ q, s.heap.size ≤ q → zF o a s.heap.size q := fun _ h => Or.inr (Or.inr h)
  refine lv_aload_n C.1 C.2.1 dX3_factors_0 rfl (lv_at hl 0 rfl) ?_
  refine lv_iload_n C.1 C.2.1 dX3_factors_1 rfl (lv_at hl 1 rfl) ?_
  refine zo_callD C B (r := some (.long (lN ((c) (z).toNat)))) (c_X3_polyIn l D cJ o a (c) (ac) (re) (kn) (z) (by first | assumption | omega | rfl | exact decide_eq_false (by omega) | exact decide_eq_true (by assumption) | exact decide_eq_true (by omega) | exact one_shl33 (by omega) | exact pm_lt _ _ | exact rm_lt (by first | assumption | exact pm_lt _ _) | exact Nat.lt_of_le_of_lt (Nat.shiftRight_le _ _) (by assumption) | exact Nat.lt_of_le_of_lt Nat.and_le_right (by omega))) ml_X3_43 rfl ⟨Nat.le_of_ble_eq_true rfl, Nat.le_of_ble_eq_true rfl⟩ ⟨Nat.le_of_ble_eq_true rfl, Nat.le_of_ble_eq_true rfl⟩ hl (Nat.le_of_ble_eq_true rfl) rfl dX3_factors_2 (fun H locs B => ?_)
  have q2_0 := B.1.2.2.2 ((z)).toNat
  refine lv_lstore_n (lv' := [(2, .long (lN ((c) (z).toNat))), (0, .ref o), (1, .int (iZ (z)))]) C.1 C.2.1 dX3_factors_5 rfl hl (by decide) rfl (fun ls hl => ?_)
  refine lv_lload_n C.1 C.2.1 dX3_factors_6 rfl (lv_at hl 0 rfl) ?_
  refine z_iconst C dX3_factors_7 ?_
  refine z_bipush C dX3_factors_8 (by decide) ?_
  refine z_call C (c_X3_hasDegreeIn l ((c) (z).toNat) (0 : Int) (8 : Int) (by first | assumption | omega | rfl | exact decide_eq_false (by omega) | exact decide_eq_true (by assumption) | exact decide_eq_true (by omega) | exact one_shl33 (by omega) | exact pm_lt _ _ | exact rm_lt (by first | assumption | exact pm_lt _ _) | exact Nat.lt_of_le_of_lt (Nat.shiftRight_le _ _) (by assumption) | exact Nat.lt_of_le_of_lt Nat.and_le_right (by omega)) (by first | assumption | omega | rfl | exact decide_eq_false (by omega) | exact decide_eq_true (by assumption) | exact decide_eq_true (by omega) | exact one_shl33 (by omega) | exact pm_lt _ _ | exact rm_lt (by first | assumption | exact pm_lt _ _) | exact Nat.lt_of_le_of_lt (Nat.shiftRight_le _ _) (by assumption) | exact Nat.lt_of_le_of_lt Nat.and_le_right (by omega))) ml_X3_105 ⟨by decide, by decide⟩ ⟨Nat.le_of_ble_eq_true rfl, Nat.le_of_ble_eq_true rfl⟩ hl (Nat.le_of_ble_eq_true rfl) rfl dX3_factors_10 ?_
  refine z_ifB_ne (tgt := 24) C dX3_factors_13 (by decide) (fun h13 => ?_) (fun h13 => ?_)
  · have e9 := (tp_le (n := c z.toNat) (k := 8)).mp (by omega)
    have e8 : ¬ c z.toNat = 0 := fun g => absurd (tp_neg.mpr g) (by omega)
    refine lv_lload_n C.1 C.2.1 dX3_factors_24 rfl (lv_at hl 0 rfl) ?_
    refine zo_callT C B K V ho9 (c_X0_factorsOf l D cB ((c) (z).toNat) (by first | assumption | omega | rfl | exact decide_eq_false (by omega) | exact decide_eq_true (by assumption) | exact decide_eq_true (by omega) | exact one_shl33 (by omega) | exact pm_lt _ _ | exact rm_lt (by first | assumption | exact pm_lt _ _) | exact Nat.lt_of_le_of_lt (Nat.shiftRight_le _ _) (by assumption) | exact Nat.lt_of_le_of_lt Nat.and_le_right (by omega))) ml_X3_153 ⟨Nat.le_of_ble_eq_true rfl, Nat.le_of_ble_eq_true rfl⟩ ⟨Nat.le_of_ble_eq_true rfl, Nat.le_of_ble_eq_true rfl⟩ hl (Nat.le_of_ble_eq_true rfl) rfl dX3_factors_25 (fun q H locs B => ?_)
    exact zo_aret C B hr hk (Nat.le_of_ble_eq_true rfl) (Nat.le_of_ble_eq_true rfl) dX3_factors_28 ⟨_, rfl⟩ rfl rfl
  · exact absurd (of_decide_eq_false h13) (not_not_intro hg)

set_option maxHeartbeats 4000000 in
set_option maxRecDepth 100000 in
theorem c_X3_factors_no (l : Launch) (D : va_G) (cB cJ : ClassId) (o a : Nat) (c : Nat → Nat) (ac : Int32) (re : Int32) (kn : Int32) (z : Int) (hz : 0 ≤ z ∧ z ≤ 5) (hg : ¬ (0 ≤ tp (c z.toNat) ∧ tp (c z.toNat) ≤ 8)) : zAV l yX3_factors 2 70 24 10000 D cB 2 cJ o a [.int (iZ (z))] c [.int (ac), .int (re), .int (kn)] (fun v => ∃ q, v = some (.ref q)) (c) [.int (ac), .int (aF re none), .int (kn)] := by
  refine zAV.intro (lo := 47) (nA := 1) (own := RX3) zi_X3_factors (by decide) rfl rfl (by decide +kernel) rfl (Nat.le_of_ble_eq_true rfl) ?_
  intro p e s m below meth c0 ls C hr hk B K V hl
  have hl : lv_has ls 4 [(0, .ref o), (1, .int (iZ (z)))] := hl
  have ho9 := B.1.lt
  have hA : ∀ q, s.heap.size ≤ q → zF o a s.heap.size q := fun _ h => Or.inr (Or.inr h)
  refine lv_aload_n C.1 C.2.1 dX3_factors_0 rfl (lv_at hl 0 rfl) ?_
  refine lv_iload_n C.1 C.2.1 dX3_factors_1 rfl (lv_at hl 1 rfl) ?_
  refine zo_callD C B (r := some (.long (lN ((c) (z).toNat)))) (c_X3_polyIn l D cJ o a (c) (ac) (re) (kn) (z) (by first | assumption | omega | rfl | exact decide_eq_false (by omega) | exact decide_eq_true (by assumption) | exact decide_eq_true (by omega) | exact one_shl33 (by omega) | exact pm_lt _ _ | exact rm_lt (by first | assumption | exact pm_lt _ _) | exact Nat.lt_of_le_of_lt (Nat.shiftRight_le _ _) (by assumption) | exact Nat.lt_of_le_of_lt Nat.and_le_right (by omega))) ml_X3_43 rfl ⟨Nat.le_of_ble_eq_true rfl, Nat.le_of_ble_eq_true rfl⟩ ⟨Nat.le_of_ble_eq_true rfl, Nat.le_of_ble_eq_true rfl⟩ hl (Nat.le_of_ble_eq_true rfl) rfl dX3_factors_2 (fun H locs B => ?_)
  have q2_0 := B.1.2.2.2 ((z)).toNat
  refine lv_lstore_n (lv' := [(2, .long (lN ((c) (z).toNat))), (0, .ref o), (1, .int (iZ (z)))]) C.1 C.2.1 dX3_factors_5 rfl hl (by decide) rfl (fun ls hl => ?_)
  refine lv_lload_n C.1 C.2.1 dX3_factors_6 rfl (lv_at hl 0 rfl) ?_
  refine z_iconst C dX3_factors_7 ?_
  refine z_bipush C dX3_factors_8 (by decide) ?_
  refine z_call C (c_X3_hasDegreeIn l ((c) (z).toNat) (0 : Int) (8 : Int) (by first | assumption | omega | rfl | exact decide_eq_false (by omega) | exact decide_eq_true (by assumption) | exact decide_eq_true (by omega) | exact one_shl33 (by omega) | exact pm_lt _ _ | exact rm_lt (by first | assumption | exact pm_lt _ _) | exact Nat.lt_of_le_of_lt (Nat.shiftRight_le _ _) (by assumption) | exact Nat.lt_of_le_of_lt Nat.and_le_right (by omega)) (by first | assumption | omega | rfl | exact decide_eq_false (by omega) | exact decide_eq_true (by assumption) | exact decide_eq_true (by omega) | exact one_shl33 (by omega) | exact pm_lt _ _ | exact rm_lt (by first | assumption | exact pm_lt _ _) | exact Nat.lt_of_le_of_lt (Nat.shiftRight_le _ _) (by assumption) | exact Nat.lt_of_le_of_lt Nat.and_le_right (by omega))) ml_X3_105 ⟨by decide, by decide⟩ ⟨Nat.le_of_ble_eq_true rfl, Nat.le_of_ble_eq_true rfl⟩ hl (Nat.le_of_ble_eq_true rfl) rfl dX3_factors_10 ?_
  refine z_ifB_ne (tgt := 24) C dX3_factors_13 (by decide) (fun h13 => ?_) (fun h13 => ?_)
  · exact absurd (of_decide_eq_true h13) hg
  · refine lv_aload_n C.1 C.2.1 dX3_factors_16 rfl (lv_at hl 1 rfl) ?_
    refine zo_callD C B (r := some (.int (iZ (-9)))) (c_X3_refuse l D cJ o a (c) ((ac)) ((re)) ((kn))  ) ml_X3_73 rfl ⟨Nat.le_of_ble_eq_true rfl, Nat.le_of_ble_eq_true rfl⟩ ⟨Nat.le_of_ble_eq_true rfl, Nat.le_of_ble_eq_true rfl⟩ hl (Nat.le_of_ble_eq_true rfl) rfl dX3_factors_17 (fun H locs B => ?_)
    refine lv_pop C.1 C.2.1 dX3_factors_20 rfl ?_
    refine zt_ldc C V.t.2.2.1 dX3_factors_21 (fun q => ?_)
    exact zo_aret C B hr hk (Nat.le_of_ble_eq_true rfl) (Nat.le_of_ble_eq_true rfl) dX3_factors_23 ⟨_, rfl⟩ rfl rfl

set_option maxHeartbeats 4000000 in
set_option maxRecDepth 100000 in
theorem c_X5_text_bad1 (l : Launch) (D : va_G) (cB cJ : ClassId) (o a : Nat) (c : Nat → Nat) (th : Int) (ac : Int32) (re : Int32) (kn : Int32) (z : Int) (r9z : -2147483648 ≤ z ∧ z ≤ 2147483647) (hbad : ¬ (0 ≤ z ∧ z ≤ 5)) : zAV l yX5_text 2 67 0 0 D cB 4 cJ o a [.int (iZ (z))] c [.int (iZ (th)), .int (ac), .int (re), .int (kn)] (fun v => ∃ q, v = some (.ref q)) (c) [.int (iZ (1)), .int (ac), .int (re), .int (kn)] := by
  refine zAV.intro (lo := 44) (nA := 1) (own := RX5) zi_X5_text (by decide) rfl rfl (by decide +kernel) rfl (Nat.le_of_ble_eq_true rfl) ?_
  intro p e s m below meth c0 ls C hr hk B K V hl
  have hl : lv_has ls 4 [(0, .ref o), (1, .int (iZ (z)))] := hl
  have ho9 := B.1.lt
  have hA : ∀ q, s.heap.size ≤ q → zF o a s.heap.size q := fun _ h => Or.inr (Or.inr h)
  refine lv_aload_n C.1 C.2.1 dX5_text_0 rfl (lv_at hl 0 rfl) ?_
  refine lv_iload_n C.1 C.2.1 dX5_text_1 rfl (lv_at hl 1 rfl) ?_
  refine z_call C (c_X5_isNo l (z) (by first | assumption | omega | rfl | exact decide_eq_false (by omega) | exact decide_eq_true (by assumption) | exact decide_eq_true (by omega) | exact one_shl33 (by omega) | exact pm_lt _ _ | exact rm_lt (by first | assumption | exact pm_lt _ _) | exact Nat.lt_of_le_of_lt (Nat.shiftRight_le _ _) (by assumption) | exact Nat.lt_of_le_of_lt Nat.and_le_right (by omega))) ml_X5_67 ⟨by decide, by decide⟩ ⟨Nat.le_of_ble_eq_true rfl, Nat.le_of_ble_eq_true rfl⟩ hl (Nat.le_of_ble_eq_true rfl) rfl dX5_text_2 ?_
  refine z_iconst C dX5_text_5 ?_
  refine zo_callD C B (r := some (.int (iZ (zB (true))))) (c_X5_start_bad l D cJ o a (c) (th) (ac) (re) (kn) (decide (¬ (0 ≤ (z) ∧ (z) ≤ 5))) (1 : Int) (by first | assumption | omega | rfl | exact decide_eq_false (by omega) | exact decide_eq_true (by assumption) | exact decide_eq_true (by omega) | exact one_shl33 (by omega) | exact pm_lt _ _ | exact rm_lt (by first | assumption | exact pm_lt _ _) | exact Nat.lt_of_le_of_lt (Nat.shiftRight_le _ _) (by assumption) | exact Nat.lt_of_le_of_lt Nat.and_le_right (by omega)) (by first | assumption | omega | rfl | exact decide_eq_false (by omega) | exact decide_eq_true (by assumption) | exact decide_eq_true (by omega) | exact one_shl33 (by omega) | exact pm_lt _ _ | exact rm_lt (by first | assumption | exact pm_lt _ _) | exact Nat.lt_of_le_of_lt (Nat.shiftRight_le _ _) (by assumption) | exact Nat.lt_of_le_of_lt Nat.and_le_right (by omega))) ml_X5_71 rfl ⟨Nat.le_of_ble_eq_true rfl, Nat.le_of_ble_eq_true rfl⟩ ⟨Nat.le_of_ble_eq_true rfl, Nat.le_of_ble_eq_true rfl⟩ hl (Nat.le_of_ble_eq_true rfl) rfl dX5_text_6 (fun H locs B => ?_)
  refine z_ifB_eq (tgt := 15) C dX5_text_9 (by decide) (fun h9 => ?_) (fun h9 => ?_)
  · exact absurd h9 (by decide)
  · refine zt_ldc C V.t.2.2.2.1 dX5_text_12 (fun q => ?_)
    exact zo_aret C B hr hk (Nat.le_of_ble_eq_true rfl) (Nat.le_of_ble_eq_true rfl) dX5_text_14 ⟨_, rfl⟩ rfl rfl

set_option maxHeartbeats 4000000 in
set_option maxRecDepth 100000 in
theorem c_X5_code_bad1 (l : Launch) (D : va_G) (cB cJ : ClassId) (o a : Nat) (c : Nat → Nat) (th : Int) (ac : Int32) (re : Int32) (kn : Int32) (z : Int) (r : Int) (r9z : -2147483648 ≤ z ∧ z ≤ 2147483647) (r9r : -2147483648 ≤ r ∧ r ≤ 2147483647) (hbad : ¬ (0 ≤ z ∧ z ≤ 5)) : zAV l yX5_code 2 69 0 0 D cB 4 cJ o a [.int (iZ (z)), .int (iZ (r))] c [.int (iZ (th)), .int (ac), .int (re), .int (kn)] (fun v => ∃ q, v = some (.ref q)) (c) [.int (iZ (1)), .int (ac), .int (re), .int (kn)] := by
  refine zAV.intro (lo := 44) (nA := 2) (own := RX5) zi_X5_code (by decide) rfl rfl (by decide +kernel) rfl (Nat.le_of_ble_eq_true rfl) ?_
  intro p e s m below meth c0 ls C hr hk B K V hl
  have hl : lv_has ls 6 [(0, .ref o), (1, .int (iZ (z))), (2, .int (iZ (r)))] := hl
  have ho9 := B.1.lt
  have hA : ∀ q, s.heap.size ≤ q → zF o a s.heap.size q := fun _ h => Or.inr (Or.inr h)
  refine lv_aload_n C.1 C.2.1 dX5_code_0 rfl (lv_at hl 0 rfl) ?_
  refine lv_iload_n C.1 C.2.1 dX5_code_1 rfl (lv_at hl 1 rfl) ?_
  refine z_call C (c_X5_isNo l (z) (by first | assumption | omega | rfl | exact decide_eq_false (by omega) | exact decide_eq_true (by assumption) | exact decide_eq_true (by omega) | exact one_shl33 (by omega) | exact pm_lt _ _ | exact rm_lt (by first | assumption | exact pm_lt _ _) | exact Nat.lt_of_le_of_lt (Nat.shiftRight_le _ _) (by assumption) | exact Nat.lt_of_le_of_lt Nat.and_le_right (by omega))) ml_X5_67 ⟨by decide, by decide⟩ ⟨Nat.le_of_ble_eq_true rfl, Nat.le_of_ble_eq_true rfl⟩ hl (Nat.le_of_ble_eq_true rfl) rfl dX5_code_2 ?_
  refine z_iconst C dX5_code_5 ?_
  refine zo_callD C B (r := some (.int (iZ (zB (true))))) (c_X5_start_bad l D cJ o a (c) (th) (ac) (re) (kn) (decide (¬ (0 ≤ (z) ∧ (z) ≤ 5))) (1 : Int) (by first | assumption | omega | rfl | exact decide_eq_false (by omega) | exact decide_eq_true (by assumption) | exact decide_eq_true (by omega) | exact one_shl33 (by omega) | exact pm_lt _ _ | exact rm_lt (by first | assumption | exact pm_lt _ _) | exact Nat.lt_of_le_of_lt (Nat.shiftRight_le _ _) (by assumption) | exact Nat.lt_of_le_of_lt Nat.and_le_right (by omega)) (by first | assumption | omega | rfl | exact decide_eq_false (by omega) | exact decide_eq_true (by assumption) | exact decide_eq_true (by omega) | exact one_shl33 (by omega) | exact pm_lt _ _ | exact rm_lt (by first | assumption | exact pm_lt _ _) | exact Nat.lt_of_le_of_lt (Nat.shiftRight_le _ _) (by assumption) | exact Nat.lt_of_le_of_lt Nat.and_le_right (by omega))) ml_X5_71 rfl ⟨Nat.le_of_ble_eq_true rfl, Nat.le_of_ble_eq_true rfl⟩ ⟨Nat.le_of_ble_eq_true rfl, Nat.le_of_ble_eq_true rfl⟩ hl (Nat.le_of_ble_eq_true rfl) rfl dX5_code_6 (fun H locs B => ?_)
  refine z_ifB_ne (tgt := 35) C dX5_code_9 (by decide) (fun h9 => ?_) (fun h9 => ?_)
  · refine zt_ldc C V.t.2.2.2.1 dX5_code_35 (fun q => ?_)
    exact zo_aret C B hr hk (Nat.le_of_ble_eq_true rfl) (Nat.le_of_ble_eq_true rfl) dX5_code_37 ⟨_, rfl⟩ rfl rfl
  · exact absurd h9 (by decide)

set_option maxHeartbeats 4000000 in
set_option maxRecDepth 100000 in
theorem c_X5_factors_bad1 (l : Launch) (D : va_G) (cB cJ : ClassId) (o a : Nat) (c : Nat → Nat) (th : Int) (ac : Int32) (re : Int32) (kn : Int32) (z : Int) (r9z : -2147483648 ≤ z ∧ z ≤ 2147483647) (hbad : ¬ (0 ≤ z ∧ z ≤ 5)) : zAV l yX5_factors 2 69 0 0 D cB 4 cJ o a [.int (iZ (z))] c [.int (iZ (th)), .int (ac), .int (re), .int (kn)] (fun v => ∃ q, v = some (.ref q)) (c) [.int (iZ (1)), .int (ac), .int (re), .int (kn)] := by
  refine zAV.intro (lo := 44) (nA := 1) (own := RX5) zi_X5_factors (by decide) rfl rfl (by decide +kernel) rfl (Nat.le_of_ble_eq_true rfl) ?_
  intro p e s m below meth c0 ls C hr hk B K V hl
  have hl : lv_has ls 6 [(0, .ref o), (1, .int (iZ (z)))] := hl
  have ho9 := B.1.lt
  have hA : ∀ q, s.heap.size ≤ q → zF o a s.heap.size q := fun _ h => Or.inr (Or.inr h)
  refine lv_aload_n C.1 C.2.1 dX5_factors_0 rfl (lv_at hl 0 rfl) ?_
  refine lv_iload_n C.1 C.2.1 dX5_factors_1 rfl (lv_at hl 1 rfl) ?_
  refine z_call C (c_X5_isNo l (z) (by first | assumption | omega | rfl | exact decide_eq_false (by omega) | exact decide_eq_true (by assumption) | exact decide_eq_true (by omega) | exact one_shl33 (by omega) | exact pm_lt _ _ | exact rm_lt (by first | assumption | exact pm_lt _ _) | exact Nat.lt_of_le_of_lt (Nat.shiftRight_le _ _) (by assumption) | exact Nat.lt_of_le_of_lt Nat.and_le_right (by omega))) ml_X5_67 ⟨by decide, by decide⟩ ⟨Nat.le_of_ble_eq_true rfl, Nat.le_of_ble_eq_true rfl⟩ hl (Nat.le_of_ble_eq_true rfl) rfl dX5_factors_2 ?_
  refine z_iconst C dX5_factors_5 ?_
  refine zo_callD C B (r := some (.int (iZ (zB (true))))) (c_X5_start_bad l D cJ o a (c) (th) (ac) (re) (kn) (decide (¬ (0 ≤ (z) ∧ (z) ≤ 5))) (1 : Int) (by first | assumption | omega | rfl | exact decide_eq_false (by omega) | exact decide_eq_true (by assumption) | exact decide_eq_true (by omega) | exact one_shl33 (by omega) | exact pm_lt _ _ | exact rm_lt (by first | assumption | exact pm_lt _ _) | exact Nat.lt_of_le_of_lt (Nat.shiftRight_le _ _) (by assumption) | exact Nat.lt_of_le_of_lt Nat.and_le_right (by omega)) (by first | assumption | omega | rfl | exact decide_eq_false (by omega) | exact decide_eq_true (by assumption) | exact decide_eq_true (by omega) | exact one_shl33 (by omega) | exact pm_lt _ _ | exact rm_lt (by first | assumption | exact pm_lt _ _) | exact Nat.lt_of_le_of_lt (Nat.shiftRight_le _ _) (by assumption) | exact Nat.lt_of_le_of_lt Nat.and_le_right (by omega))) ml_X5_71 rfl ⟨Nat.le_of_ble_eq_true rfl, Nat.le_of_ble_eq_true rfl⟩ ⟨Nat.le_of_ble_eq_true rfl, Nat.le_of_ble_eq_true rfl⟩ hl (Nat.le_of_ble_eq_true rfl) rfl dX5_factors_6 (fun H locs B => ?_)
  refine z_ifB_eq (tgt := 15) C dX5_factors_9 (by decide) (fun h9 => ?_) (fun h9 => ?_)
  · exact absurd h9 (by decide)
  · refine zt_ldc C V.t.2.2.2.1 dX5_factors_12 (fun q => ?_)
    exact zo_aret C B hr hk (Nat.le_of_ble_eq_true rfl) (Nat.le_of_ble_eq_true rfl) dX5_factors_14 ⟨_, rfl⟩ rfl rfl

set_option maxHeartbeats 4000000 in
set_option maxRecDepth 100000 in
theorem c_X5_code_bad2 (l : Launch) (D : va_G) (cB cJ : ClassId) (o a : Nat) (c : Nat → Nat) (th : Int) (ac : Int32) (re : Int32) (kn : Int32) (z : Int) (r : Int) (r9z : -2147483648 ≤ z ∧ z ≤ 2147483647) (r9r : -2147483648 ≤ r ∧ r ≤ 2147483647) (hcel : 0 ≤ z ∧ z ≤ 5) (hbad : ¬ (2 ≤ r ∧ r ≤ 36)) : zAV l yX5_code 2 69 0 0 D cB 4 cJ o a [.int (iZ (z)), .int (iZ (r))] c [.int (iZ (th)), .int (ac), .int (re), .int (kn)] (fun v => ∃ q, v = some (.ref q)) (c) [.int (iZ (2)), .int (ac), .int (re), .int (kn)] := by
  refine zAV.intro (lo := 44) (nA := 2) (own := RX5) zi_X5_code (by decide) rfl rfl (by decide +kernel) rfl (Nat.le_of_ble_eq_true rfl) ?_
  intro p e s m below meth c0 ls C hr hk B K V hl
  have hl : lv_has ls 6 [(0, .ref o), (1, .int (iZ (z))), (2, .int (iZ (r)))] := hl
  have ho9 := B.1.lt
  have hA : ∀ q, s.heap.size ≤ q → zF o a s.heap.size q := fun _ h => Or.inr (Or.inr h)
  refine lv_aload_n C.1 C.2.1 dX5_code_0 rfl (lv_at hl 0 rfl) ?_
  refine lv_iload_n C.1 C.2.1 dX5_code_1 rfl (lv_at hl 1 rfl) ?_
  refine z_call C (c_X5_isNo l (z) (by first | assumption | omega | rfl | exact decide_eq_false (by omega) | exact decide_eq_true (by assumption) | exact decide_eq_true (by omega) | exact one_shl33 (by omega) | exact pm_lt _ _ | exact rm_lt (by first | assumption | exact pm_lt _ _) | exact Nat.lt_of_le_of_lt (Nat.shiftRight_le _ _) (by assumption) | exact Nat.lt_of_le_of_lt Nat.and_le_right (by omega))) ml_X5_67 ⟨by decide, by decide⟩ ⟨Nat.le_of_ble_eq_true rfl, Nat.le_of_ble_eq_true rfl⟩ hl (Nat.le_of_ble_eq_true rfl) rfl dX5_code_2 ?_
  refine z_iconst C dX5_code_5 ?_
  refine zo_callD C B (r := some (.int (iZ (zB (false))))) (c_X5_start_ok l D cJ o a (c) (th) (ac) (re) (kn) (decide (¬ (0 ≤ (z) ∧ (z) ≤ 5))) (1 : Int) (by first | assumption | omega | rfl | exact decide_eq_false (by omega) | exact decide_eq_true (by assumption) | exact decide_eq_true (by omega) | exact one_shl33 (by omega) | exact pm_lt _ _ | exact rm_lt (by first | assumption | exact pm_lt _ _) | exact Nat.lt_of_le_of_lt (Nat.shiftRight_le _ _) (by assumption) | exact Nat.lt_of_le_of_lt Nat.and_le_right (by omega))) ml_X5_71 rfl ⟨Nat.le_of_ble_eq_true rfl, Nat.le_of_ble_eq_true rfl⟩ ⟨Nat.le_of_ble_eq_true rfl, Nat.le_of_ble_eq_true rfl⟩ hl (Nat.le_of_ble_eq_true rfl) rfl dX5_code_6 (fun H locs B => ?_)
  refine z_ifB_ne (tgt := 35) C dX5_code_9 (by decide) (fun h9 => ?_) (fun h9 => ?_)
  · exact absurd h9 (by decide)
  · refine lv_aload_n C.1 C.2.1 dX5_code_12 rfl (lv_at hl 0 rfl) ?_
    refine lv_iload_n C.1 C.2.1 dX5_code_13 rfl (lv_at hl 2 rfl) ?_
    refine z_iconst C dX5_code_14 ?_
    refine z_bipush C dX5_code_15 (by decide) ?_
    refine z_call C (c_X5_isIn l (r) (2 : Int) (36 : Int) (by first | assumption | omega | rfl | exact decide_eq_false (by omega) | exact decide_eq_true (by assumption) | exact decide_eq_true (by omega) | exact one_shl33 (by omega) | exact pm_lt _ _ | exact rm_lt (by first | assumption | exact pm_lt _ _) | exact Nat.lt_of_le_of_lt (Nat.shiftRight_le _ _) (by assumption) | exact Nat.lt_of_le_of_lt Nat.and_le_right (by omega)) (by first | assumption | omega | rfl | exact decide_eq_false (by omega) | exact decide_eq_true (by assumption) | exact decide_eq_true (by omega) | exact one_shl33 (by omega) | exact pm_lt _ _ | exact rm_lt (by first | assumption | exact pm_lt _ _) | exact Nat.lt_of_le_of_lt (Nat.shiftRight_le _ _) (by assumption) | exact Nat.lt_of_le_of_lt Nat.and_le_right (by omega)) (by first | assumption | omega | rfl | exact decide_eq_false (by omega) | exact decide_eq_true (by assumption) | exact decide_eq_true (by omega) | exact one_shl33 (by omega) | exact pm_lt _ _ | exact rm_lt (by first | assumption | exact pm_lt _ _) | exact Nat.lt_of_le_of_lt (Nat.shiftRight_le _ _) (by assumption) | exact Nat.lt_of_le_of_lt Nat.and_le_right (by omega))) ml_X5_21 ⟨by decide, by decide⟩ ⟨Nat.le_of_ble_eq_true rfl, Nat.le_of_ble_eq_true rfl⟩ hl (Nat.le_of_ble_eq_true rfl) rfl dX5_code_17 ?_
    refine z_ifB_ne (tgt := 27) C dX5_code_20 (by decide) (fun h20 => ?_) (fun h20 => ?_)
    · have g20 := of_decide_eq_true h20
      refine z_iconst C dX5_code_27 ?_
      refine z_iconst C dX5_code_28 ?_
      exfalso; omega
    · have g20 := of_decide_eq_false h20
      refine z_iconst C dX5_code_23 ?_
      refine lv_goto (tgt := 28) C.1 C.2.1 dX5_code_24 (by decide) ?_
      refine z_iconst C dX5_code_28 ?_
      refine zo_callD C B (r := some (.int (iZ (zB (true))))) (c_X5_refuse_bad l D cJ o a (c) (0) ((ac)) ((re)) ((kn)) (true) (2 : Int) (by first | assumption | omega | rfl | exact decide_eq_false (by omega) | exact decide_eq_true (by assumption) | exact decide_eq_true (by omega) | exact one_shl33 (by omega) | exact pm_lt _ _ | exact rm_lt (by first | assumption | exact pm_lt _ _) | exact Nat.lt_of_le_of_lt (Nat.shiftRight_le _ _) (by assumption) | exact Nat.lt_of_le_of_lt Nat.and_le_right (by omega)) (by first | assumption | omega | rfl | exact decide_eq_false (by omega) | exact decide_eq_true (by assumption) | exact decide_eq_true (by omega) | exact one_shl33 (by omega) | exact pm_lt _ _ | exact rm_lt (by first | assumption | exact pm_lt _ _) | exact Nat.lt_of_le_of_lt (Nat.shiftRight_le _ _) (by assumption) | exact Nat.lt_of_le_of_lt Nat.and_le_right (by omega)) (by first | assumption | omega | rfl | exact decide_eq_false (by omega) | exact decide_eq_true (by assumption) | exact decide_eq_true (by omega) | exact one_shl33 (by omega) | exact pm_lt _ _ | exact rm_lt (by first | assumption | exact pm_lt _ _) | exact Nat.lt_of_le_of_lt (Nat.shiftRight_le _ _) (by assumption) | exact Nat.lt_of_le_of_lt Nat.and_le_right (by omega))) ml_X5_17 rfl ⟨Nat.le_of_ble_eq_true rfl, Nat.le_of_ble_eq_true rfl⟩ ⟨Nat.le_of_ble_eq_true rfl, Nat.le_of_ble_eq_true rfl⟩ hl (Nat.le_of_ble_eq_true rfl) rfl dX5_code_29 (fun H locs B => ?_)
      refine z_ifB_eq (tgt := 38) C dX5_code_32 (by decide) (fun h32 => ?_) (fun h32 => ?_)
      · exact absurd h32 (by decide)
      · refine zt_ldc C V.t.2.2.2.1 dX5_code_35 (fun q => ?_)
        exact zo_aret C B hr hk (Nat.le_of_ble_eq_true rfl) (Nat.le_of_ble_eq_true rfl) dX5_code_37 ⟨_, rfl⟩ rfl rfl

set_option maxHeartbeats 4000000 in
set_option maxRecDepth 100000 in
theorem c_X5_text (l : Launch) (D : va_G) (cB cJ : ClassId) (o a : Nat) (c : Nat → Nat) (th : Int) (ac : Int32) (re : Int32) (kn : Int32) (z : Int) (hz : 0 ≤ z ∧ z ≤ 5) : zAV l yX5_text 6 188 72 34864 D cB 4 cJ o a [.int (iZ (z))] c [.int (iZ (th)), .int (ac), .int (re), .int (kn)] (fun v => ∃ q, v = some (.ref q)) (c) [.int (iZ (0)), .int (ac), .int (re), .int (kn)] := by
  refine zAV.intro (lo := 165) (nA := 1) (own := RX5) zi_X5_text (by decide) rfl rfl (by decide +kernel) rfl (Nat.le_of_ble_eq_true rfl) ?_
  intro p e s m below meth c0 ls C hr hk B K V hl
  have hl : lv_has ls 4 [(0, .ref o), (1, .int (iZ (z)))] := hl
  have ho9 := B.1.lt
  have hA : ∀ q, s.heap.size ≤ q → zF o a s.heap.size q := fun _ h => Or.inr (Or.inr h)
  refine lv_aload_n C.1 C.2.1 dX5_text_0 rfl (lv_at hl 0 rfl) ?_
  refine lv_iload_n C.1 C.2.1 dX5_text_1 rfl (lv_at hl 1 rfl) ?_
  refine z_call C (c_X5_isNo l (z) (by first | assumption | omega | rfl | exact decide_eq_false (by omega) | exact decide_eq_true (by assumption) | exact decide_eq_true (by omega) | exact one_shl33 (by omega) | exact pm_lt _ _ | exact rm_lt (by first | assumption | exact pm_lt _ _) | exact Nat.lt_of_le_of_lt (Nat.shiftRight_le _ _) (by assumption) | exact Nat.lt_of_le_of_lt Nat.and_le_right (by omega))) ml_X5_67 ⟨by decide, by decide⟩ ⟨Nat.le_of_ble_eq_true rfl, Nat.le_of_ble_eq_true rfl⟩ hl (Nat.le_of_ble_eq_true rfl) rfl dX5_text_2 ?_
  refine z_iconst C dX5_text_5 ?_
  refine zo_callD C B (r := some (.int (iZ (zB (false))))) (c_X5_start_ok l D cJ o a (c) (th) (ac) (re) (kn) (decide (¬ (0 ≤ (z) ∧ (z) ≤ 5))) (1 : Int) (by first | assumption | omega | rfl | exact decide_eq_false (by omega) | exact decide_eq_true (by assumption) | exact decide_eq_true (by omega) | exact one_shl33 (by omega) | exact pm_lt _ _ | exact rm_lt (by first | assumption | exact pm_lt _ _) | exact Nat.lt_of_le_of_lt (Nat.shiftRight_le _ _) (by assumption) | exact Nat.lt_of_le_of_lt Nat.and_le_right (by omega))) ml_X5_71 rfl ⟨Nat.le_of_ble_eq_true rfl, Nat.le_of_ble_eq_true rfl⟩ ⟨Nat.le_of_ble_eq_true rfl, Nat.le_of_ble_eq_true rfl⟩ hl (Nat.le_of_ble_eq_true rfl) rfl dX5_text_6 (fun H locs B => ?_)
  refine z_ifB_eq (tgt := 15) C dX5_text_9 (by decide) (fun h9 => ?_) (fun h9 => ?_)
  · refine lv_aload_n C.1 C.2.1 dX5_text_15 rfl (lv_at hl 0 rfl) ?_
    refine zo_get C B (Cn := RX5) (T := TX5) (N := 5) (v := .ref a) rfl inX5 0 (by decide) fl_X5_7 rfl rfl dX5_text_16 ?_
    refine lv_iload_n C.1 C.2.1 dX5_text_19 rfl (lv_at hl 1 rfl) ?_
    refine zo_lald C B ((z).toNat) (by omega) (by omega) dX5_text_20 ?_
    have q20 := B.1.2.2.2 ((z).toNat)
    refine z_lconst (k0 := 0) C dX5_text_21 rfl ?_
    refine z_lc_ne (tgt := 29) C (by first | assumption | omega | rfl | exact decide_eq_false (by omega) | exact decide_eq_true (by assumption) | exact decide_eq_true (by omega) | exact one_shl33 (by omega) | exact pm_lt _ _ | exact rm_lt (by first | assumption | exact pm_lt _ _) | exact Nat.lt_of_le_of_lt (Nat.shiftRight_le _ _) (by assumption) | exact Nat.lt_of_le_of_lt Nat.and_le_right (by omega)) (by first | assumption | omega | rfl | exact decide_eq_false (by omega) | exact decide_eq_true (by assumption) | exact decide_eq_true (by omega) | exact one_shl33 (by omega) | exact pm_lt _ _ | exact rm_lt (by first | assumption | exact pm_lt _ _) | exact Nat.lt_of_le_of_lt (Nat.shiftRight_le _ _) (by assumption) | exact Nat.lt_of_le_of_lt Nat.and_le_right (by omega)) dX5_text_22 dX5_text_23 (by decide) (fun h22 => ?_) (fun h22 => ?_)
    · refine zt_new C K V B.2 hA cl_X5_115 ml_X5_117 ⟨Nat.le_of_ble_eq_true rfl, Nat.le_of_ble_eq_true rfl⟩ ⟨Nat.le_of_ble_eq_true rfl, Nat.le_of_ble_eq_true rfl⟩ hl (Nat.le_of_ble_eq_true rfl) dX5_text_29 dX5_text_32 dX5_text_33 (fun b v H locs Bt hq => ?_)
      have B : zIn D 4 cJ o a c [.int (iZ (0)), .int ((ac)), .int ((re)), .int ((kn))] s H locs := ⟨B.1.kept (hq o B.1.lt.1) (hq a B.1.lt.2), Bt.2.1⟩
      refine lv_astore_n (lv' := [(2, .ref b), (0, .ref o), (1, .int (iZ (z)))]) C.1 C.2.1 dX5_text_36 rfl hl (by decide) rfl (fun ls hl => ?_)
      refine z_bipush C dX5_text_37 (by decide) ?_
      refine lv_istore_n (lv' := [(3, .int (iZ (32))), (2, .ref b), (0, .ref o), (1, .int (iZ (z)))]) C.1 C.2.1 dX5_text_39 rfl hl (by decide) rfl (fun ls hl => ?_)
      have L40 : ∀ (j : Nat) (j0 : Nat) (b : Nat) (v : Nat) (n : Nat) (k : Nat) (ce : Nat) (sl : Nat) (x3 : Int) (H : Heap) (locs : List Loc) (ls : Array Slot), j0 < j → (x3 + 1 = (j0 : Int)) → (j0 ≤ 33) → (n + 4 * j0 ≤ 132) → (n ≤ k ∧ k ≤ 2 * n + 16) → (ce + 2 * j0 ≤ 70) → (sl + 1040 * j0 ≤ 34340) → (zIn D 4 cJ o a c [.int (iZ (0)), .int (ac), .int (re), .int (kn)] s H locs ∧ zTn (zF o a s.heap.size) D cB b v n k s H locs) → lv_has ls 4 [(0, .ref o), (1, .int (iZ (z))), (2, .ref b), (3, .int (iZ (x3)))] → W p l e { frames := 6, cells := 72, slots := 34864, locals := 165 } s m (Value.ref o :: ([.int (iZ (z))] : List Value)).toArray below meth c0 H locs ce sl (zE1 below D 4 cJ o a (Value.ref o :: ([.int (iZ (z))] : List Value)).toArray s 72 34864 (fun v => ∃ q, v = some (.ref q)) (c) [.int (iZ (0)), .int (ac), .int (re), .int (kn)]) (F0 m 40 ls []) := by
        intro j
        induction j with
        | zero => intro j0 b v n k ce sl x3 H locs ls hmu; exact absurd hmu (Nat.not_lt_zero _)
        | succ j ih40 =>
          intro j0 b v n k ce sl x3 H locs ls hmu i40_0 i40_1 i40_2 i40_3 i40_4 i40_5 B hl
          obtain ⟨B, Bt⟩ := B
          refine lv_iload_n C.1 C.2.1 dX5_text_40 rfl (lv_at hl 3 rfl) ?_
          refine z_if_lt (tgt := 86) C (by omega) dX5_text_41 (by decide) (fun h41 => ?_) (fun h41 => ?_)
          · refine lv_aload_n C.1 C.2.1 dX5_text_86 rfl (lv_at hl 2 rfl) ?_
            have hn9 := Bt.2.2
            refine zt_str C Bt V hA (c_J4_toString_0e30d l D cB (n) (k) (by omega)) ml_X5_128 ⟨Nat.le_of_ble_eq_true rfl, Nat.le_of_ble_eq_true rfl⟩ ⟨by show ce + 2 ≤ 72; omega, by show sl + 524 ≤ 34864; omega⟩ hl (Nat.le_of_ble_eq_true rfl) dX5_text_87 (fun q H locs S hq => ?_)
            have B : zIn D 4 cJ o a c [.int (iZ (0)), .int ((ac)), .int ((re)), .int ((kn))] s H locs := ⟨B.1.kept (hq o B.1.lt.1 (by omega)) (hq a B.1.lt.2 (by omega)), S⟩
            exact zo_aret C B hr hk (by omega) (by omega) dX5_text_90 ⟨_, rfl⟩ rfl rfl
          · refine lv_aload_n C.1 C.2.1 dX5_text_44 rfl (lv_at hl 0 rfl) ?_
            refine zo_get C B (Cn := RX5) (T := TX5) (N := 5) (v := .ref a) rfl inX5 0 (by decide) fl_X5_7 rfl rfl dX5_text_45 ?_
            refine lv_iload_n C.1 C.2.1 dX5_text_48 rfl (lv_at hl 1 rfl) ?_
            refine zo_lald C B ((z).toNat) (by omega) (by omega) dX5_text_49 ?_
            have q49 := B.1.2.2.2 ((z).toNat)
            refine lv_iload_n C.1 C.2.1 dX5_text_50 rfl (lv_at hl 3 rfl) ?_
            refine z_call C (c_X5_has l (c ((z).toNat)) (x3) (by first | assumption | omega | rfl | exact decide_eq_false (by omega) | exact decide_eq_true (by assumption) | exact decide_eq_true (by omega) | exact one_shl33 (by omega) | exact pm_lt _ _ | exact rm_lt (by first | assumption | exact pm_lt _ _) | exact Nat.lt_of_le_of_lt (Nat.shiftRight_le _ _) (by assumption) | exact Nat.lt_of_le_of_lt Nat.and_le_right (by omega)) (by first | assumption | omega | rfl | exact decide_eq_false (by omega) | exact decide_eq_true (by assumption) | exact decide_eq_true (by omega) | exact one_shl33 (by omega) | exact pm_lt _ _ | exact rm_lt (by first | assumption | exact pm_lt _ _) | exact Nat.lt_of_le_of_lt (Nat.shiftRight_le _ _) (by assumption) | exact Nat.lt_of_le_of_lt Nat.and_le_right (by omega))) ml_X5_25 ⟨by decide, by decide⟩ ⟨by show ce + 0 ≤ 72; omega, by show sl + 0 ≤ 34864; omega⟩ hl (Nat.le_of_ble_eq_true rfl) rfl dX5_text_51 ?_
            refine z_ifB_ne (tgt := 60) C dX5_text_54 (by decide) (fun h54 => ?_) (fun h54 => ?_)
            · refine lv_aload_n C.1 C.2.1 dX5_text_60 rfl (lv_at hl 2 rfl) ?_
              have hn9 := Bt.2.2
              refine zt_call C Bt V hA (c_J4_length_8abf5 l D cB  (n) (k) ) ml_X5_118 (C.2.2.2.2 _ (T0_of zi_J4_length_8abf5.2.1 rfl)) ⟨Nat.le_of_ble_eq_true rfl, Nat.le_of_ble_eq_true rfl⟩ ⟨by show ce + 0 ≤ 72; omega, by show sl + 0 ≤ 34864; omega⟩ hl (Nat.le_of_ble_eq_true rfl) rfl dX5_text_61 (fun v61 k61 H locs hp61 Bt hq => ?_)
              have B : zIn D 4 cJ o a c [.int (iZ (0)), .int ((ac)), .int ((re)), .int ((kn))] s H locs := ⟨B.1.kept (hq o B.1.lt.1 (by omega)) (hq a B.1.lt.2 (by omega)), Bt.2.1⟩
              obtain ⟨rfl, rfl⟩ := hp61
              refine z_if_le (tgt := 74) C (by omega) dX5_text_64 (by decide) (fun h64 => ?_) (fun h64 => ?_)
              · refine lv_aload_n C.1 C.2.1 dX5_text_74 rfl (lv_at hl 2 rfl) ?_
                refine lv_iload_n C.1 C.2.1 dX5_text_75 rfl (lv_at hl 3 rfl) ?_
                have hn9 := Bt.2.2
                refine zt_call C Bt V hA (c_J4_append_bf812 l D cB (x3) ((n)) (k) (by first | assumption | omega | rfl | exact decide_eq_false (by omega) | exact decide_eq_true (by assumption) | exact decide_eq_true (by omega) | exact one_shl33 (by omega) | exact pm_lt _ _ | exact rm_lt (by first | assumption | exact pm_lt _ _) | exact Nat.lt_of_le_of_lt (Nat.shiftRight_le _ _) (by assumption) | exact Nat.lt_of_le_of_lt Nat.and_le_right (by omega)) (by first | assumption | omega | rfl | exact decide_eq_false (by omega) | exact decide_eq_true (by assumption) | exact decide_eq_true (by omega) | exact one_shl33 (by omega) | exact pm_lt _ _ | exact rm_lt (by first | assumption | exact pm_lt _ _) | exact Nat.lt_of_le_of_lt (Nat.shiftRight_le _ _) (by assumption) | exact Nat.lt_of_le_of_lt Nat.and_le_right (by omega)) (by first | assumption | omega | rfl | exact decide_eq_false (by omega) | exact decide_eq_true (by assumption) | exact decide_eq_true (by omega) | exact one_shl33 (by omega) | exact pm_lt _ _ | exact rm_lt (by first | assumption | exact pm_lt _ _) | exact Nat.lt_of_le_of_lt (Nat.shiftRight_le _ _) (by assumption) | exact Nat.lt_of_le_of_lt Nat.and_le_right (by omega))) ml_X5_125 (C.2.2.2.2 _ (T0_of zi_J4_append_bf812.2.1 rfl)) ⟨Nat.le_of_ble_eq_true rfl, Nat.le_of_ble_eq_true rfl⟩ ⟨by show (ce + 0) + 1 ≤ 72; omega, by show (sl + 0) + 520 ≤ 34864; omega⟩ hl (Nat.le_of_ble_eq_true rfl) rfl dX5_text_76 (fun v76 k76 H locs hp76 Bt hq => ?_)
                have B : zIn D 4 cJ o a c [.int (iZ (0)), .int ((ac)), .int ((re)), .int ((kn))] s H locs := ⟨B.1.kept (hq o B.1.lt.1 (by omega)) (hq a B.1.lt.2 (by omega)), Bt.2.1⟩
                have hp76 : ((n)) + (ssz (x3)).toNat ≤ (k76) ∧ (k76) ≤ 2 * (((n)) + (ssz (x3)).toNat) + 16 := hp76
                have q76_0 := ssz_rng (x3)
                refine lv_pop C.1 C.2.1 dX5_text_79 rfl ?_
                refine z_iinc (j := 3) (lv' := [(3, .int (iZ (x3 + (-1)))), (0, .ref o), (1, .int (iZ (z))), (2, .ref b)]) C dX5_text_80 hl rfl (by decide) rfl (fun ls hl => ?_)
                refine lv_goto (tgt := 40) C.1 C.2.1 dX5_text_83 (by decide) ?_
                obtain ⟨j1, rfl⟩ : ∃ g, j0 = g + 1 := ⟨j0 - 1, by omega⟩
                exact ih40 (j1) (b) (v76) (((n)) + (ssz (x3)).toNat) (k76) (((ce + 0) + 1)) (((sl + 0) + 520)) _ _ _ _ (by omega) (by omega) (by omega) (by omega) (by omega) (by omega) (by omega) ⟨B, Bt⟩ (lv_sub hl [1, 2, 3, 0] rfl)
              · refine lv_aload_n C.1 C.2.1 dX5_text_67 rfl (lv_at hl 2 rfl) ?_
                refine z_bipush C dX5_text_68 (by decide) ?_
                have hn9 := Bt.2.2
                refine zt_call C Bt V hA (c_J4_append_cf468 l D cB (32 : Int) ((n)) (k) (by first | assumption | omega | rfl | exact decide_eq_false (by omega) | exact decide_eq_true (by assumption) | exact decide_eq_true (by omega) | exact one_shl33 (by omega) | exact pm_lt _ _ | exact rm_lt (by first | assumption | exact pm_lt _ _) | exact Nat.lt_of_le_of_lt (Nat.shiftRight_le _ _) (by assumption) | exact Nat.lt_of_le_of_lt Nat.and_le_right (by omega)) (by first | assumption | omega | rfl | exact decide_eq_false (by omega) | exact decide_eq_true (by assumption) | exact decide_eq_true (by omega) | exact one_shl33 (by omega) | exact pm_lt _ _ | exact rm_lt (by first | assumption | exact pm_lt _ _) | exact Nat.lt_of_le_of_lt (Nat.shiftRight_le _ _) (by assumption) | exact Nat.lt_of_le_of_lt Nat.and_le_right (by omega)) (by first | assumption | omega | rfl | exact decide_eq_false (by omega) | exact decide_eq_true (by assumption) | exact decide_eq_true (by omega) | exact one_shl33 (by omega) | exact pm_lt _ _ | exact rm_lt (by first | assumption | exact pm_lt _ _) | exact Nat.lt_of_le_of_lt (Nat.shiftRight_le _ _) (by assumption) | exact Nat.lt_of_le_of_lt Nat.and_le_right (by omega))) ml_X5_121 (C.2.2.2.2 _ (T0_of zi_J4_append_cf468.2.1 rfl)) ⟨Nat.le_of_ble_eq_true rfl, Nat.le_of_ble_eq_true rfl⟩ ⟨by show (ce + 0) + 1 ≤ 72; omega, by show (sl + 0) + 520 ≤ 34864; omega⟩ hl (Nat.le_of_ble_eq_true rfl) rfl dX5_text_70 (fun v70 k70 H locs hp70 Bt hq => ?_)
                have B : zIn D 4 cJ o a c [.int (iZ (0)), .int ((ac)), .int ((re)), .int ((kn))] s H locs := ⟨B.1.kept (hq o B.1.lt.1 (by omega)) (hq a B.1.lt.2 (by omega)), Bt.2.1⟩
                have hp70 : ((n)) + 1 ≤ (k70) ∧ (k70) ≤ 2 * (((n)) + 1) + 16 := hp70
                refine lv_pop C.1 C.2.1 dX5_text_73 rfl ?_
                refine lv_aload_n C.1 C.2.1 dX5_text_74 rfl (lv_at hl 2 rfl) ?_
                refine lv_iload_n C.1 C.2.1 dX5_text_75 rfl (lv_at hl 3 rfl) ?_
                have hn9 := Bt.2.2
                refine zt_call C Bt V hA (c_J4_append_bf812 l D cB (x3) (((n)) + 1) (k70) (by first | assumption | omega | rfl | exact decide_eq_false (by omega) | exact decide_eq_true (by assumption) | exact decide_eq_true (by omega) | exact one_shl33 (by omega) | exact pm_lt _ _ | exact rm_lt (by first | assumption | exact pm_lt _ _) | exact Nat.lt_of_le_of_lt (Nat.shiftRight_le _ _) (by assumption) | exact Nat.lt_of_le_of_lt Nat.and_le_right (by omega)) (by first | assumption | omega | rfl | exact decide_eq_false (by omega) | exact decide_eq_true (by assumption) | exact decide_eq_true (by omega) | exact one_shl33 (by omega) | exact pm_lt _ _ | exact rm_lt (by first | assumption | exact pm_lt _ _) | exact Nat.lt_of_le_of_lt (Nat.shiftRight_le _ _) (by assumption) | exact Nat.lt_of_le_of_lt Nat.and_le_right (by omega)) (by first | assumption | omega | rfl | exact decide_eq_false (by omega) | exact decide_eq_true (by assumption) | exact decide_eq_true (by omega) | exact one_shl33 (by omega) | exact pm_lt _ _ | exact rm_lt (by first | assumption | exact pm_lt _ _) | exact Nat.lt_of_le_of_lt (Nat.shiftRight_le _ _) (by assumption) | exact Nat.lt_of_le_of_lt Nat.and_le_right (by omega))) ml_X5_125 (C.2.2.2.2 _ (T0_of zi_J4_append_bf812.2.1 rfl)) ⟨Nat.le_of_ble_eq_true rfl, Nat.le_of_ble_eq_true rfl⟩ ⟨by show ((ce + 0) + 1) + 1 ≤ 72; omega, by show ((sl + 0) + 520) + 520 ≤ 34864; omega⟩ hl (Nat.le_of_ble_eq_true rfl) rfl dX5_text_76 (fun v76 k76 H locs hp76 Bt hq => ?_)
                have B : zIn D 4 cJ o a c [.int (iZ (0)), .int ((ac)), .int ((re)), .int ((kn))] s H locs := ⟨B.1.kept (hq o B.1.lt.1 (by omega)) (hq a B.1.lt.2 (by omega)), Bt.2.1⟩
                have hp76 : (((n)) + 1) + (ssz (x3)).toNat ≤ (k76) ∧ (k76) ≤ 2 * ((((n)) + 1) + (ssz (x3)).toNat) + 16 := hp76
                have q76_0 := ssz_rng (x3)
                refine lv_pop C.1 C.2.1 dX5_text_79 rfl ?_
                refine z_iinc (j := 3) (lv' := [(3, .int (iZ (x3 + (-1)))), (0, .ref o), (1, .int (iZ (z))), (2, .ref b)]) C dX5_text_80 hl rfl (by decide) rfl (fun ls hl => ?_)
                refine lv_goto (tgt := 40) C.1 C.2.1 dX5_text_83 (by decide) ?_
                obtain ⟨j1, rfl⟩ : ∃ g, j0 = g + 1 := ⟨j0 - 1, by omega⟩
                exact ih40 (j1) (b) (v76) ((((n)) + 1) + (ssz (x3)).toNat) (k76) ((((ce + 0) + 1) + 1)) ((((sl + 0) + 520) + 520)) _ _ _ _ (by omega) (by omega) (by omega) (by omega) (by omega) (by omega) (by omega) ⟨B, Bt⟩ (lv_sub hl [1, 2, 3, 0] rfl)
            · refine lv_goto (tgt := 80) C.1 C.2.1 dX5_text_57 (by decide) ?_
              refine z_iinc (j := 3) (lv' := [(3, .int (iZ (x3 + (-1)))), (0, .ref o), (1, .int (iZ (z))), (2, .ref b)]) C dX5_text_80 hl rfl (by decide) rfl (fun ls hl => ?_)
              refine lv_goto (tgt := 40) C.1 C.2.1 dX5_text_83 (by decide) ?_
              obtain ⟨j1, rfl⟩ : ∃ g, j0 = g + 1 := ⟨j0 - 1, by omega⟩
              exact ih40 (j1) (b) (v) (n) (k) (ce) (sl) _ _ _ _ (by omega) (by omega) (by omega) (by omega) (by omega) (by omega) (by omega) ⟨B, Bt⟩ (lv_sub hl [1, 2, 3, 0] rfl)
      exact L40 _ (33) (b) (v) (0) (16) (((0 + 0) + 2)) (((0 + 0) + 20)) _ _ _ _ (by exact Nat.lt_succ_self _) (by omega) (by omega) (by omega) (by omega) (by omega) (by omega) ⟨B, Bt⟩ (lv_sub hl [2, 3, 1, 0] rfl)
    · refine zt_ldc C V.t.2.2.2.2.1 dX5_text_26 (fun q => ?_)
      exact zo_aret C B hr hk (Nat.le_of_ble_eq_true rfl) (Nat.le_of_ble_eq_true rfl) dX5_text_28 ⟨_, rfl⟩ rfl rfl
  · exact absurd h9 (by decide)

set_option maxHeartbeats 4000000 in
set_option maxRecDepth 100000 in
theorem c_X5_code (l : Launch) (D : va_G) (cB cJ : ClassId) (o a : Nat) (c : Nat → Nat) (th : Int) (ac : Int32) (re : Int32) (kn : Int32) (z : Int) (r : Int) (hz : 0 ≤ z ∧ z ≤ 5) (hr0 : 2 ≤ r ∧ r ≤ 36) : zAV l yX5_code 6 190 40 18500 D cB 4 cJ o a [.int (iZ (z)), .int (iZ (r))] c [.int (iZ (th)), .int (ac), .int (re), .int (kn)] (fun v => ∃ q, v = some (.ref q)) (c) [.int (iZ (0)), .int (ac), .int (re), .int (kn)] := by
  refine zAV.intro (lo := 165) (nA := 2) (own := RX5) zi_X5_code (by decide) rfl rfl (by decide +kernel) rfl (Nat.le_of_ble_eq_true rfl) ?_
  intro p e s m below meth c0 ls C hr hk B K V hl
  have hl : lv_has ls 6 [(0, .ref o), (1, .int (iZ (z))), (2, .int (iZ (r)))] := hl
  have ho9 := B.1.lt
  have hA : ∀ q, s.heap.size ≤ q → zF o a s.heap.size q := fun _ h => Or.inr (Or.inr h)
  refine lv_aload_n C.1 C.2.1 dX5_code_0 rfl (lv_at hl 0 rfl) ?_
  refine lv_iload_n C.1 C.2.1 dX5_code_1 rfl (lv_at hl 1 rfl) ?_
  refine z_call C (c_X5_isNo l (z) (by first | assumption | omega | rfl | exact decide_eq_false (by omega) | exact decide_eq_true (by assumption) | exact decide_eq_true (by omega) | exact one_shl33 (by omega) | exact pm_lt _ _ | exact rm_lt (by first | assumption | exact pm_lt _ _) | exact Nat.lt_of_le_of_lt (Nat.shiftRight_le _ _) (by assumption) | exact Nat.lt_of_le_of_lt Nat.and_le_right (by omega))) ml_X5_67 ⟨by decide, by decide⟩ ⟨Nat.le_of_ble_eq_true rfl, Nat.le_of_ble_eq_true rfl⟩ hl (Nat.le_of_ble_eq_true rfl) rfl dX5_code_2 ?_
  refine z_iconst C dX5_code_5 ?_
  refine zo_callD C B (r := some (.int (iZ (zB (false))))) (c_X5_start_ok l D cJ o a (c) (th) (ac) (re) (kn) (decide (¬ (0 ≤ (z) ∧ (z) ≤ 5))) (1 : Int) (by first | assumption | omega | rfl | exact decide_eq_false (by omega) | exact decide_eq_true (by assumption) | exact decide_eq_true (by omega) | exact one_shl33 (by omega) | exact pm_lt _ _ | exact rm_lt (by first | assumption | exact pm_lt _ _) | exact Nat.lt_of_le_of_lt (Nat.shiftRight_le _ _) (by assumption) | exact Nat.lt_of_le_of_lt Nat.and_le_right (by omega))) ml_X5_71 rfl ⟨Nat.le_of_ble_eq_true rfl, Nat.le_of_ble_eq_true rfl⟩ ⟨Nat.le_of_ble_eq_true rfl, Nat.le_of_ble_eq_true rfl⟩ hl (Nat.le_of_ble_eq_true rfl) rfl dX5_code_6 (fun H locs B => ?_)
  refine z_ifB_ne (tgt := 35) C dX5_code_9 (by decide) (fun h9 => ?_) (fun h9 => ?_)
  · exact absurd h9 (by decide)
  · refine lv_aload_n C.1 C.2.1 dX5_code_12 rfl (lv_at hl 0 rfl) ?_
    refine lv_iload_n C.1 C.2.1 dX5_code_13 rfl (lv_at hl 2 rfl) ?_
    refine z_iconst C dX5_code_14 ?_
    refine z_bipush C dX5_code_15 (by decide) ?_
    refine z_call C (c_X5_isIn l (r) (2 : Int) (36 : Int) (by first | assumption | omega | rfl | exact decide_eq_false (by omega) | exact decide_eq_true (by assumption) | exact decide_eq_true (by omega) | exact one_shl33 (by omega) | exact pm_lt _ _ | exact rm_lt (by first | assumption | exact pm_lt _ _) | exact Nat.lt_of_le_of_lt (Nat.shiftRight_le _ _) (by assumption) | exact Nat.lt_of_le_of_lt Nat.and_le_right (by omega)) (by first | assumption | omega | rfl | exact decide_eq_false (by omega) | exact decide_eq_true (by assumption) | exact decide_eq_true (by omega) | exact one_shl33 (by omega) | exact pm_lt _ _ | exact rm_lt (by first | assumption | exact pm_lt _ _) | exact Nat.lt_of_le_of_lt (Nat.shiftRight_le _ _) (by assumption) | exact Nat.lt_of_le_of_lt Nat.and_le_right (by omega)) (by first | assumption | omega | rfl | exact decide_eq_false (by omega) | exact decide_eq_true (by assumption) | exact decide_eq_true (by omega) | exact one_shl33 (by omega) | exact pm_lt _ _ | exact rm_lt (by first | assumption | exact pm_lt _ _) | exact Nat.lt_of_le_of_lt (Nat.shiftRight_le _ _) (by assumption) | exact Nat.lt_of_le_of_lt Nat.and_le_right (by omega))) ml_X5_21 ⟨by decide, by decide⟩ ⟨Nat.le_of_ble_eq_true rfl, Nat.le_of_ble_eq_true rfl⟩ hl (Nat.le_of_ble_eq_true rfl) rfl dX5_code_17 ?_
    refine z_ifB_ne (tgt := 27) C dX5_code_20 (by decide) (fun h20 => ?_) (fun h20 => ?_)
    · refine z_iconst C dX5_code_27 ?_
      refine z_iconst C dX5_code_28 ?_
      refine zo_callD C B (r := some (.int (iZ (zB (false))))) (c_X5_refuse_ok l D cJ o a (c) (0) ((ac)) ((re)) ((kn)) (false) (2 : Int) (by first | assumption | omega | rfl | exact decide_eq_false (by omega) | exact decide_eq_true (by assumption) | exact decide_eq_true (by omega) | exact one_shl33 (by omega) | exact pm_lt _ _ | exact rm_lt (by first | assumption | exact pm_lt _ _) | exact Nat.lt_of_le_of_lt (Nat.shiftRight_le _ _) (by assumption) | exact Nat.lt_of_le_of_lt Nat.and_le_right (by omega)) (by first | assumption | omega | rfl | exact decide_eq_false (by omega) | exact decide_eq_true (by assumption) | exact decide_eq_true (by omega) | exact one_shl33 (by omega) | exact pm_lt _ _ | exact rm_lt (by first | assumption | exact pm_lt _ _) | exact Nat.lt_of_le_of_lt (Nat.shiftRight_le _ _) (by assumption) | exact Nat.lt_of_le_of_lt Nat.and_le_right (by omega))) ml_X5_17 rfl ⟨Nat.le_of_ble_eq_true rfl, Nat.le_of_ble_eq_true rfl⟩ ⟨Nat.le_of_ble_eq_true rfl, Nat.le_of_ble_eq_true rfl⟩ hl (Nat.le_of_ble_eq_true rfl) rfl dX5_code_29 (fun H locs B => ?_)
      refine z_ifB_eq (tgt := 38) C dX5_code_32 (by decide) (fun h32 => ?_) (fun h32 => ?_)
      · obtain ⟨qS, tS, gS, w1, w2, w3, w4, w5⟩ := V.2.2.2.2.2.1
        have g0 := B.1.2.2.2 z.toNat
        refine z_lconst (k0 := 1) C dX5_code_38 rfl ?_
        refine lv_lstore_n (lv' := [(3, .long (lN (1))), (0, .ref o), (1, .int (iZ (z))), (2, .int (iZ (r)))]) C.1 C.2.1 dX5_code_39 rfl hl (by decide) rfl (fun ls hl => ?_)
        have L40 : ∀ (j : Nat)  (x3 : Nat) (ls : Array Slot), 8589934592 - x3 < j → (1 ≤ x3) → (x3 < 8589934592) → lv_has ls 6 [(0, .ref o), (1, .int (iZ (z))), (2, .int (iZ (r))), (3, .long (lN (x3)))] → W p l e { frames := 6, cells := 40, slots := 18500, locals := 165 } s m (Value.ref o :: ([.int (iZ (z)), .int (iZ (r))] : List Value)).toArray below meth c0 H locs ((0 + 0) + 0) ((0 + 0) + 0) (zE1 below D 4 cJ o a (Value.ref o :: ([.int (iZ (z)), .int (iZ (r))] : List Value)).toArray s 40 18500 (fun v => ∃ q, v = some (.ref q)) (c) [.int (iZ (0)), .int (ac), .int (re), .int (kn)]) (F0 m 40 ls []) := by
          intro j
          induction j with
          | zero => intro x3 ls hmu; exact absurd hmu (Nat.not_lt_zero _)
          | succ j ih40 =>
            intro x3 ls hmu i40_0 i40_1 hl
            refine lv_aload_n C.1 C.2.1 dX5_code_40 rfl (lv_at hl 0 rfl) ?_
            refine zo_get C B (Cn := RX5) (T := TX5) (N := 5) (v := .ref a) rfl inX5 0 (by decide) fl_X5_7 rfl rfl dX5_code_41 ?_
            refine lv_iload_n C.1 C.2.1 dX5_code_44 rfl (lv_at hl 1 rfl) ?_
            refine zo_lald C B ((z).toNat) (by omega) (by omega) dX5_code_45 ?_
            have q45 := B.1.2.2.2 ((z).toNat)
            refine lv_lload_n C.1 C.2.1 dX5_code_46 rfl (lv_at hl 3 rfl) ?_
            refine z_ldiv C (by omega) (by omega) dX5_code_47 ?_
            refine lv_iload_n C.1 C.2.1 dX5_code_48 rfl (lv_at hl 2 rfl) ?_
            refine z_i2l C ((r).toNat) (by omega) (by omega) dX5_code_49 ?_
            refine z_lc_lt (tgt := 62) C (by exact Nat.lt_of_le_of_lt (Nat.div_le_self _ _) (by omega)) (by omega) dX5_code_50 dX5_code_51 (by decide) (fun h50 => ?_) (fun h50 => ?_)
            · refine zt_new C K V B.2 hA cl_X5_115 ml_X5_117 ⟨Nat.le_of_ble_eq_true rfl, Nat.le_of_ble_eq_true rfl⟩ ⟨Nat.le_of_ble_eq_true rfl, Nat.le_of_ble_eq_true rfl⟩ hl (Nat.le_of_ble_eq_true rfl) dX5_code_62 dX5_code_65 dX5_code_66 (fun b v H locs Bt hq => ?_)
              have B : zIn D 4 cJ o a c [.int (iZ ((0))), .int (((ac))), .int (((re))), .int (((kn)))] s H locs := ⟨B.1.kept (hq o B.1.lt.1) (hq a B.1.lt.2), Bt.2.1⟩
              refine lv_astore (lv' := [(5, .ref b), (0, .ref o), (1, .int (iZ (z))), (2, .int (iZ (r))), (3, .long (lN (x3)))]) C.1 C.2.1 dX5_code_69 hl (by decide) rfl (fun ls hl => ?_)
              have L71 : ∀ (j : Nat) (b : Nat) (v : Nat) (n : Nat) (k : Nat) (ce : Nat) (sl : Nat) (x3 : Nat) (H : Heap) (locs : List Loc) (ls : Array Slot), 34 - n < j → (x3 < 8589934592) → ((n : Int) + tp x3 ≤ 33) → (n ≤ 34) → (n ≤ k ∧ k ≤ 2 * n + 16) → (ce = 2 + n) → (sl = 20 + 520 * n) → (zIn D 4 cJ o a c [.int (iZ (0)), .int (ac), .int (re), .int (kn)] s H locs ∧ zTn (zF o a s.heap.size) D cB b v n k s H locs) → lv_has ls 6 [(0, .ref o), (1, .int (iZ (z))), (2, .int (iZ (r))), (3, .long (lN (x3))), (5, .ref b)] → W p l e { frames := 6, cells := 40, slots := 18500, locals := 165 } s m (Value.ref o :: ([.int (iZ (z)), .int (iZ (r))] : List Value)).toArray below meth c0 H locs ce sl (zE1 below D 4 cJ o a (Value.ref o :: ([.int (iZ (z)), .int (iZ (r))] : List Value)).toArray s 40 18500 (fun v => ∃ q, v = some (.ref q)) (c) [.int (iZ (0)), .int (ac), .int (re), .int (kn)]) (F0 m 71 ls []) := by
                intro j
                induction j with
                | zero => intro b v n k ce sl x3 H locs ls hmu; exact absurd hmu (Nat.not_lt_zero _)
                | succ j ih71 =>
                  intro b v n k ce sl x3 H locs ls hmu i71_0 i71_1 i71_2 i71_3 i71_4 i71_5 B hl
                  obtain ⟨B, Bt⟩ := B
                  have ht9 := tp_ge x3
                  refine lv_lload_n C.1 C.2.1 dX5_code_71 rfl (lv_at hl 3 rfl) ?_
                  refine z_lconst (k0 := 0) C dX5_code_72 rfl ?_
                  refine z_lc_le (tgt := 108) C (by first | assumption | omega | rfl | exact decide_eq_false (by omega) | exact decide_eq_true (by assumption) | exact decide_eq_true (by omega) | exact one_shl33 (by omega) | exact pm_lt _ _ | exact rm_lt (by first | assumption | exact pm_lt _ _) | exact Nat.lt_of_le_of_lt (Nat.shiftRight_le _ _) (by assumption) | exact Nat.lt_of_le_of_lt Nat.and_le_right (by omega)) (by first | assumption | omega | rfl | exact decide_eq_false (by omega) | exact decide_eq_true (by assumption) | exact decide_eq_true (by omega) | exact one_shl33 (by omega) | exact pm_lt _ _ | exact rm_lt (by first | assumption | exact pm_lt _ _) | exact Nat.lt_of_le_of_lt (Nat.shiftRight_le _ _) (by assumption) | exact Nat.lt_of_le_of_lt Nat.and_le_right (by omega)) dX5_code_73 dX5_code_74 (by decide) (fun h73 => ?_) (fun h73 => ?_)
                  · refine lv_aload C.1 C.2.1 dX5_code_108 (lv_at hl 4 rfl) ?_
                    have hn9 := Bt.2.2
                    refine zt_str C Bt V hA (c_J4_toString_0e30d l D cB (n) (k) (by omega)) ml_X5_128 ⟨Nat.le_of_ble_eq_true rfl, Nat.le_of_ble_eq_true rfl⟩ ⟨by show ce + 2 ≤ 40; omega, by show sl + 524 ≤ 18500; omega⟩ hl (Nat.le_of_ble_eq_true rfl) dX5_code_110 (fun q H locs S hq => ?_)
                    have B : zIn D 4 cJ o a c [.int (iZ ((0))), .int (((ac))), .int (((re))), .int (((kn)))] s H locs := ⟨B.1.kept (hq o B.1.lt.1 (by omega)) (hq a B.1.lt.2 (by omega)), S⟩
                    exact zo_aret C B hr hk (by omega) (by omega) dX5_code_113 ⟨_, rfl⟩ rfl rfl
                  · refine lv_aload C.1 C.2.1 dX5_code_77 (lv_at hl 4 rfl) ?_
                    refine va_ldcS C.1 C.2.1 C.2.2.2.1 w1 dX5_code_79 ?_
                    refine lv_aload_n C.1 C.2.1 dX5_code_81 rfl (lv_at hl 0 rfl) ?_
                    refine zo_get C B (Cn := RX5) (T := TX5) (N := 5) (v := .ref a) rfl inX5 0 (by decide) fl_X5_7 rfl rfl dX5_code_82 ?_
                    refine lv_iload_n C.1 C.2.1 dX5_code_85 rfl (lv_at hl 1 rfl) ?_
                    refine zo_lald C B ((z).toNat) (by omega) (by omega) dX5_code_86 ?_
                    have q86 := B.1.2.2.2 ((z).toNat)
                    refine lv_lload_n C.1 C.2.1 dX5_code_87 rfl (lv_at hl 3 rfl) ?_
                    refine z_ldiv C (by omega) (by omega) dX5_code_88 ?_
                    refine lv_iload_n C.1 C.2.1 dX5_code_89 rfl (lv_at hl 2 rfl) ?_
                    refine z_i2l C ((r).toNat) (by omega) (by omega) dX5_code_90 ?_
                    refine z_lrem C (by exact Nat.lt_of_le_of_lt (Nat.div_le_self _ _) (by omega)) (by omega) dX5_code_91 ?_
                    have hm9 := Nat.mod_lt (c z.toNat / x3) (y := r.toNat) (by omega)
                    refine z_l2i C dX5_code_92 ?_
                    have GS : zGs qS s H := ⟨(V.kept B.2.2.1).nar (fun _ _ h => h.elim), tS, gS, va_O_nar (w2.kept B.2.2.1) (fun _ _ h => h.elim), va_OF_nar (w3.kept B.2.2.1) (fun _ _ h => h.elim), va_OF_nar (w4.kept B.2.2.1) (fun _ _ h => h.elim), va_T_nar (w5.kept B.2.2.1) (fun _ _ h => h.elim)⟩
                    refine zro_callV C (c_J0_charAt l qS (((((c ((z).toNat)) / (x3)) % ((r).toNat) : Nat) : Int)) (by omega)) zi_J0_charAt_5068e.1 zi_J0_charAt_5068e.2.1 (show _ = some 1 from by decide +kernel) (w2.kept B.2.2.1) GS ml_X5_134 ⟨Nat.le_of_ble_eq_true rfl, Nat.le_of_ble_eq_true rfl⟩ ⟨by show ce + 0 ≤ 40; omega, by show sl + 0 ≤ 18500; omega⟩ hl (Nat.le_of_ble_eq_true rfl) rfl dX5_code_93 (fun vc hvc => ?_)
                    obtain ⟨zc, rfl, hzc⟩ := hvc
                    have hn9 := Bt.2.2
                    refine zt_call C Bt V hA (c_J4_append_cf468 l D cB (zc) (n) (k) (by first | assumption | omega | rfl | exact decide_eq_false (by omega) | exact decide_eq_true (by assumption) | exact decide_eq_true (by omega) | exact one_shl33 (by omega) | exact pm_lt _ _ | exact rm_lt (by first | assumption | exact pm_lt _ _) | exact Nat.lt_of_le_of_lt (Nat.shiftRight_le _ _) (by assumption) | exact Nat.lt_of_le_of_lt Nat.and_le_right (by omega)) (by first | assumption | omega | rfl | exact decide_eq_false (by omega) | exact decide_eq_true (by assumption) | exact decide_eq_true (by omega) | exact one_shl33 (by omega) | exact pm_lt _ _ | exact rm_lt (by first | assumption | exact pm_lt _ _) | exact Nat.lt_of_le_of_lt (Nat.shiftRight_le _ _) (by assumption) | exact Nat.lt_of_le_of_lt Nat.and_le_right (by omega)) (by first | assumption | omega | rfl | exact decide_eq_false (by omega) | exact decide_eq_true (by assumption) | exact decide_eq_true (by omega) | exact one_shl33 (by omega) | exact pm_lt _ _ | exact rm_lt (by first | assumption | exact pm_lt _ _) | exact Nat.lt_of_le_of_lt (Nat.shiftRight_le _ _) (by assumption) | exact Nat.lt_of_le_of_lt Nat.and_le_right (by omega))) ml_X5_121 (C.2.2.2.2 _ (T0_of zi_J4_append_cf468.2.1 rfl)) ⟨Nat.le_of_ble_eq_true rfl, Nat.le_of_ble_eq_true rfl⟩ ⟨by show ce + 1 ≤ 40; omega, by show sl + 520 ≤ 18500; omega⟩ hl (Nat.le_of_ble_eq_true rfl) rfl dX5_code_96 (fun v96 k96 H locs hp96 Bt hq => ?_)
                    have B : zIn D 4 cJ o a c [.int (iZ ((0))), .int (((ac))), .int (((re))), .int (((kn)))] s H locs := ⟨B.1.kept (hq o B.1.lt.1 (by omega)) (hq a B.1.lt.2 (by omega)), Bt.2.1⟩
                    have hp96 : (n) + 1 ≤ (k96) ∧ (k96) ≤ 2 * ((n) + 1) + 16 := hp96
                    refine lv_pop C.1 C.2.1 dX5_code_99 rfl ?_
                    refine lv_lload_n C.1 C.2.1 dX5_code_100 rfl (lv_at hl 3 rfl) ?_
                    refine lv_iload_n C.1 C.2.1 dX5_code_101 rfl (lv_at hl 2 rfl) ?_
                    refine z_i2l C ((r).toNat) (by omega) (by omega) dX5_code_102 ?_
                    refine z_ldiv C (by omega) (by omega) dX5_code_103 ?_
                    refine lv_lstore_n (lv' := [(3, .long (lN ((x3) / ((r).toNat)))), (0, .ref o), (1, .int (iZ (z))), (2, .int (iZ (r))), (5, .ref b)]) C.1 C.2.1 dX5_code_104 rfl hl (by decide) rfl (fun ls hl => ?_)
                    refine lv_goto (tgt := 71) C.1 C.2.1 dX5_code_105 (by decide) ?_
                    have hd9 := tp_div (x := x3) (r := r.toNat) (by omega) (by omega)
                    have hd8 := tp_ge (x3 / r.toNat)
                    exact ih71 (b) (v96) ((n) + 1) (k96) ((ce + 1)) ((sl + 520)) _ _ _ _ (by omega) (by exact Nat.lt_of_le_of_lt (Nat.div_le_self _ _) (by omega)) (by omega) (by omega) (by omega) (by omega) (by omega) ⟨B, Bt⟩ (lv_sub hl [1, 2, 3, 0, 4] rfl)
              have ht9 := tp33.mp i40_1
              exact L71 _ (b) (v) (0) (16) ((((0 + 0) + 0) + 2)) ((((0 + 0) + 0) + 20)) _ _ _ _ (by exact Nat.lt_succ_self _) (by omega) (by omega) (by omega) (by omega) (by omega) (by omega) ⟨B, Bt⟩ (lv_sub hl [1, 2, 3, 4, 0] rfl)
            · refine lv_lload_n C.1 C.2.1 dX5_code_54 rfl (lv_at hl 3 rfl) ?_
              refine lv_iload_n C.1 C.2.1 dX5_code_55 rfl (lv_at hl 2 rfl) ?_
              refine z_i2l C ((r).toNat) (by omega) (by omega) dX5_code_56 ?_
              refine z_lmul C dX5_code_57 ?_
              refine lv_lstore_n (lv' := [(3, .long (lN ((x3) * ((r).toNat)))), (0, .ref o), (1, .int (iZ (z))), (2, .int (iZ (r)))]) C.1 C.2.1 dX5_code_58 rfl hl (by decide) rfl (fun ls hl => ?_)
              refine lv_goto (tgt := 40) C.1 C.2.1 dX5_code_59 (by decide) ?_
              have h8 : x3 * r.toNat ≤ c z.toNat := by have g1 := (Nat.le_div_iff_mul_le (x := r.toNat) (y := c z.toNat) (k := x3) (by omega)).mp (by omega); rw [Nat.mul_comm]; exact g1
              have h7 : x3 * 2 ≤ x3 * r.toNat := Nat.mul_le_mul_left _ (by omega)
              exact ih40  _ _ (by omega) (by omega) (by omega) (lv_sub hl [1, 2, 3, 0] rfl)
        exact L40 _  _ _ (by exact Nat.lt_succ_self _) (by omega) (by omega) (lv_sub hl [1, 2, 3, 0] rfl)
      · exact absurd h32 (by decide)
    · exact absurd (of_decide_eq_false h20) (by omega)

set_option maxHeartbeats 4000000 in
set_option maxRecDepth 100000 in
theorem c_X5_factors_no (l : Launch) (D : va_G) (cB cJ : ClassId) (o a : Nat) (c : Nat → Nat) (th : Int) (ac : Int32) (re : Int32) (kn : Int32) (z : Int) (hz : 0 ≤ z ∧ z ≤ 5) (hg : ¬ (0 ≤ tp (c z.toNat) ∧ tp (c z.toNat) ≤ 8)) : zAV l yX5_factors 2 69 0 0 D cB 4 cJ o a [.int (iZ (z))] c [.int (iZ (th)), .int (ac), .int (re), .int (kn)] (fun v => ∃ q, v = some (.ref q)) (c) [.int (iZ (0)), .int (ac), .int (re + iZ (1)), .int (kn)] := by
  refine zAV.intro (lo := 44) (nA := 1) (own := RX5) zi_X5_factors (by decide) rfl rfl (by decide +kernel) rfl (Nat.le_of_ble_eq_true rfl) ?_
  intro p e s m below meth c0 ls C hr hk B K V hl
  have hl : lv_has ls 6 [(0, .ref o), (1, .int (iZ (z)))] := hl
  have ho9 := B.1.lt
  have hA : ∀ q, s.heap.size ≤ q → zF o a s.heap.size q := fun _ h => Or.inr (Or.inr h)
  refine lv_aload_n C.1 C.2.1 dX5_factors_0 rfl (lv_at hl 0 rfl) ?_
  refine lv_iload_n C.1 C.2.1 dX5_factors_1 rfl (lv_at hl 1 rfl) ?_
  refine z_call C (c_X5_isNo l (z) (by first | assumption | omega | rfl | exact decide_eq_false (by omega) | exact decide_eq_true (by assumption) | exact decide_eq_true (by omega) | exact one_shl33 (by omega) | exact pm_lt _ _ | exact rm_lt (by first | assumption | exact pm_lt _ _) | exact Nat.lt_of_le_of_lt (Nat.shiftRight_le _ _) (by assumption) | exact Nat.lt_of_le_of_lt Nat.and_le_right (by omega))) ml_X5_67 ⟨by decide, by decide⟩ ⟨Nat.le_of_ble_eq_true rfl, Nat.le_of_ble_eq_true rfl⟩ hl (Nat.le_of_ble_eq_true rfl) rfl dX5_factors_2 ?_
  refine z_iconst C dX5_factors_5 ?_
  refine zo_callD C B (r := some (.int (iZ (zB (false))))) (c_X5_start_ok l D cJ o a (c) (th) (ac) (re) (kn) (decide (¬ (0 ≤ (z) ∧ (z) ≤ 5))) (1 : Int) (by first | assumption | omega | rfl | exact decide_eq_false (by omega) | exact decide_eq_true (by assumption) | exact decide_eq_true (by omega) | exact one_shl33 (by omega) | exact pm_lt _ _ | exact rm_lt (by first | assumption | exact pm_lt _ _) | exact Nat.lt_of_le_of_lt (Nat.shiftRight_le _ _) (by assumption) | exact Nat.lt_of_le_of_lt Nat.and_le_right (by omega))) ml_X5_71 rfl ⟨Nat.le_of_ble_eq_true rfl, Nat.le_of_ble_eq_true rfl⟩ ⟨Nat.le_of_ble_eq_true rfl, Nat.le_of_ble_eq_true rfl⟩ hl (Nat.le_of_ble_eq_true rfl) rfl dX5_factors_6 (fun H locs B => ?_)
  refine z_ifB_eq (tgt := 15) C dX5_factors_9 (by decide) (fun h9 => ?_) (fun h9 => ?_)
  · refine lv_aload_n C.1 C.2.1 dX5_factors_15 rfl (lv_at hl 0 rfl) ?_
    refine zo_get C B (Cn := RX5) (T := TX5) (N := 5) (v := .ref a) rfl inX5 0 (by decide) fl_X5_7 rfl rfl dX5_factors_16 ?_
    refine lv_iload_n C.1 C.2.1 dX5_factors_19 rfl (lv_at hl 1 rfl) ?_
    refine zo_lald C B ((z).toNat) (by omega) (by omega) dX5_factors_20 ?_
    have q20 := B.1.2.2.2 ((z).toNat)
    refine z_call C (c_X5_degreeOf l (c ((z).toNat)) (by first | assumption | omega | rfl | exact decide_eq_false (by omega) | exact decide_eq_true (by assumption) | exact decide_eq_true (by omega) | exact one_shl33 (by omega) | exact pm_lt _ _ | exact rm_lt (by first | assumption | exact pm_lt _ _) | exact Nat.lt_of_le_of_lt (Nat.shiftRight_le _ _) (by assumption) | exact Nat.lt_of_le_of_lt Nat.and_le_right (by omega))) ml_X5_33 ⟨by decide, by decide⟩ ⟨Nat.le_of_ble_eq_true rfl, Nat.le_of_ble_eq_true rfl⟩ hl (Nat.le_of_ble_eq_true rfl) rfl dX5_factors_21 ?_
    have q21_0 := tp_rngE (c ((z).toNat)) (by first | assumption | omega | exact pm_lt _ _ | exact rm_lt (by assumption))
    refine z_iconst C dX5_factors_24 ?_
    refine z_bipush C dX5_factors_25 (by decide) ?_
    refine z_call C (c_X5_isIn l (tp (c ((z).toNat))) (0 : Int) (8 : Int) (by first | assumption | omega | rfl | exact decide_eq_false (by omega) | exact decide_eq_true (by assumption) | exact decide_eq_true (by omega) | exact one_shl33 (by omega) | exact pm_lt _ _ | exact rm_lt (by first | assumption | exact pm_lt _ _) | exact Nat.lt_of_le_of_lt (Nat.shiftRight_le _ _) (by assumption) | exact Nat.lt_of_le_of_lt Nat.and_le_right (by omega)) (by first | assumption | omega | rfl | exact decide_eq_false (by omega) | exact decide_eq_true (by assumption) | exact decide_eq_true (by omega) | exact one_shl33 (by omega) | exact pm_lt _ _ | exact rm_lt (by first | assumption | exact pm_lt _ _) | exact Nat.lt_of_le_of_lt (Nat.shiftRight_le _ _) (by assumption) | exact Nat.lt_of_le_of_lt Nat.and_le_right (by omega)) (by first | assumption | omega | rfl | exact decide_eq_false (by omega) | exact decide_eq_true (by assumption) | exact decide_eq_true (by omega) | exact one_shl33 (by omega) | exact pm_lt _ _ | exact rm_lt (by first | assumption | exact pm_lt _ _) | exact Nat.lt_of_le_of_lt (Nat.shiftRight_le _ _) (by assumption) | exact Nat.lt_of_le_of_lt Nat.and_le_right (by omega))) ml_X5_21 ⟨by decide, by decide⟩ ⟨Nat.le_of_ble_eq_true rfl, Nat.le_of_ble_eq_true rfl⟩ hl (Nat.le_of_ble_eq_true rfl) rfl dX5_factors_27 ?_
    refine z_ifB_ne (tgt := 46) C dX5_factors_30 (by decide) (fun h30 => ?_) (fun h30 => ?_)
    · exact absurd (of_decide_eq_true h30) hg
    · refine lv_aload_n C.1 C.2.1 dX5_factors_33 rfl (lv_at hl 0 rfl) ?_
      refine lv_dup C.1 C.2.1 dX5_factors_34 rfl ?_
      refine zo_get C B (Cn := RX5) (T := TX5) (N := 5) (v := .int ((re))) rfl inX5 3 (by decide) fl_X5_56 rfl rfl dX5_factors_35 ?_
      refine z_iconst C dX5_factors_38 ?_
      refine lv_iadd C.1 C.2.1 dX5_factors_39 ?_
      refine zo_put C B (Cn := RX5) (T := TX5) (N := 5) (fs2 := [.int (iZ (0)), .int ((ac)), .int (((re)) + iZ (1)), .int ((kn))]) rfl inX5 tyX5 tyX5_ok nmX5 2 (by decide) fl_X5_56 rfl rfl (by decide +kernel) (Nat.le_of_ble_eq_true rfl) rfl dX5_factors_40 (fun H locs B => ?_)
      refine zt_ldc C V.t.2.2.2.2.2.1 dX5_factors_43 (fun q => ?_)
      exact zo_aret C B hr hk (Nat.le_of_ble_eq_true rfl) (Nat.le_of_ble_eq_true rfl) dX5_factors_45 ⟨_, rfl⟩ rfl rfl
  · exact absurd h9 (by decide)

set_option maxHeartbeats 4000000 in
set_option maxRecDepth 100000 in
theorem c_X5_factors_ok (l : Launch) (D : va_G) (cB cJ : ClassId) (o a : Nat) (c : Nat → Nat) (th : Int) (ac : Int32) (re : Int32) (kn : Int32) (z : Int) (hz : 0 ≤ z ∧ z ≤ 5) (hg : 0 ≤ tp (c z.toNat) ∧ tp (c z.toNat) ≤ 8) : zAV l yX5_factors 6 190 24 10000 D cB 4 cJ o a [.int (iZ (z))] c [.int (iZ (th)), .int (ac), .int (re), .int (kn)] (fun v => ∃ q, v = some (.ref q)) (c) [.int (iZ (0)), .int (ac), .int (re), .int (kn)] := by
  refine zAV.intro (lo := 165) (nA := 1) (own := RX5) zi_X5_factors (by decide) rfl rfl (by decide +kernel) rfl (Nat.le_of_ble_eq_true rfl) ?_
  intro p e s m below meth c0 ls C hr hk B K V hl
  have hl : lv_has ls 6 [(0, .ref o), (1, .int (iZ (z)))] := hl
  have ho9 := B.1.lt
  have hA : ∀ q, s.heap.size ≤ q → zF o a s.heap.size q := fun _ h => Or.inr (Or.inr h)
  refine lv_aload_n C.1 C.2.1 dX5_factors_0 rfl (lv_at hl 0 rfl) ?_
  refine lv_iload_n C.1 C.2.1 dX5_factors_1 rfl (lv_at hl 1 rfl) ?_
  refine z_call C (c_X5_isNo l (z) (by first | assumption | omega | rfl | exact decide_eq_false (by omega) | exact decide_eq_true (by assumption) | exact decide_eq_true (by omega) | exact one_shl33 (by omega) | exact pm_lt _ _ | exact rm_lt (by first | assumption | exact pm_lt _ _) | exact Nat.lt_of_le_of_lt (Nat.shiftRight_le _ _) (by assumption) | exact Nat.lt_of_le_of_lt Nat.and_le_right (by omega))) ml_X5_67 ⟨by decide, by decide⟩ ⟨Nat.le_of_ble_eq_true rfl, Nat.le_of_ble_eq_true rfl⟩ hl (Nat.le_of_ble_eq_true rfl) rfl dX5_factors_2 ?_
  refine z_iconst C dX5_factors_5 ?_
  refine zo_callD C B (r := some (.int (iZ (zB (false))))) (c_X5_start_ok l D cJ o a (c) (th) (ac) (re) (kn) (decide (¬ (0 ≤ (z) ∧ (z) ≤ 5))) (1 : Int) (by first | assumption | omega | rfl | exact decide_eq_false (by omega) | exact decide_eq_true (by assumption) | exact decide_eq_true (by omega) | exact one_shl33 (by omega) | exact pm_lt _ _ | exact rm_lt (by first | assumption | exact pm_lt _ _) | exact Nat.lt_of_le_of_lt (Nat.shiftRight_le _ _) (by assumption) | exact Nat.lt_of_le_of_lt Nat.and_le_right (by omega))) ml_X5_71 rfl ⟨Nat.le_of_ble_eq_true rfl, Nat.le_of_ble_eq_true rfl⟩ ⟨Nat.le_of_ble_eq_true rfl, Nat.le_of_ble_eq_true rfl⟩ hl (Nat.le_of_ble_eq_true rfl) rfl dX5_factors_6 (fun H locs B => ?_)
  refine z_ifB_eq (tgt := 15) C dX5_factors_9 (by decide) (fun h9 => ?_) (fun h9 => ?_)
  · refine lv_aload_n C.1 C.2.1 dX5_factors_15 rfl (lv_at hl 0 rfl) ?_
    refine zo_get C B (Cn := RX5) (T := TX5) (N := 5) (v := .ref a) rfl inX5 0 (by decide) fl_X5_7 rfl rfl dX5_factors_16 ?_
    refine lv_iload_n C.1 C.2.1 dX5_factors_19 rfl (lv_at hl 1 rfl) ?_
    refine zo_lald C B ((z).toNat) (by omega) (by omega) dX5_factors_20 ?_
    have q20 := B.1.2.2.2 ((z).toNat)
    refine z_call C (c_X5_degreeOf l (c ((z).toNat)) (by first | assumption | omega | rfl | exact decide_eq_false (by omega) | exact decide_eq_true (by assumption) | exact decide_eq_true (by omega) | exact one_shl33 (by omega) | exact pm_lt _ _ | exact rm_lt (by first | assumption | exact pm_lt _ _) | exact Nat.lt_of_le_of_lt (Nat.shiftRight_le _ _) (by assumption) | exact Nat.lt_of_le_of_lt Nat.and_le_right (by omega))) ml_X5_33 ⟨by decide, by decide⟩ ⟨Nat.le_of_ble_eq_true rfl, Nat.le_of_ble_eq_true rfl⟩ hl (Nat.le_of_ble_eq_true rfl) rfl dX5_factors_21 ?_
    have q21_0 := tp_rngE (c ((z).toNat)) (by first | assumption | omega | exact pm_lt _ _ | exact rm_lt (by assumption))
    refine z_iconst C dX5_factors_24 ?_
    refine z_bipush C dX5_factors_25 (by decide) ?_
    refine z_call C (c_X5_isIn l (tp (c ((z).toNat))) (0 : Int) (8 : Int) (by first | assumption | omega | rfl | exact decide_eq_false (by omega) | exact decide_eq_true (by assumption) | exact decide_eq_true (by omega) | exact one_shl33 (by omega) | exact pm_lt _ _ | exact rm_lt (by first | assumption | exact pm_lt _ _) | exact Nat.lt_of_le_of_lt (Nat.shiftRight_le _ _) (by assumption) | exact Nat.lt_of_le_of_lt Nat.and_le_right (by omega)) (by first | assumption | omega | rfl | exact decide_eq_false (by omega) | exact decide_eq_true (by assumption) | exact decide_eq_true (by omega) | exact one_shl33 (by omega) | exact pm_lt _ _ | exact rm_lt (by first | assumption | exact pm_lt _ _) | exact Nat.lt_of_le_of_lt (Nat.shiftRight_le _ _) (by assumption) | exact Nat.lt_of_le_of_lt Nat.and_le_right (by omega)) (by first | assumption | omega | rfl | exact decide_eq_false (by omega) | exact decide_eq_true (by assumption) | exact decide_eq_true (by omega) | exact one_shl33 (by omega) | exact pm_lt _ _ | exact rm_lt (by first | assumption | exact pm_lt _ _) | exact Nat.lt_of_le_of_lt (Nat.shiftRight_le _ _) (by assumption) | exact Nat.lt_of_le_of_lt Nat.and_le_right (by omega))) ml_X5_21 ⟨by decide, by decide⟩ ⟨Nat.le_of_ble_eq_true rfl, Nat.le_of_ble_eq_true rfl⟩ hl (Nat.le_of_ble_eq_true rfl) rfl dX5_factors_27 ?_
    refine z_ifB_ne (tgt := 46) C dX5_factors_30 (by decide) (fun h30 => ?_) (fun h30 => ?_)
    · have e9 := (tp_le (n := c z.toNat) (k := 8)).mp (by omega)
      have e8 : ¬ c z.toNat = 0 := fun g => absurd (tp_neg.mpr g) (by omega)
      refine zt_new C K V B.2 hA cl_X5_115 ml_X5_117 ⟨Nat.le_of_ble_eq_true rfl, Nat.le_of_ble_eq_true rfl⟩ ⟨Nat.le_of_ble_eq_true rfl, Nat.le_of_ble_eq_true rfl⟩ hl (Nat.le_of_ble_eq_true rfl) dX5_factors_46 dX5_factors_49 dX5_factors_50 (fun b v H locs Bt hq => ?_)
      have B : zIn D 4 cJ o a c [.int (iZ (0)), .int ((ac)), .int ((re)), .int ((kn))] s H locs := ⟨B.1.kept (hq o B.1.lt.1) (hq a B.1.lt.2), Bt.2.1⟩
      refine lv_astore_n (lv' := [(2, .ref b), (0, .ref o), (1, .int (iZ (z)))]) C.1 C.2.1 dX5_factors_53 rfl hl (by decide) rfl (fun ls hl => ?_)
      refine lv_aload_n C.1 C.2.1 dX5_factors_54 rfl (lv_at hl 1 rfl) ?_
      refine zo_get C B (Cn := RX5) (T := TX5) (N := 5) (v := .ref a) rfl inX5 0 (by decide) fl_X5_7 rfl rfl dX5_factors_55 ?_
      refine lv_iload_n C.1 C.2.1 dX5_factors_58 rfl (lv_at hl 2 rfl) ?_
      refine zo_lald C B ((z).toNat) (by omega) (by omega) dX5_factors_59 ?_
      have q59 := B.1.2.2.2 ((z).toNat)
      refine lv_lstore_n (lv' := [(3, .long (lN (c ((z).toNat)))), (2, .ref b), (0, .ref o), (1, .int (iZ (z)))]) C.1 C.2.1 dX5_factors_60 rfl hl (by decide) rfl (fun ls hl => ?_)
      refine z_iconst C dX5_factors_61 ?_
      refine lv_istore (lv' := [(5, .int (iZ (2))), (3, .long (lN (c ((z).toNat)))), (2, .ref b), (0, .ref o), (1, .int (iZ (z)))]) C.1 C.2.1 dX5_factors_62 hl (by decide) rfl (fun ls hl => ?_)
      have L64 : ∀ (j : Nat) (b : Nat) (v : Nat) (n : Nat) (k : Nat) (ce : Nat) (sl : Nat) (x3 : Nat) (x5 : Int) (H : Heap) (locs : List Loc) (ls : Array Slot), (513 - x5).toNat < j → (2 ≤ x5 ∧ x5 ≤ 512) → (1 ≤ x3 ∧ x3 < 512) → ((n : Int) + 4 * tp x3 ≤ 32) → (n ≤ k ∧ k ≤ 2 * n + 16) → ((ce : Int) + 2 * tp x3 ≤ 18) → ((sl : Int) + 1040 * tp x3 ≤ 8340) → (nd x3 x5.toNat) → (zIn D 4 cJ o a c [.int (iZ (0)), .int (ac), .int (re), .int (kn)] s H locs ∧ zTn (zF o a s.heap.size) D cB b v n k s H locs) → lv_has ls 6 [(0, .ref o), (1, .int (iZ (z))), (2, .ref b), (3, .long (lN (x3))), (5, .int (iZ (x5)))] → W p l e { frames := 6, cells := 24, slots := 10000, locals := 165 } s m (Value.ref o :: ([.int (iZ (z))] : List Value)).toArray below meth c0 H locs ce sl (zE1 below D 4 cJ o a (Value.ref o :: ([.int (iZ (z))] : List Value)).toArray s 24 10000 (fun v => ∃ q, v = some (.ref q)) (c) [.int (iZ (0)), .int (ac), .int (re), .int (kn)]) (F0 m 64 ls []) := by
        intro j
        induction j with
        | zero => intro b v n k ce sl x3 x5 H locs ls hmu; exact absurd hmu (Nat.not_lt_zero _)
        | succ j ih64 =>
          intro b v n k ce sl x3 x5 H locs ls hmu i64_0 i64_1 i64_2 i64_3 i64_4 i64_5 i64_6 B hl
          obtain ⟨B, Bt⟩ := B
          have ht2 := tp_ge x3
          refine lv_lload_n C.1 C.2.1 dX5_factors_64 rfl (lv_at hl 3 rfl) ?_
          refine z_lconst (k0 := 1) C dX5_factors_65 rfl ?_
          refine z_lc_eq (tgt := 120) C (by first | assumption | omega | rfl | exact decide_eq_false (by omega) | exact decide_eq_true (by assumption) | exact decide_eq_true (by omega) | exact one_shl33 (by omega) | exact pm_lt _ _ | exact rm_lt (by first | assumption | exact pm_lt _ _) | exact Nat.lt_of_le_of_lt (Nat.shiftRight_le _ _) (by assumption) | exact Nat.lt_of_le_of_lt Nat.and_le_right (by omega)) (by first | assumption | omega | rfl | exact decide_eq_false (by omega) | exact decide_eq_true (by assumption) | exact decide_eq_true (by omega) | exact one_shl33 (by omega) | exact pm_lt _ _ | exact rm_lt (by first | assumption | exact pm_lt _ _) | exact Nat.lt_of_le_of_lt (Nat.shiftRight_le _ _) (by assumption) | exact Nat.lt_of_le_of_lt Nat.and_le_right (by omega)) dX5_factors_66 dX5_factors_67 (by decide) (fun h66 => ?_) (fun h66 => ?_)
          · refine lv_aload_n C.1 C.2.1 dX5_factors_120 rfl (lv_at hl 2 rfl) ?_
            have hn9 := Bt.2.2
            refine zt_str C Bt V hA (c_J4_toString_0e30d l D cB (n) (k) (by omega)) ml_X5_128 ⟨Nat.le_of_ble_eq_true rfl, Nat.le_of_ble_eq_true rfl⟩ ⟨by show ce + 2 ≤ 24; omega, by show sl + 524 ≤ 10000; omega⟩ hl (Nat.le_of_ble_eq_true rfl) dX5_factors_121 (fun q H locs S hq => ?_)
            have B : zIn D 4 cJ o a c [.int (iZ (0)), .int ((ac)), .int ((re)), .int ((kn))] s H locs := ⟨B.1.kept (hq o B.1.lt.1 (by omega)) (hq a B.1.lt.2 (by omega)), S⟩
            exact zo_aret C B hr hk (by omega) (by omega) dX5_factors_124 ⟨_, rfl⟩ rfl rfl
          · have L70 : ∀ (j : Nat) (b : Nat) (v : Nat) (n : Nat) (k : Nat) (ce : Nat) (sl : Nat) (x3 : Nat) (H : Heap) (locs : List Loc) (ls : Array Slot), (tp x3 + 1).toNat < j → (1 ≤ x3 ∧ x3 < 512) → ((n : Int) + 4 * tp x3 ≤ 32) → (n ≤ k ∧ k ≤ 2 * n + 16) → ((ce : Int) + 2 * tp x3 ≤ 18) → ((sl : Int) + 1040 * tp x3 ≤ 8340) → (nd x3 x5.toNat) → (x5 ≤ 511) → (zIn D 4 cJ o a c [.int (iZ (0)), .int (ac), .int (re), .int (kn)] s H locs ∧ zTn (zF o a s.heap.size) D cB b v n k s H locs) → lv_has ls 6 [(0, .ref o), (1, .int (iZ (z))), (2, .ref b), (3, .long (lN (x3))), (5, .int (iZ (x5)))] → W p l e { frames := 6, cells := 24, slots := 10000, locals := 165 } s m (Value.ref o :: ([.int (iZ (z))] : List Value)).toArray below meth c0 H locs ce sl (zE1 below D 4 cJ o a (Value.ref o :: ([.int (iZ (z))] : List Value)).toArray s 24 10000 (fun v => ∃ q, v = some (.ref q)) (c) [.int (iZ (0)), .int (ac), .int (re), .int (kn)]) (F0 m 70 ls []) := by
              intro j
              induction j with
              | zero => intro b v n k ce sl x3 H locs ls hmu; exact absurd hmu (Nat.not_lt_zero _)
              | succ j ih70 =>
                intro b v n k ce sl x3 H locs ls hmu i70_0 i70_1 i70_2 i70_3 i70_4 i70_5 i70_6 B hl
                obtain ⟨B, Bt⟩ := B
                have ht2 := tp_ge x3
                refine lv_lload_n C.1 C.2.1 dX5_factors_70 rfl (lv_at hl 3 rfl) ?_
                refine lv_iload C.1 C.2.1 dX5_factors_71 (lv_at hl 4 rfl) ?_
                refine z_i2l C ((x5).toNat) (by omega) (by omega) dX5_factors_73 ?_
                refine z_call C (c_X5_restOf l (x3) ((x5).toNat) (by first | assumption | omega | rfl | exact decide_eq_false (by omega) | exact decide_eq_true (by assumption) | exact decide_eq_true (by omega) | exact one_shl33 (by omega) | exact pm_lt _ _ | exact rm_lt (by first | assumption | exact pm_lt _ _) | exact Nat.lt_of_le_of_lt (Nat.shiftRight_le _ _) (by assumption) | exact Nat.lt_of_le_of_lt Nat.and_le_right (by omega)) (by first | assumption | omega | rfl | exact decide_eq_false (by omega) | exact decide_eq_true (by assumption) | exact decide_eq_true (by omega) | exact one_shl33 (by omega) | exact pm_lt _ _ | exact rm_lt (by first | assumption | exact pm_lt _ _) | exact Nat.lt_of_le_of_lt (Nat.shiftRight_le _ _) (by assumption) | exact Nat.lt_of_le_of_lt Nat.and_le_right (by omega)) (by first | assumption | omega | rfl | exact decide_eq_false (by omega) | exact decide_eq_true (by assumption) | exact decide_eq_true (by omega) | exact one_shl33 (by omega) | exact pm_lt _ _ | exact rm_lt (by first | assumption | exact pm_lt _ _) | exact Nat.lt_of_le_of_lt (Nat.shiftRight_le _ _) (by assumption) | exact Nat.lt_of_le_of_lt Nat.and_le_right (by omega))) ml_X5_46 ⟨by decide, by decide⟩ ⟨by show ce + 0 ≤ 24; omega, by show sl + 0 ≤ 10000; omega⟩ hl (Nat.le_of_ble_eq_true rfl) rfl dX5_factors_74 ?_
                refine z_lconst (k0 := 0) C dX5_factors_77 rfl ?_
                refine z_lc_ne (tgt := 114) C (by exact rm_lt (by omega)) (by omega) dX5_factors_78 dX5_factors_79 (by decide) (fun h78 => ?_) (fun h78 => ?_)
                · refine z_iinc (j := 4) (lv' := [(5, .int (iZ (x5 + 1))), (0, .ref o), (1, .int (iZ (z))), (2, .ref b), (3, .long (lN (x3)))]) C dX5_factors_114 hl rfl (by decide) rfl (fun ls hl => ?_)
                  refine lv_goto (tgt := 64) C.1 C.2.1 dX5_factors_117 (by decide) ?_
                  exact ih64 (b) (v) (n) (k) (ce) (sl) _ _ _ _ _ (by omega) (by omega) (by omega) (by omega) (by omega) (by omega) (by omega) (by exact nd_s i70_5 h78 (by omega)) ⟨B, Bt⟩ (lv_sub hl [1, 2, 3, 4, 0] rfl)
                · have h2x : 2 ≤ x3 := by refine Nat.le_of_not_lt fun g => ?_; rw [show x3 = 1 by omega] at h78; exact rm1_ne (by omega) (by omega) h78
                  have ht1 := tp_2 h2x
                  refine lv_aload_n C.1 C.2.1 dX5_factors_82 rfl (lv_at hl 2 rfl) ?_
                  have hn9 := Bt.2.2
                  refine zt_call C Bt V hA (c_J4_length_8abf5 l D cB  (n) (k) ) ml_X5_118 (C.2.2.2.2 _ (T0_of zi_J4_length_8abf5.2.1 rfl)) ⟨Nat.le_of_ble_eq_true rfl, Nat.le_of_ble_eq_true rfl⟩ ⟨by show ce + 0 ≤ 24; omega, by show sl + 0 ≤ 10000; omega⟩ hl (Nat.le_of_ble_eq_true rfl) rfl dX5_factors_83 (fun v83 k83 H locs hp83 Bt hq => ?_)
                  have B : zIn D 4 cJ o a c [.int (iZ (0)), .int ((ac)), .int ((re)), .int ((kn))] s H locs := ⟨B.1.kept (hq o B.1.lt.1 (by omega)) (hq a B.1.lt.2 (by omega)), Bt.2.1⟩
                  obtain ⟨rfl, rfl⟩ := hp83
                  refine z_if_le (tgt := 96) C (by omega) dX5_factors_86 (by decide) (fun h86 => ?_) (fun h86 => ?_)
                  · refine lv_aload_n C.1 C.2.1 dX5_factors_96 rfl (lv_at hl 2 rfl) ?_
                    refine lv_iload C.1 C.2.1 dX5_factors_97 (lv_at hl 4 rfl) ?_
                    have hn9 := Bt.2.2
                    refine zt_call C Bt V hA (c_J4_append_bf812 l D cB (x5) ((n)) (k) (by first | assumption | omega | rfl | exact decide_eq_false (by omega) | exact decide_eq_true (by assumption) | exact decide_eq_true (by omega) | exact one_shl33 (by omega) | exact pm_lt _ _ | exact rm_lt (by first | assumption | exact pm_lt _ _) | exact Nat.lt_of_le_of_lt (Nat.shiftRight_le _ _) (by assumption) | exact Nat.lt_of_le_of_lt Nat.and_le_right (by omega)) (by first | assumption | omega | rfl | exact decide_eq_false (by omega) | exact decide_eq_true (by assumption) | exact decide_eq_true (by omega) | exact one_shl33 (by omega) | exact pm_lt _ _ | exact rm_lt (by first | assumption | exact pm_lt _ _) | exact Nat.lt_of_le_of_lt (Nat.shiftRight_le _ _) (by assumption) | exact Nat.lt_of_le_of_lt Nat.and_le_right (by omega)) (by first | assumption | omega | rfl | exact decide_eq_false (by omega) | exact decide_eq_true (by assumption) | exact decide_eq_true (by omega) | exact one_shl33 (by omega) | exact pm_lt _ _ | exact rm_lt (by first | assumption | exact pm_lt _ _) | exact Nat.lt_of_le_of_lt (Nat.shiftRight_le _ _) (by assumption) | exact Nat.lt_of_le_of_lt Nat.and_le_right (by omega))) ml_X5_125 (C.2.2.2.2 _ (T0_of zi_J4_append_bf812.2.1 rfl)) ⟨Nat.le_of_ble_eq_true rfl, Nat.le_of_ble_eq_true rfl⟩ ⟨by show (ce + 0) + 1 ≤ 24; omega, by show (sl + 0) + 520 ≤ 10000; omega⟩ hl (Nat.le_of_ble_eq_true rfl) rfl dX5_factors_99 (fun v99 k99 H locs hp99 Bt hq => ?_)
                    have B : zIn D 4 cJ o a c [.int (iZ (0)), .int ((ac)), .int ((re)), .int ((kn))] s H locs := ⟨B.1.kept (hq o B.1.lt.1 (by omega)) (hq a B.1.lt.2 (by omega)), Bt.2.1⟩
                    have hp99 : ((n)) + (ssz (x5)).toNat ≤ (k99) ∧ (k99) ≤ 2 * (((n)) + (ssz (x5)).toNat) + 16 := hp99
                    have q99_0 := ssz_rng (x5)
                    refine lv_pop C.1 C.2.1 dX5_factors_102 rfl ?_
                    refine lv_lload_n C.1 C.2.1 dX5_factors_103 rfl (lv_at hl 3 rfl) ?_
                    refine lv_iload C.1 C.2.1 dX5_factors_104 (lv_at hl 4 rfl) ?_
                    refine z_i2l C ((x5).toNat) (by omega) (by omega) dX5_factors_106 ?_
                    refine z_call C (c_X5_quotientOf l (x3) ((x5).toNat) (by first | assumption | omega | rfl | exact decide_eq_false (by omega) | exact decide_eq_true (by assumption) | exact decide_eq_true (by omega) | exact one_shl33 (by omega) | exact pm_lt _ _ | exact rm_lt (by first | assumption | exact pm_lt _ _) | exact Nat.lt_of_le_of_lt (Nat.shiftRight_le _ _) (by assumption) | exact Nat.lt_of_le_of_lt Nat.and_le_right (by omega)) (by first | assumption | omega | rfl | exact decide_eq_false (by omega) | exact decide_eq_true (by assumption) | exact decide_eq_true (by omega) | exact one_shl33 (by omega) | exact pm_lt _ _ | exact rm_lt (by first | assumption | exact pm_lt _ _) | exact Nat.lt_of_le_of_lt (Nat.shiftRight_le _ _) (by assumption) | exact Nat.lt_of_le_of_lt Nat.and_le_right (by omega)) (by first | assumption | omega | rfl | exact decide_eq_false (by omega) | exact decide_eq_true (by assumption) | exact decide_eq_true (by omega) | exact one_shl33 (by omega) | exact pm_lt _ _ | exact rm_lt (by first | assumption | exact pm_lt _ _) | exact Nat.lt_of_le_of_lt (Nat.shiftRight_le _ _) (by assumption) | exact Nat.lt_of_le_of_lt Nat.and_le_right (by omega))) ml_X5_37 ⟨by decide, by decide⟩ ⟨by show ((ce + 0) + 1) + 0 ≤ 24; omega, by show ((sl + 0) + 520) + 0 ≤ 10000; omega⟩ hl (Nat.le_of_ble_eq_true rfl) rfl dX5_factors_107 ?_
                    refine lv_lstore_n (lv' := [(3, .long (lN (qo (x3) ((x5).toNat)))), (0, .ref o), (1, .int (iZ (z))), (2, .ref b), (5, .int (iZ (x5)))]) C.1 C.2.1 dX5_factors_110 rfl hl (by decide) rfl (fun ls hl => ?_)
                    refine lv_goto (tgt := 70) C.1 C.2.1 dX5_factors_111 (by decide) ?_
                    have hf := fq_rng (a := x3) (b := x5.toNat) (by omega) h2x (by omega)
                    have hf1 := qo_1 (x := x3) (b := x5.toNat) (by omega) (by omega) (by omega) (by omega) h78
                    have hf3 := tp_ge (qo x3 x5.toNat)
                    exact ih70 (b) (v99) (((n)) + (ssz (x5)).toNat) (k99) (((ce + 0) + 1)) (((sl + 0) + 520)) _ _ _ _ (by omega) (by omega) (by omega) (by omega) (by omega) (by omega) (by exact nd_q (by omega) h2x (by omega) i70_5 h78) (by omega) ⟨B, Bt⟩ (lv_sub hl [1, 2, 3, 0, 4] rfl)
                  · refine lv_aload_n C.1 C.2.1 dX5_factors_89 rfl (lv_at hl 2 rfl) ?_
                    refine z_bipush C dX5_factors_90 (by decide) ?_
                    have hn9 := Bt.2.2
                    refine zt_call C Bt V hA (c_J4_append_cf468 l D cB (32 : Int) ((n)) (k) (by first | assumption | omega | rfl | exact decide_eq_false (by omega) | exact decide_eq_true (by assumption) | exact decide_eq_true (by omega) | exact one_shl33 (by omega) | exact pm_lt _ _ | exact rm_lt (by first | assumption | exact pm_lt _ _) | exact Nat.lt_of_le_of_lt (Nat.shiftRight_le _ _) (by assumption) | exact Nat.lt_of_le_of_lt Nat.and_le_right (by omega)) (by first | assumption | omega | rfl | exact decide_eq_false (by omega) | exact decide_eq_true (by assumption) | exact decide_eq_true (by omega) | exact one_shl33 (by omega) | exact pm_lt _ _ | exact rm_lt (by first | assumption | exact pm_lt _ _) | exact Nat.lt_of_le_of_lt (Nat.shiftRight_le _ _) (by assumption) | exact Nat.lt_of_le_of_lt Nat.and_le_right (by omega)) (by first | assumption | omega | rfl | exact decide_eq_false (by omega) | exact decide_eq_true (by assumption) | exact decide_eq_true (by omega) | exact one_shl33 (by omega) | exact pm_lt _ _ | exact rm_lt (by first | assumption | exact pm_lt _ _) | exact Nat.lt_of_le_of_lt (Nat.shiftRight_le _ _) (by assumption) | exact Nat.lt_of_le_of_lt Nat.and_le_right (by omega))) ml_X5_121 (C.2.2.2.2 _ (T0_of zi_J4_append_cf468.2.1 rfl)) ⟨Nat.le_of_ble_eq_true rfl, Nat.le_of_ble_eq_true rfl⟩ ⟨by show (ce + 0) + 1 ≤ 24; omega, by show (sl + 0) + 520 ≤ 10000; omega⟩ hl (Nat.le_of_ble_eq_true rfl) rfl dX5_factors_92 (fun v92 k92 H locs hp92 Bt hq => ?_)
                    have B : zIn D 4 cJ o a c [.int (iZ (0)), .int ((ac)), .int ((re)), .int ((kn))] s H locs := ⟨B.1.kept (hq o B.1.lt.1 (by omega)) (hq a B.1.lt.2 (by omega)), Bt.2.1⟩
                    have hp92 : ((n)) + 1 ≤ (k92) ∧ (k92) ≤ 2 * (((n)) + 1) + 16 := hp92
                    refine lv_pop C.1 C.2.1 dX5_factors_95 rfl ?_
                    refine lv_aload_n C.1 C.2.1 dX5_factors_96 rfl (lv_at hl 2 rfl) ?_
                    refine lv_iload C.1 C.2.1 dX5_factors_97 (lv_at hl 4 rfl) ?_
                    have hn9 := Bt.2.2
                    refine zt_call C Bt V hA (c_J4_append_bf812 l D cB (x5) (((n)) + 1) (k92) (by first | assumption | omega | rfl | exact decide_eq_false (by omega) | exact decide_eq_true (by assumption) | exact decide_eq_true (by omega) | exact one_shl33 (by omega) | exact pm_lt _ _ | exact rm_lt (by first | assumption | exact pm_lt _ _) | exact Nat.lt_of_le_of_lt (Nat.shiftRight_le _ _) (by assumption) | exact Nat.lt_of_le_of_lt Nat.and_le_right (by omega)) (by first | assumption | omega | rfl | exact decide_eq_false (by omega) | exact decide_eq_true (by assumption) | exact decide_eq_true (by omega) | exact one_shl33 (by omega) | exact pm_lt _ _ | exact rm_lt (by first | assumption | exact pm_lt _ _) | exact Nat.lt_of_le_of_lt (Nat.shiftRight_le _ _) (by assumption) | exact Nat.lt_of_le_of_lt Nat.and_le_right (by omega)) (by first | assumption | omega | rfl | exact decide_eq_false (by omega) | exact decide_eq_true (by assumption) | exact decide_eq_true (by omega) | exact one_shl33 (by omega) | exact pm_lt _ _ | exact rm_lt (by first | assumption | exact pm_lt _ _) | exact Nat.lt_of_le_of_lt (Nat.shiftRight_le _ _) (by assumption) | exact Nat.lt_of_le_of_lt Nat.and_le_right (by omega))) ml_X5_125 (C.2.2.2.2 _ (T0_of zi_J4_append_bf812.2.1 rfl)) ⟨Nat.le_of_ble_eq_true rfl, Nat.le_of_ble_eq_true rfl⟩ ⟨by show ((ce + 0) + 1) + 1 ≤ 24; omega, by show ((sl + 0) + 520) + 520 ≤ 10000; omega⟩ hl (Nat.le_of_ble_eq_true rfl) rfl dX5_factors_99 (fun v99 k99 H locs hp99 Bt hq => ?_)
                    have B : zIn D 4 cJ o a c [.int (iZ (0)), .int ((ac)), .int ((re)), .int ((kn))] s H locs := ⟨B.1.kept (hq o B.1.lt.1 (by omega)) (hq a B.1.lt.2 (by omega)), Bt.2.1⟩
                    have hp99 : (((n)) + 1) + (ssz (x5)).toNat ≤ (k99) ∧ (k99) ≤ 2 * ((((n)) + 1) + (ssz (x5)).toNat) + 16 := hp99
                    have q99_0 := ssz_rng (x5)
                    refine lv_pop C.1 C.2.1 dX5_factors_102 rfl ?_
                    refine lv_lload_n C.1 C.2.1 dX5_factors_103 rfl (lv_at hl 3 rfl) ?_
                    refine lv_iload C.1 C.2.1 dX5_factors_104 (lv_at hl 4 rfl) ?_
                    refine z_i2l C ((x5).toNat) (by omega) (by omega) dX5_factors_106 ?_
                    refine z_call C (c_X5_quotientOf l (x3) ((x5).toNat) (by first | assumption | omega | rfl | exact decide_eq_false (by omega) | exact decide_eq_true (by assumption) | exact decide_eq_true (by omega) | exact one_shl33 (by omega) | exact pm_lt _ _ | exact rm_lt (by first | assumption | exact pm_lt _ _) | exact Nat.lt_of_le_of_lt (Nat.shiftRight_le _ _) (by assumption) | exact Nat.lt_of_le_of_lt Nat.and_le_right (by omega)) (by first | assumption | omega | rfl | exact decide_eq_false (by omega) | exact decide_eq_true (by assumption) | exact decide_eq_true (by omega) | exact one_shl33 (by omega) | exact pm_lt _ _ | exact rm_lt (by first | assumption | exact pm_lt _ _) | exact Nat.lt_of_le_of_lt (Nat.shiftRight_le _ _) (by assumption) | exact Nat.lt_of_le_of_lt Nat.and_le_right (by omega)) (by first | assumption | omega | rfl | exact decide_eq_false (by omega) | exact decide_eq_true (by assumption) | exact decide_eq_true (by omega) | exact one_shl33 (by omega) | exact pm_lt _ _ | exact rm_lt (by first | assumption | exact pm_lt _ _) | exact Nat.lt_of_le_of_lt (Nat.shiftRight_le _ _) (by assumption) | exact Nat.lt_of_le_of_lt Nat.and_le_right (by omega))) ml_X5_37 ⟨by decide, by decide⟩ ⟨by show (((ce + 0) + 1) + 1) + 0 ≤ 24; omega, by show (((sl + 0) + 520) + 520) + 0 ≤ 10000; omega⟩ hl (Nat.le_of_ble_eq_true rfl) rfl dX5_factors_107 ?_
                    refine lv_lstore_n (lv' := [(3, .long (lN (qo (x3) ((x5).toNat)))), (0, .ref o), (1, .int (iZ (z))), (2, .ref b), (5, .int (iZ (x5)))]) C.1 C.2.1 dX5_factors_110 rfl hl (by decide) rfl (fun ls hl => ?_)
                    refine lv_goto (tgt := 70) C.1 C.2.1 dX5_factors_111 (by decide) ?_
                    have hf := fq_rng (a := x3) (b := x5.toNat) (by omega) h2x (by omega)
                    have hf1 := qo_1 (x := x3) (b := x5.toNat) (by omega) (by omega) (by omega) (by omega) h78
                    have hf3 := tp_ge (qo x3 x5.toNat)
                    exact ih70 (b) (v99) ((((n)) + 1) + (ssz (x5)).toNat) (k99) ((((ce + 0) + 1) + 1)) ((((sl + 0) + 520) + 520)) _ _ _ _ (by omega) (by omega) (by omega) (by omega) (by omega) (by omega) (by exact nd_q (by omega) h2x (by omega) i70_5 h78) (by omega) ⟨B, Bt⟩ (lv_sub hl [1, 2, 3, 0, 4] rfl)
            exact L70 _ (b) (v) (n) (k) (ce) (sl) _ _ _ _ (by exact Nat.lt_succ_self _) (by omega) (by omega) (by omega) (by omega) (by omega) (by exact i64_6) (by have := nd_le i64_6 i64_1.2 (by omega); omega) ⟨B, Bt⟩ (lv_sub hl [0, 1, 2, 3, 4] rfl)
      exact L64 _ (b) (v) (0) (16) (((0 + 0) + 2)) (((0 + 0) + 20)) _ _ _ _ _ (by exact Nat.lt_succ_self _) (by omega) (by omega) (by omega) (by omega) (by omega) (by omega) (by exact nd_2 _) ⟨B, Bt⟩ (lv_sub hl [3, 4, 2, 1, 0] rfl)
    · exact absurd (of_decide_eq_false h30) (not_not_intro hg)
  · exact absurd h9 (by decide)

set_option maxHeartbeats 4000000 in
set_option maxRecDepth 100000 in
theorem c_X5_formula (l : Launch) (D : va_G) (cB cJ : ClassId) (o a : Nat) (c : Nat → Nat) (th : Int) (ac : Int32) (re : Int32) (kn : Int32) (d : Int) (hd : 1 ≤ d ∧ d ≤ 8) : zAV l yX5_formula 2 67 0 0 D cB 4 cJ o a [.int (iZ (d))] c [.int (iZ (th)), .int (ac), .int (re), .int (kn)] (fun v => v = some (.int (iZ (fo d)))) (c) [.int (iZ (0)), .int (ac), .int (re), .int (kn)] := by
  refine zAV.intro (lo := 44) (nA := 1) (own := RX5) zi_X5_formula (by decide) rfl rfl (by decide +kernel) rfl (Nat.le_of_ble_eq_true rfl) ?_
  intro p e s m below meth c0 ls C hr hk B K V hl
  have hl : lv_has ls 4 [(0, .ref o), (1, .int (iZ (d)))] := hl
  have ho9 := B.1.lt
  have hA : ∀ q, s.heap.size ≤ q → zF o a s.heap.size q := fun _ h => Or.inr (Or.inr h)
  refine lv_aload_n C.1 C.2.1 dX5_formula_0 rfl (lv_at hl 0 rfl) ?_
  refine lv_iload_n C.1 C.2.1 dX5_formula_1 rfl (lv_at hl 1 rfl) ?_
  refine z_iconst C dX5_formula_2 ?_
  refine z_bipush C dX5_formula_3 (by decide) ?_
  refine z_call C (c_X5_isIn l (d) (1 : Int) (8 : Int) (by first | assumption | omega | rfl | exact decide_eq_false (by omega) | exact decide_eq_true (by assumption) | exact decide_eq_true (by omega) | exact one_shl33 (by omega) | exact pm_lt _ _ | exact rm_lt (by first | assumption | exact pm_lt _ _) | exact Nat.lt_of_le_of_lt (Nat.shiftRight_le _ _) (by assumption) | exact Nat.lt_of_le_of_lt Nat.and_le_right (by omega)) (by first | assumption | omega | rfl | exact decide_eq_false (by omega) | exact decide_eq_true (by assumption) | exact decide_eq_true (by omega) | exact one_shl33 (by omega) | exact pm_lt _ _ | exact rm_lt (by first | assumption | exact pm_lt _ _) | exact Nat.lt_of_le_of_lt (Nat.shiftRight_le _ _) (by assumption) | exact Nat.lt_of_le_of_lt Nat.and_le_right (by omega)) (by first | assumption | omega | rfl | exact decide_eq_false (by omega) | exact decide_eq_true (by assumption) | exact decide_eq_true (by omega) | exact one_shl33 (by omega) | exact pm_lt _ _ | exact rm_lt (by first | assumption | exact pm_lt _ _) | exact Nat.lt_of_le_of_lt (Nat.shiftRight_le _ _) (by assumption) | exact Nat.lt_of_le_of_lt Nat.and_le_right (by omega))) ml_X5_21 ⟨by decide, by decide⟩ ⟨Nat.le_of_ble_eq_true rfl, Nat.le_of_ble_eq_true rfl⟩ hl (Nat.le_of_ble_eq_true rfl) rfl dX5_formula_5 ?_
  refine z_ifB_ne (tgt := 15) C dX5_formula_8 (by decide) (fun h8 => ?_) (fun h8 => ?_)
  · refine z_iconst C dX5_formula_15 ?_
    refine z_iconst C dX5_formula_16 ?_
    refine zo_callD C B (r := some (.int (iZ (zB (false))))) (c_X5_start_ok l D cJ o a (c) (th) (ac) (re) (kn) (false) (1 : Int) (by first | assumption | omega | rfl | exact decide_eq_false (by omega) | exact decide_eq_true (by assumption) | exact decide_eq_true (by omega) | exact one_shl33 (by omega) | exact pm_lt _ _ | exact rm_lt (by first | assumption | exact pm_lt _ _) | exact Nat.lt_of_le_of_lt (Nat.shiftRight_le _ _) (by assumption) | exact Nat.lt_of_le_of_lt Nat.and_le_right (by omega))) ml_X5_71 rfl ⟨Nat.le_of_ble_eq_true rfl, Nat.le_of_ble_eq_true rfl⟩ ⟨Nat.le_of_ble_eq_true rfl, Nat.le_of_ble_eq_true rfl⟩ hl (Nat.le_of_ble_eq_true rfl) rfl dX5_formula_17 (fun H locs B => ?_)
    refine z_ifB_eq (tgt := 25) C dX5_formula_20 (by decide) (fun h20 => ?_) (fun h20 => ?_)
    · obtain ⟨tM, m1, m2⟩ := V.2.2.2.2.1
      refine z_iconst C dX5_formula_25 ?_
      refine lv_istore_n (lv' := [(2, .int (iZ (0))), (0, .ref o), (1, .int (iZ (d)))]) C.1 C.2.1 dX5_formula_26 rfl hl (by decide) rfl (fun ls hl => ?_)
      refine z_iconst C dX5_formula_27 ?_
      refine lv_istore_n (lv' := [(3, .int (iZ (1))), (2, .int (iZ (0))), (0, .ref o), (1, .int (iZ (d)))]) C.1 C.2.1 dX5_formula_28 rfl hl (by decide) rfl (fun ls hl => ?_)
      have L29 : ∀ (j : Nat) (f : Nat) (x2 : Int) (x3 : Int) (ls : Array Slot), 9 - f < j → (x3 = (f : Int) + 1) → (x3 ≤ d + 1) → (x2 = foF d f) → lv_has ls 4 [(0, .ref o), (1, .int (iZ (d))), (2, .int (iZ (x2))), (3, .int (iZ (x3)))] → W p l e { frames := 2, cells := 0, slots := 0, locals := 44 } s m (Value.ref o :: ([.int (iZ (d))] : List Value)).toArray below meth c0 H locs (0 + 0) (0 + 0) (zE1 below D 4 cJ o a (Value.ref o :: ([.int (iZ (d))] : List Value)).toArray s 0 0 (fun v => v = some (.int (iZ (fo d)))) (c) [.int (iZ (0)), .int (ac), .int (re), .int (kn)]) (F0 m 29 ls []) := by
        intro j
        induction j with
        | zero => intro f x2 x3 ls hmu; exact absurd hmu (Nat.not_lt_zero _)
        | succ j ih29 =>
          intro f x2 x3 ls hmu i29_0 i29_1 i29_2 hl
          refine lv_iload_n C.1 C.2.1 dX5_formula_29 rfl (lv_at hl 3 rfl) ?_
          refine lv_iload_n C.1 C.2.1 dX5_formula_30 rfl (lv_at hl 1 rfl) ?_
          refine z_icmp_gt (tgt := 60) C (by omega) (by omega) dX5_formula_31 (by decide) (fun h31 => ?_) (fun h31 => ?_)
          · refine lv_iload_n C.1 C.2.1 dX5_formula_60 rfl (lv_at hl 2 rfl) ?_
            refine lv_iload_n C.1 C.2.1 dX5_formula_61 rfl (lv_at hl 1 rfl) ?_
            refine z_idiv C (by rw [i29_2, show f = d.toNat by omega]; exact (fo_rngE d hd).1) (by omega) dX5_formula_62 ?_
            exact zo_iret C B hr hk (Nat.le_of_ble_eq_true rfl) (Nat.le_of_ble_eq_true rfl) dX5_formula_63 (by exact congrArg (fun z : Int => some (Value.int (iZ z))) (by rw [i29_2, show f = d.toNat by omega]; rfl)) (by rfl) (by rfl)
          · refine lv_iload_n C.1 C.2.1 dX5_formula_34 rfl (lv_at hl 1 rfl) ?_
            refine lv_iload_n C.1 C.2.1 dX5_formula_35 rfl (lv_at hl 3 rfl) ?_
            refine z_irem C (by omega) (by omega) dX5_formula_36 ?_
            refine z_if_ne (tgt := 54) C (by have := Int.emod_nonneg d (b := x3) (by omega); have := Int.emod_lt_of_pos d (b := x3) (by omega); omega) dX5_formula_37 (by decide) (fun h37 => ?_) (fun h37 => ?_)
            · refine z_iinc (j := 3) (lv' := [(3, .int (iZ (x3 + 1))), (0, .ref o), (1, .int (iZ (d))), (2, .int (iZ (x2)))]) C dX5_formula_54 hl rfl (by decide) rfl (fun ls hl => ?_)
              refine lv_goto (tgt := 29) C.1 C.2.1 dX5_formula_57 (by decide) ?_
              have e2 : x3 = ((f + 1 : Nat) : Int) := by omega
              rw [e2] at h37
              exact ih29 (f + 1) _ _ _ (by omega) (by omega) (by omega) (by rw [foF, if_neg h37]; exact i29_2) (lv_sub hl [1, 2, 3, 0] rfl)
            · refine lv_iload_n C.1 C.2.1 dX5_formula_40 rfl (lv_at hl 2 rfl) ?_
              refine zv_gets C m1 B.2 fl_X5_153 dX5_formula_41 ?_
              refine lv_iload_n C.1 C.2.1 dX5_formula_44 rfl (lv_at hl 3 rfl) ?_
              refine va_ti C.1 C.2.1 m2 B.2 (v := .int (iZ (sg (x3)))) (iZ_in (by omega) (by omega)) (by rw [iZ_clamp (by omega), msv_sg (by omega)]) dX5_formula_45 ?_
              refine z_iconst C dX5_formula_46 ?_
              refine lv_iload_n C.1 C.2.1 dX5_formula_47 rfl (lv_at hl 1 rfl) ?_
              refine lv_iload_n C.1 C.2.1 dX5_formula_48 rfl (lv_at hl 3 rfl) ?_
              refine z_idiv C (by omega) (by omega) dX5_formula_49 ?_
              refine z_ishl1 C (((d) / (x3)).toNat) (by have h9 : d / x3 ≤ d := Int.ediv_le_self _ (by omega); have h8 : 0 ≤ d / x3 := Int.ediv_nonneg (by omega) (by omega); omega) (by have h9 : d / x3 ≤ d := Int.ediv_le_self _ (by omega); have h8 : 0 ≤ d / x3 := Int.ediv_nonneg (by omega) (by omega); omega) dX5_formula_50 ?_
              refine z_imul C dX5_formula_51 ?_
              refine z_iadd C dX5_formula_52 ?_
              refine lv_istore_n (lv' := [(2, .int (iZ ((x2) + ((sg (x3)) * (((1 <<< ((d) / (x3)).toNat : Nat) : Int)))))), (0, .ref o), (1, .int (iZ (d))), (3, .int (iZ (x3)))]) C.1 C.2.1 dX5_formula_53 rfl hl (by decide) rfl (fun ls hl => ?_)
              refine z_iinc (j := 3) (lv' := [(3, .int (iZ (x3 + 1))), (2, .int (iZ ((x2) + ((sg (x3)) * (((1 <<< ((d) / (x3)).toNat : Nat) : Int)))))), (0, .ref o), (1, .int (iZ (d)))]) C dX5_formula_54 hl rfl (by decide) rfl (fun ls hl => ?_)
              refine lv_goto (tgt := 29) C.1 C.2.1 dX5_formula_57 (by decide) ?_
              have e2 : x3 = ((f + 1 : Nat) : Int) := by omega
              rw [e2] at h37
              exact ih29 (f + 1) _ _ _ (by omega) (by omega) (by omega) (by rw [foF, if_pos h37, i29_2, e2]) (lv_sub hl [2, 3, 1, 0] rfl)
      exact L29 _ (0) _ _ _ (by exact Nat.lt_succ_self _) (by rfl) (by omega) (by rfl) (lv_sub hl [2, 3, 1, 0] rfl)
    · exact absurd h20 (by decide)
  · exact absurd (of_decide_eq_false h8) (by omega)

end MT
