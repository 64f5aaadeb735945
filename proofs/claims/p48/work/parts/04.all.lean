set_option maxHeartbeats 4000000 in
set_option maxRecDepth 100000 in
theorem c_X3_checkCell (l : Launch) (D : va_G) (cJ : ClassId) (o a : Nat) (c : Nat → Nat) (ac : Int32) (re : Int32) (kn : Int32) (z : Int) (hz : 0 ≤ z ∧ z ≤ 5) : zA l yX3_checkCell 0 21 0 0 D 2 cJ o a [.int (iZ (z))] c [.int (ac), .int (re), .int (kn)] (fun v => v = none) (c) [.int (ac), .int (re), .int (kn)] := by
  refine zA.intro (lo := 0) (nA := 1) (own := RX3) zi_X3_checkCell (by decide) rfl rfl (by decide +kernel) rfl (Nat.le_of_ble_eq_true rfl) ?_
  intro p e s m below meth c0 ls C hr hk B hl
  have hl : lv_has ls 2 [(0, .ref o), (1, .int (iZ (z)))] := hl
  refine lv_iload_n C.1 C.2.1 dX3_checkCell_0 rfl (lv_at hl 1 rfl) ?_
  refine z_if_lt (tgt := 13) C (by omega) dX3_checkCell_1 (by decide) (fun h1 => ?_) (fun h1 => ?_)
  · exact absurd h1 (by omega)
  · refine lv_iload_n C.1 C.2.1 dX3_checkCell_4 rfl (lv_at hl 1 rfl) ?_
    refine lv_aload_n C.1 C.2.1 dX3_checkCell_5 rfl (lv_at hl 0 rfl) ?_
    refine zo_get C B (Cn := RX3) (T := TX3) (N := 4) (v := .ref a) rfl inX3 0 (by decide) fl_X3_9 rfl rfl dX3_checkCell_6 ?_
    refine zo_alen C B dX3_checkCell_9 ?_
    refine z_icmp_lt (tgt := 23) C (by omega) (by omega) dX3_checkCell_10 (by decide) (fun h10 => ?_) (fun h10 => ?_)
    · exact zo_vret C B hr hk (Nat.le_of_ble_eq_true rfl) (Nat.le_of_ble_eq_true rfl) dX3_checkCell_23 (by rfl) (by rfl) (by rfl)
    · exact absurd h10 (by omega)

set_option maxHeartbeats 4000000 in
set_option maxRecDepth 100000 in
theorem c_X3_checkRange (l : Launch) (v : Int) (a : Int) (b : Int) (hv : (-2147483648 ≤ a ∧ a ≤ v) ∧ v ≤ b ∧ b ≤ 2147483647) : zPv l yX3_checkRange 0 22 [.int (iZ (v)), .int (iZ (a)), .int (iZ (b))]  := by
  refine zPv.intro (lo := 0) (nA := 3) (own := RX3) zs_X3_checkRange (by decide) rfl rfl (by decide +kernel) rfl (Nat.le_of_ble_eq_true rfl) ?_
  intro p e s m below meth c ls C hr hk hl
  have hl : lv_has ls 3 [(0, .int (iZ (v))), (1, .int (iZ (a))), (2, .int (iZ (b)))] := hl
  refine lv_iload_n C.1 C.2.1 dX3_checkRange_0 rfl (lv_at hl 0 rfl) ?_
  refine lv_iload_n C.1 C.2.1 dX3_checkRange_1 rfl (lv_at hl 1 rfl) ?_
  refine z_icmp_lt (tgt := 10) C (by omega) (by omega) dX3_checkRange_2 (by decide) (fun h2 => ?_) (fun h2 => ?_)
  · exact absurd h2 (by omega)
  · refine lv_iload_n C.1 C.2.1 dX3_checkRange_5 rfl (lv_at hl 0 rfl) ?_
    refine lv_iload_n C.1 C.2.1 dX3_checkRange_6 rfl (lv_at hl 2 rfl) ?_
    refine z_icmp_le (tgt := 20) C (by omega) (by omega) dX3_checkRange_7 (by decide) (fun h7 => ?_) (fun h7 => ?_)
    · exact z_vret C hr hk dX3_checkRange_20
    · exact absurd h7 (by omega)

set_option maxHeartbeats 4000000 in
set_option maxRecDepth 100000 in
theorem c_X3_hasDegreeIn (l : Launch) (n : Nat) (a : Int) (b : Int) (hn : n < 18446744073709551616) (hv : (-2147483648 ≤ a ∧ a ≤ 2147483647) ∧ -2147483648 ≤ b ∧ b ≤ 2147483647) : zP l yX3_hasDegreeIn 1 47 [.long (lN (n)), .int (iZ (a)), .int (iZ (b))] (.int (iZ (zB (decide (a ≤ tp n ∧ tp n ≤ b))))) := by
  refine zP.intro (lo := 23) (nA := 3) (own := RX3) zs_X3_hasDegreeIn (by decide) rfl rfl (by decide +kernel) rfl (Nat.le_of_ble_eq_true rfl) ?_
  intro p e s m below meth c ls C hr hk hl
  have hl : lv_has ls 5 [(0, .long (lN (n))), (2, .int (iZ (a))), (3, .int (iZ (b)))] := hl
  refine lv_lload_n C.1 C.2.1 dX3_hasDegreeIn_0 rfl (lv_at hl 0 rfl) ?_
  refine z_call C (c_X1_topPlace l (n) (by first | assumption | omega | rfl | exact decide_eq_false (by omega) | exact decide_eq_true (by assumption) | exact decide_eq_true (by omega) | exact one_shl33 (by omega) | exact pm_lt _ _ | exact rm_lt (by first | assumption | exact pm_lt _ _) | exact Nat.lt_of_le_of_lt (Nat.shiftRight_le _ _) (by assumption) | exact Nat.lt_of_le_of_lt Nat.and_le_right (by omega))) ml_X3_69 ⟨by decide, by decide⟩ ⟨Nat.le_refl _, Nat.le_refl _⟩ hl (Nat.le_of_ble_eq_true rfl) rfl dX3_hasDegreeIn_1 ?_
  have q1_0 := tp_rngE (n) (by first | assumption | omega)
  refine lv_istore (lv' := [(4, .int (iZ (tp (n)))), (0, .long (lN (n))), (2, .int (iZ (a))), (3, .int (iZ (b)))]) C.1 C.2.1 dX3_hasDegreeIn_4 hl (by decide) rfl (fun ls hl => ?_)
  refine lv_iload C.1 C.2.1 dX3_hasDegreeIn_6 (lv_at hl 0 rfl) ?_
  refine lv_iload_n C.1 C.2.1 dX3_hasDegreeIn_8 rfl (lv_at hl 2 rfl) ?_
  refine z_icmp_lt (tgt := 22) C (by omega) (by omega) dX3_hasDegreeIn_9 (by decide) (fun h9 => ?_) (fun h9 => ?_)
  · refine z_iconst C dX3_hasDegreeIn_22 ?_
    exact z_zret C hr hk dX3_hasDegreeIn_23 (by decide) (congrArg (fun z : Int => Value.int (iZ z)) (by exact zB_f (decide_eq_false (by omega))))
  · refine lv_iload C.1 C.2.1 dX3_hasDegreeIn_12 (lv_at hl 0 rfl) ?_
    refine lv_iload_n C.1 C.2.1 dX3_hasDegreeIn_14 rfl (lv_at hl 3 rfl) ?_
    refine z_icmp_gt (tgt := 22) C (by omega) (by omega) dX3_hasDegreeIn_15 (by decide) (fun h15 => ?_) (fun h15 => ?_)
    · refine z_iconst C dX3_hasDegreeIn_22 ?_
      exact z_zret C hr hk dX3_hasDegreeIn_23 (by decide) (congrArg (fun z : Int => Value.int (iZ z)) (by exact zB_f (decide_eq_false (by omega))))
    · refine z_iconst C dX3_hasDegreeIn_18 ?_
      refine lv_goto (tgt := 23) C.1 C.2.1 dX3_hasDegreeIn_19 (by decide) ?_
      exact z_zret C hr hk dX3_hasDegreeIn_23 (by decide) (congrArg (fun z : Int => Value.int (iZ z)) (by exact zB_t (decide_eq_true (by omega))))

set_option maxHeartbeats 4000000 in
set_option maxRecDepth 100000 in
theorem c_X3_polyIn (l : Launch) (D : va_G) (cJ : ClassId) (o a : Nat) (c : Nat → Nat) (ac : Int32) (re : Int32) (kn : Int32) (z : Int) (hz : 0 ≤ z ∧ z ≤ 5) : zA l yX3_polyIn 1 42 0 0 D 2 cJ o a [.int (iZ (z))] c [.int (ac), .int (re), .int (kn)] (fun v => v = some (.long (lN (c z.toNat)))) (c) [.int (ac), .int (re), .int (kn)] := by
  refine zA.intro (lo := 21) (nA := 1) (own := RX3) zi_X3_polyIn (by decide) rfl rfl (by decide +kernel) rfl (Nat.le_of_ble_eq_true rfl) ?_
  intro p e s m below meth c0 ls C hr hk B hl
  have hl : lv_has ls 2 [(0, .ref o), (1, .int (iZ (z)))] := hl
  refine lv_aload_n C.1 C.2.1 dX3_polyIn_0 rfl (lv_at hl 0 rfl) ?_
  refine lv_iload_n C.1 C.2.1 dX3_polyIn_1 rfl (lv_at hl 1 rfl) ?_
  refine zo_callD C B (r := none) (c_X3_checkCell l D cJ o a (c) (ac) (re) (kn) (z) (by first | assumption | omega | rfl | exact decide_eq_false (by omega) | exact decide_eq_true (by assumption) | exact decide_eq_true (by omega) | exact one_shl33 (by omega) | exact pm_lt _ _ | exact rm_lt (by first | assumption | exact pm_lt _ _) | exact Nat.lt_of_le_of_lt (Nat.shiftRight_le _ _) (by assumption) | exact Nat.lt_of_le_of_lt Nat.and_le_right (by omega))) ml_X3_23 rfl ⟨Nat.le_of_ble_eq_true rfl, Nat.le_of_ble_eq_true rfl⟩ ⟨Nat.le_of_ble_eq_true rfl, Nat.le_of_ble_eq_true rfl⟩ hl (Nat.le_of_ble_eq_true rfl) rfl dX3_polyIn_2 (fun H locs B => ?_)
  refine lv_aload_n C.1 C.2.1 dX3_polyIn_5 rfl (lv_at hl 0 rfl) ?_
  refine zo_get C B (Cn := RX3) (T := TX3) (N := 4) (v := .ref a) rfl inX3 0 (by decide) fl_X3_9 rfl rfl dX3_polyIn_6 ?_
  refine lv_iload_n C.1 C.2.1 dX3_polyIn_9 rfl (lv_at hl 1 rfl) ?_
  refine zo_lald C B ((z).toNat) (by omega) (by omega) dX3_polyIn_10 ?_
  have q10 := B.1.2.2.2 ((z).toNat)
  exact zo_lret C B hr hk (Nat.le_of_ble_eq_true rfl) (Nat.le_of_ble_eq_true rfl) dX3_polyIn_11 (by exact congrArg (fun z : Nat => some (Value.long (lN z))) (by rfl)) (by rfl) (by rfl)

set_option maxHeartbeats 4000000 in
set_option maxRecDepth 100000 in
theorem c_X3_fill (l : Launch) (D : va_G) (cJ : ClassId) (o a : Nat) (c : Nat → Nat) (ac : Int32) (re : Int32) (kn : Int32) (z : Int) (x : Nat) (hz : 0 ≤ z ∧ z ≤ 5) (hx : x < 8589934592) : zA l yX3_fill 2 66 0 0 D 2 cJ o a [.int (iZ (z)), .long (lN (x))] c [.int (ac), .int (re), .int (kn)] (fun v => v = some (.int (iZ (aR c z.toNat (some x))))) (aC c z.toNat (some x)) [.int (aA ac (some x)), .int (aF re (some x)), .int (kn)] := by
  refine zA.intro (lo := 42) (nA := 2) (own := RX3) zi_X3_fill (by decide) rfl rfl (by decide +kernel) rfl (Nat.le_of_ble_eq_true rfl) ?_
  intro p e s m below meth c0 ls C hr hk B hl
  have hl : lv_has ls 5 [(0, .ref o), (1, .int (iZ (z))), (2, .long (lN (x)))] := hl
  refine lv_aload_n C.1 C.2.1 dX3_fill_0 rfl (lv_at hl 0 rfl) ?_
  refine lv_iload_n C.1 C.2.1 dX3_fill_1 rfl (lv_at hl 1 rfl) ?_
  refine zo_callD C B (r := some (.long (lN ((c) (z).toNat)))) (c_X3_polyIn l D cJ o a (c) (ac) (re) (kn) (z) (by first | assumption | omega | rfl | exact decide_eq_false (by omega) | exact decide_eq_true (by assumption) | exact decide_eq_true (by omega) | exact one_shl33 (by omega) | exact pm_lt _ _ | exact rm_lt (by first | assumption | exact pm_lt _ _) | exact Nat.lt_of_le_of_lt (Nat.shiftRight_le _ _) (by assumption) | exact Nat.lt_of_le_of_lt Nat.and_le_right (by omega))) ml_X3_43 rfl ⟨Nat.le_of_ble_eq_true rfl, Nat.le_of_ble_eq_true rfl⟩ ⟨Nat.le_of_ble_eq_true rfl, Nat.le_of_ble_eq_true rfl⟩ hl (Nat.le_of_ble_eq_true rfl) rfl dX3_fill_2 (fun H locs B => ?_)
  have q2_0 := B.1.2.2.2 ((z)).toNat
  refine lv_lload_n C.1 C.2.1 dX3_fill_5 rfl (lv_at hl 2 rfl) ?_
  refine z_lc_eq (tgt := 14) C (by first | assumption | omega | rfl | exact decide_eq_false (by omega) | exact decide_eq_true (by assumption) | exact decide_eq_true (by omega) | exact one_shl33 (by omega) | exact pm_lt _ _ | exact rm_lt (by first | assumption | exact pm_lt _ _) | exact Nat.lt_of_le_of_lt (Nat.shiftRight_le _ _) (by assumption) | exact Nat.lt_of_le_of_lt Nat.and_le_right (by omega)) (by first | assumption | omega | rfl | exact decide_eq_false (by omega) | exact decide_eq_true (by assumption) | exact decide_eq_true (by omega) | exact one_shl33 (by omega) | exact pm_lt _ _ | exact rm_lt (by first | assumption | exact pm_lt _ _) | exact Nat.lt_of_le_of_lt (Nat.shiftRight_le _ _) (by assumption) | exact Nat.lt_of_le_of_lt Nat.and_le_right (by omega)) dX3_fill_6 dX3_fill_7 (by decide) (fun h6 => ?_) (fun h6 => ?_)
  · refine z_iconst C dX3_fill_14 ?_
    refine lv_istore (lv' := [(4, .int (iZ (0))), (0, .ref o), (1, .int (iZ (z))), (2, .long (lN (x)))]) C.1 C.2.1 dX3_fill_15 hl (by decide) rfl (fun ls hl => ?_)
    refine lv_aload_n C.1 C.2.1 dX3_fill_17 rfl (lv_at hl 1 rfl) ?_
    refine zo_get C B (Cn := RX3) (T := TX3) (N := 4) (v := .ref a) rfl inX3 0 (by decide) fl_X3_9 rfl rfl dX3_fill_18 ?_
    refine lv_iload_n C.1 C.2.1 dX3_fill_21 rfl (lv_at hl 2 rfl) ?_
    refine lv_lload_n C.1 C.2.1 dX3_fill_22 rfl (lv_at hl 3 rfl) ?_
    refine zo_last C B ((z).toNat) (by omega) (by omega) (by first | assumption | omega | rfl | exact decide_eq_false (by omega) | exact decide_eq_true (by assumption) | exact decide_eq_true (by omega) | exact one_shl33 (by omega) | exact pm_lt _ _ | exact rm_lt (by first | assumption | exact pm_lt _ _) | exact Nat.lt_of_le_of_lt (Nat.shiftRight_le _ _) (by assumption) | exact Nat.lt_of_le_of_lt Nat.and_le_right (by omega)) dX3_fill_23 (fun H locs B => ?_)
    refine lv_aload_n C.1 C.2.1 dX3_fill_24 rfl (lv_at hl 1 rfl) ?_
    refine lv_dup C.1 C.2.1 dX3_fill_25 rfl ?_
    refine zo_get C B (Cn := RX3) (T := TX3) (N := 4) (v := .int ((ac))) rfl inX3 1 (by decide) fl_X3_13 rfl rfl dX3_fill_26 ?_
    refine z_iconst C dX3_fill_29 ?_
    refine lv_iadd C.1 C.2.1 dX3_fill_30 ?_
    refine zo_put C B (Cn := RX3) (T := TX3) (N := 4) (fs2 := [.int (((ac)) + iZ (1)), .int ((re)), .int ((kn))]) rfl inX3 tyX3 tyX3_ok nmX3 0 (by decide) fl_X3_13 rfl rfl (by decide +kernel) (Nat.le_of_ble_eq_true rfl) rfl dX3_fill_31 (fun H locs B => ?_)
    refine lv_iload C.1 C.2.1 dX3_fill_34 (lv_at hl 0 rfl) ?_
    refine z_if_eq (tgt := 43) C (by omega) dX3_fill_36 (by decide) (fun h36 => ?_) (fun h36 => ?_)
    · refine z_iconst C dX3_fill_43 ?_
      exact zo_iret C B hr hk (Nat.le_of_ble_eq_true rfl) (Nat.le_of_ble_eq_true rfl) dX3_fill_44 (by exact congrArg (fun z : Int => some (Value.int (iZ z))) (by exact (if_pos h6).symm)) (by rfl) (by rfl)
    · refine z_iconst C dX3_fill_39 ?_
      refine lv_goto (tgt := 44) C.1 C.2.1 dX3_fill_40 (by decide) ?_
      exact zo_iret C B hr hk (Nat.le_of_ble_eq_true rfl) (Nat.le_of_ble_eq_true rfl) dX3_fill_44 (by exact congrArg (fun z : Int => some (Value.int (iZ z))) (by exact absurd h36 (by decide))) (by rfl) (by rfl)
  · refine z_iconst C dX3_fill_10 ?_
    refine lv_goto (tgt := 15) C.1 C.2.1 dX3_fill_11 (by decide) ?_
    refine lv_istore (lv' := [(4, .int (iZ (1))), (0, .ref o), (1, .int (iZ (z))), (2, .long (lN (x)))]) C.1 C.2.1 dX3_fill_15 hl (by decide) rfl (fun ls hl => ?_)
    refine lv_aload_n C.1 C.2.1 dX3_fill_17 rfl (lv_at hl 1 rfl) ?_
    refine zo_get C B (Cn := RX3) (T := TX3) (N := 4) (v := .ref a) rfl inX3 0 (by decide) fl_X3_9 rfl rfl dX3_fill_18 ?_
    refine lv_iload_n C.1 C.2.1 dX3_fill_21 rfl (lv_at hl 2 rfl) ?_
    refine lv_lload_n C.1 C.2.1 dX3_fill_22 rfl (lv_at hl 3 rfl) ?_
    refine zo_last C B ((z).toNat) (by omega) (by omega) (by first | assumption | omega | rfl | exact decide_eq_false (by omega) | exact decide_eq_true (by assumption) | exact decide_eq_true (by omega) | exact one_shl33 (by omega) | exact pm_lt _ _ | exact rm_lt (by first | assumption | exact pm_lt _ _) | exact Nat.lt_of_le_of_lt (Nat.shiftRight_le _ _) (by assumption) | exact Nat.lt_of_le_of_lt Nat.and_le_right (by omega)) dX3_fill_23 (fun H locs B => ?_)
    refine lv_aload_n C.1 C.2.1 dX3_fill_24 rfl (lv_at hl 1 rfl) ?_
    refine lv_dup C.1 C.2.1 dX3_fill_25 rfl ?_
    refine zo_get C B (Cn := RX3) (T := TX3) (N := 4) (v := .int ((ac))) rfl inX3 1 (by decide) fl_X3_13 rfl rfl dX3_fill_26 ?_
    refine z_iconst C dX3_fill_29 ?_
    refine lv_iadd C.1 C.2.1 dX3_fill_30 ?_
    refine zo_put C B (Cn := RX3) (T := TX3) (N := 4) (fs2 := [.int (((ac)) + iZ (1)), .int ((re)), .int ((kn))]) rfl inX3 tyX3 tyX3_ok nmX3 0 (by decide) fl_X3_13 rfl rfl (by decide +kernel) (Nat.le_of_ble_eq_true rfl) rfl dX3_fill_31 (fun H locs B => ?_)
    refine lv_iload C.1 C.2.1 dX3_fill_34 (lv_at hl 0 rfl) ?_
    refine z_if_eq (tgt := 43) C (by omega) dX3_fill_36 (by decide) (fun h36 => ?_) (fun h36 => ?_)
    · refine z_iconst C dX3_fill_43 ?_
      exact zo_iret C B hr hk (Nat.le_of_ble_eq_true rfl) (Nat.le_of_ble_eq_true rfl) dX3_fill_44 (by exact congrArg (fun z : Int => some (Value.int (iZ z))) (by exact absurd h36 (by decide))) (by rfl) (by rfl)
    · refine z_iconst C dX3_fill_39 ?_
      refine lv_goto (tgt := 44) C.1 C.2.1 dX3_fill_40 (by decide) ?_
      exact zo_iret C B hr hk (Nat.le_of_ble_eq_true rfl) (Nat.le_of_ble_eq_true rfl) dX3_fill_44 (by exact congrArg (fun z : Int => some (Value.int (iZ z))) (by exact (if_neg h6).symm)) (by rfl) (by rfl)

set_option maxHeartbeats 4000000 in
set_option maxRecDepth 100000 in
theorem c_X3_refuse (l : Launch) (D : va_G) (cJ : ClassId) (o a : Nat) (c : Nat → Nat) (ac : Int32) (re : Int32) (kn : Int32)  : zA l yX3_refuse 0 20 0 0 D 2 cJ o a [] c [.int (ac), .int (re), .int (kn)] (fun v => v = some (.int (iZ (-9)))) (c) [.int (ac), .int (aF re none), .int (kn)] := by
  refine zA.intro (lo := 0) (nA := 0) (own := RX3) zi_X3_refuse (by decide) rfl rfl (by decide +kernel) rfl (Nat.le_of_ble_eq_true rfl) ?_
  intro p e s m below meth c0 ls C hr hk B hl
  have hl : lv_has ls 1 [(0, .ref o)] := hl
  refine lv_aload_n C.1 C.2.1 dX3_refuse_0 rfl (lv_at hl 0 rfl) ?_
  refine lv_dup C.1 C.2.1 dX3_refuse_1 rfl ?_
  refine zo_get C B (Cn := RX3) (T := TX3) (N := 4) (v := .int (re)) rfl inX3 2 (by decide) fl_X3_17 rfl rfl dX3_refuse_2 ?_
  refine z_iconst C dX3_refuse_5 ?_
  refine lv_iadd C.1 C.2.1 dX3_refuse_6 ?_
  refine zo_put C B (Cn := RX3) (T := TX3) (N := 4) (fs2 := [.int (ac), .int ((re) + iZ (1)), .int (kn)]) rfl inX3 tyX3 tyX3_ok nmX3 1 (by decide) fl_X3_17 rfl rfl (by decide +kernel) (Nat.le_of_ble_eq_true rfl) rfl dX3_refuse_7 (fun H locs B => ?_)
  refine z_bipush C dX3_refuse_10 (by decide) ?_
  exact zo_iret C B hr hk (Nat.le_of_ble_eq_true rfl) (Nat.le_of_ble_eq_true rfl) dX3_refuse_12 (by exact congrArg (fun z : Int => some (Value.int (iZ z))) (by rfl)) (by rfl) (by rfl)

set_option maxHeartbeats 4000000 in
set_option maxRecDepth 100000 in
theorem c_X3_fillProduct (l : Launch) (D : va_G) (cJ : ClassId) (o a : Nat) (c : Nat → Nat) (ac : Int32) (re : Int32) (kn : Int32) (z : Int) (x : Nat) (y : Nat) (hz : 0 ≤ z ∧ z ≤ 5) (hx : x < 8589934592) (hy : y < 8589934592) : zA l yX3_fillProduct 3 91 0 0 D 2 cJ o a [.int (iZ (z)), .long (lN (x)), .long (lN (y))] c [.int (ac), .int (re), .int (kn)] (fun v => v = some (.int (iZ (aR c (z.toNat) (wT x y))))) (aC c (z.toNat) (wT x y)) [.int (aA ac (wT x y)), .int (aF re (wT x y)), .int (kn)] := by
  refine zA.intro (lo := 66) (nA := 3) (own := RX3) zi_X3_fillProduct (by decide) rfl rfl (by decide +kernel) rfl (Nat.le_of_ble_eq_true rfl) ?_
  intro p e s m below meth c0 ls C hr hk B hl
  have hl : lv_has ls 6 [(0, .ref o), (1, .int (iZ (z))), (2, .long (lN (x))), (4, .long (lN (y)))] := hl
  refine lv_lload_n C.1 C.2.1 dX3_fillProduct_0 rfl (lv_at hl 2 rfl) ?_
  refine z_lconst (k0 := 0) C dX3_fillProduct_1 rfl ?_
  refine z_lc_eq (tgt := 33) C (by first | assumption | omega | rfl | exact decide_eq_false (by omega) | exact decide_eq_true (by assumption) | exact decide_eq_true (by omega) | exact one_shl33 (by omega) | exact pm_lt _ _ | exact rm_lt (by first | assumption | exact pm_lt _ _) | exact Nat.lt_of_le_of_lt (Nat.shiftRight_le _ _) (by assumption) | exact Nat.lt_of_le_of_lt Nat.and_le_right (by omega)) (by first | assumption | omega | rfl | exact decide_eq_false (by omega) | exact decide_eq_true (by assumption) | exact decide_eq_true (by omega) | exact one_shl33 (by omega) | exact pm_lt _ _ | exact rm_lt (by first | assumption | exact pm_lt _ _) | exact Nat.lt_of_le_of_lt (Nat.shiftRight_le _ _) (by assumption) | exact Nat.lt_of_le_of_lt Nat.and_le_right (by omega)) dX3_fillProduct_2 dX3_fillProduct_3 (by decide) (fun h2 => ?_) (fun h2 => ?_)
  · refine lv_aload_n C.1 C.2.1 dX3_fillProduct_33 rfl (lv_at hl 0 rfl) ?_
    refine lv_iload_n C.1 C.2.1 dX3_fillProduct_34 rfl (lv_at hl 1 rfl) ?_
    refine lv_lload_n C.1 C.2.1 dX3_fillProduct_35 rfl (lv_at hl 2 rfl) ?_
    refine lv_lload C.1 C.2.1 dX3_fillProduct_36 (lv_at hl 3 rfl) ?_
    refine z_call C (c_X1_product l (x) (y) (by first | assumption | omega | rfl | exact decide_eq_false (by omega) | exact decide_eq_true (by assumption) | exact decide_eq_true (by omega) | exact one_shl33 (by omega) | exact pm_lt _ _ | exact rm_lt (by first | assumption | exact pm_lt _ _) | exact Nat.lt_of_le_of_lt (Nat.shiftRight_le _ _) (by assumption) | exact Nat.lt_of_le_of_lt Nat.and_le_right (by omega))) ml_X3_169 ⟨by decide, by decide⟩ ⟨Nat.le_of_ble_eq_true rfl, Nat.le_of_ble_eq_true rfl⟩ hl (Nat.le_of_ble_eq_true rfl) rfl dX3_fillProduct_38 ?_
    refine zo_callD C B (r := some (.int (iZ (aR (c) (z).toNat (some (pm (x) (y))))))) (c_X3_fill l D cJ o a (c) (ac) (re) (kn) (z) (pm (x) (y)) (by omega) (by exact pm33b hx hy (Or.inl h2))) ml_X3_29 rfl ⟨Nat.le_of_ble_eq_true rfl, Nat.le_of_ble_eq_true rfl⟩ ⟨Nat.le_of_ble_eq_true rfl, Nat.le_of_ble_eq_true rfl⟩ hl (Nat.le_of_ble_eq_true rfl) rfl dX3_fillProduct_41 (fun H locs B => ?_)
    have q41_0 := aR_rng ((c)) (z).toNat (some (pm (x) (y)))
    have hw : (wT x y) = some (pm (x) (y)) := by exact wT_0 (Or.inl h2)
    exact zo_iret C B hr hk (Nat.le_of_ble_eq_true rfl) (Nat.le_of_ble_eq_true rfl) dX3_fillProduct_44 (by show some _ = some _; rw [hw] <;> rfl) (by rw [hw] <;> rfl) (by rw [hw] <;> rfl)
  · refine lv_lload C.1 C.2.1 dX3_fillProduct_6 (lv_at hl 3 rfl) ?_
    refine z_lconst (k0 := 0) C dX3_fillProduct_8 rfl ?_
    refine z_lc_eq (tgt := 33) C (by first | assumption | omega | rfl | exact decide_eq_false (by omega) | exact decide_eq_true (by assumption) | exact decide_eq_true (by omega) | exact one_shl33 (by omega) | exact pm_lt _ _ | exact rm_lt (by first | assumption | exact pm_lt _ _) | exact Nat.lt_of_le_of_lt (Nat.shiftRight_le _ _) (by assumption) | exact Nat.lt_of_le_of_lt Nat.and_le_right (by omega)) (by first | assumption | omega | rfl | exact decide_eq_false (by omega) | exact decide_eq_true (by assumption) | exact decide_eq_true (by omega) | exact one_shl33 (by omega) | exact pm_lt _ _ | exact rm_lt (by first | assumption | exact pm_lt _ _) | exact Nat.lt_of_le_of_lt (Nat.shiftRight_le _ _) (by assumption) | exact Nat.lt_of_le_of_lt Nat.and_le_right (by omega)) dX3_fillProduct_9 dX3_fillProduct_10 (by decide) (fun h9 => ?_) (fun h9 => ?_)
    · refine lv_aload_n C.1 C.2.1 dX3_fillProduct_33 rfl (lv_at hl 0 rfl) ?_
      refine lv_iload_n C.1 C.2.1 dX3_fillProduct_34 rfl (lv_at hl 1 rfl) ?_
      refine lv_lload_n C.1 C.2.1 dX3_fillProduct_35 rfl (lv_at hl 2 rfl) ?_
      refine lv_lload C.1 C.2.1 dX3_fillProduct_36 (lv_at hl 3 rfl) ?_
      refine z_call C (c_X1_product l (x) (y) (by first | assumption | omega | rfl | exact decide_eq_false (by omega) | exact decide_eq_true (by assumption) | exact decide_eq_true (by omega) | exact one_shl33 (by omega) | exact pm_lt _ _ | exact rm_lt (by first | assumption | exact pm_lt _ _) | exact Nat.lt_of_le_of_lt (Nat.shiftRight_le _ _) (by assumption) | exact Nat.lt_of_le_of_lt Nat.and_le_right (by omega))) ml_X3_169 ⟨by decide, by decide⟩ ⟨Nat.le_of_ble_eq_true rfl, Nat.le_of_ble_eq_true rfl⟩ hl (Nat.le_of_ble_eq_true rfl) rfl dX3_fillProduct_38 ?_
      refine zo_callD C B (r := some (.int (iZ (aR (c) (z).toNat (some (pm (x) (y))))))) (c_X3_fill l D cJ o a (c) (ac) (re) (kn) (z) (pm (x) (y)) (by omega) (by exact pm33b hx hy (Or.inr (Or.inl h9)))) ml_X3_29 rfl ⟨Nat.le_of_ble_eq_true rfl, Nat.le_of_ble_eq_true rfl⟩ ⟨Nat.le_of_ble_eq_true rfl, Nat.le_of_ble_eq_true rfl⟩ hl (Nat.le_of_ble_eq_true rfl) rfl dX3_fillProduct_41 (fun H locs B => ?_)
      have q41_0 := aR_rng ((c)) (z).toNat (some (pm (x) (y)))
      have hw : (wT x y) = some (pm (x) (y)) := by exact wT_0 (Or.inr (Or.inl h9))
      exact zo_iret C B hr hk (Nat.le_of_ble_eq_true rfl) (Nat.le_of_ble_eq_true rfl) dX3_fillProduct_44 (by show some _ = some _; rw [hw] <;> rfl) (by rw [hw] <;> rfl) (by rw [hw] <;> rfl)
    · refine lv_lload_n C.1 C.2.1 dX3_fillProduct_13 rfl (lv_at hl 2 rfl) ?_
      refine z_call C (c_X1_topPlace l (x) (by first | assumption | omega | rfl | exact decide_eq_false (by omega) | exact decide_eq_true (by assumption) | exact decide_eq_true (by omega) | exact one_shl33 (by omega) | exact pm_lt _ _ | exact rm_lt (by first | assumption | exact pm_lt _ _) | exact Nat.lt_of_le_of_lt (Nat.shiftRight_le _ _) (by assumption) | exact Nat.lt_of_le_of_lt Nat.and_le_right (by omega))) ml_X3_69 ⟨by decide, by decide⟩ ⟨Nat.le_of_ble_eq_true rfl, Nat.le_of_ble_eq_true rfl⟩ hl (Nat.le_of_ble_eq_true rfl) rfl dX3_fillProduct_14 ?_
      have q14_0 := tp_rngE (x) (by first | assumption | omega)
      refine lv_lload C.1 C.2.1 dX3_fillProduct_17 (lv_at hl 3 rfl) ?_
      refine z_call C (c_X1_topPlace l (y) (by first | assumption | omega | rfl | exact decide_eq_false (by omega) | exact decide_eq_true (by assumption) | exact decide_eq_true (by omega) | exact one_shl33 (by omega) | exact pm_lt _ _ | exact rm_lt (by first | assumption | exact pm_lt _ _) | exact Nat.lt_of_le_of_lt (Nat.shiftRight_le _ _) (by assumption) | exact Nat.lt_of_le_of_lt Nat.and_le_right (by omega))) ml_X3_69 ⟨by decide, by decide⟩ ⟨Nat.le_of_ble_eq_true rfl, Nat.le_of_ble_eq_true rfl⟩ hl (Nat.le_of_ble_eq_true rfl) rfl dX3_fillProduct_19 ?_
      have q19_0 := tp_rngE (y) (by first | assumption | omega)
      refine z_iadd C dX3_fillProduct_22 ?_
      refine z_bipush C dX3_fillProduct_23 (by decide) ?_
      refine z_icmp_le (tgt := 33) C (by omega) (by omega) dX3_fillProduct_25 (by decide) (fun h25 => ?_) (fun h25 => ?_)
      · refine lv_aload_n C.1 C.2.1 dX3_fillProduct_33 rfl (lv_at hl 0 rfl) ?_
        refine lv_iload_n C.1 C.2.1 dX3_fillProduct_34 rfl (lv_at hl 1 rfl) ?_
        refine lv_lload_n C.1 C.2.1 dX3_fillProduct_35 rfl (lv_at hl 2 rfl) ?_
        refine lv_lload C.1 C.2.1 dX3_fillProduct_36 (lv_at hl 3 rfl) ?_
        refine z_call C (c_X1_product l (x) (y) (by first | assumption | omega | rfl | exact decide_eq_false (by omega) | exact decide_eq_true (by assumption) | exact decide_eq_true (by omega) | exact one_shl33 (by omega) | exact pm_lt _ _ | exact rm_lt (by first | assumption | exact pm_lt _ _) | exact Nat.lt_of_le_of_lt (Nat.shiftRight_le _ _) (by assumption) | exact Nat.lt_of_le_of_lt Nat.and_le_right (by omega))) ml_X3_169 ⟨by decide, by decide⟩ ⟨Nat.le_of_ble_eq_true rfl, Nat.le_of_ble_eq_true rfl⟩ hl (Nat.le_of_ble_eq_true rfl) rfl dX3_fillProduct_38 ?_
        refine zo_callD C B (r := some (.int (iZ (aR (c) (z).toNat (some (pm (x) (y))))))) (c_X3_fill l D cJ o a (c) (ac) (re) (kn) (z) (pm (x) (y)) (by omega) (by exact pm33b hx hy (Or.inr (Or.inr (by omega))))) ml_X3_29 rfl ⟨Nat.le_of_ble_eq_true rfl, Nat.le_of_ble_eq_true rfl⟩ ⟨Nat.le_of_ble_eq_true rfl, Nat.le_of_ble_eq_true rfl⟩ hl (Nat.le_of_ble_eq_true rfl) rfl dX3_fillProduct_41 (fun H locs B => ?_)
        have q41_0 := aR_rng ((c)) (z).toNat (some (pm (x) (y)))
        have hw : (wT x y) = some (pm (x) (y)) := by exact wT_0 (Or.inr (Or.inr (by omega)))
        exact zo_iret C B hr hk (Nat.le_of_ble_eq_true rfl) (Nat.le_of_ble_eq_true rfl) dX3_fillProduct_44 (by show some _ = some _; rw [hw] <;> rfl) (by rw [hw] <;> rfl) (by rw [hw] <;> rfl)
      · refine lv_aload_n C.1 C.2.1 dX3_fillProduct_28 rfl (lv_at hl 0 rfl) ?_
        refine zo_callD C B (r := some (.int (iZ (-9)))) (c_X3_refuse l D cJ o a (c) (ac) (re) (kn)  ) ml_X3_73 rfl ⟨Nat.le_of_ble_eq_true rfl, Nat.le_of_ble_eq_true rfl⟩ ⟨Nat.le_of_ble_eq_true rfl, Nat.le_of_ble_eq_true rfl⟩ hl (Nat.le_of_ble_eq_true rfl) rfl dX3_fillProduct_29 (fun H locs B => ?_)
        have hw : (wT x y) = none := by exact if_pos ⟨h2, h9, by omega⟩
        exact zo_iret C B hr hk (Nat.le_of_ble_eq_true rfl) (Nat.le_of_ble_eq_true rfl) dX3_fillProduct_32 (by show some _ = some _; rw [hw] <;> rfl) (by rw [hw] <;> rfl) (by rw [hw] <;> rfl)

set_option maxHeartbeats 4000000 in
set_option maxRecDepth 100000 in
theorem c_X3_put (l : Launch) (D : va_G) (cJ : ClassId) (o a : Nat) (c : Nat → Nat) (ac : Int32) (re : Int32) (kn : Int32) (z : Int) (g : Int) (hz : 0 ≤ z ∧ z ≤ 5) (hg : -2147483648 ≤ g ∧ g ≤ 2147483647) : zA l yX3_put 3 88 0 0 D 2 cJ o a [.int (iZ (z)), .int (iZ (g))] c [.int (ac), .int (re), .int (kn)] (fun v => v = some (.int (iZ (aR c (z.toNat) (some ((g % 18446744073709551616).toNat &&& 4294967295)))))) (aC c (z.toNat) (some ((g % 18446744073709551616).toNat &&& 4294967295))) [.int (aA ac (some ((g % 18446744073709551616).toNat &&& 4294967295))), .int (aF re (some ((g % 18446744073709551616).toNat &&& 4294967295))), .int (kn)] := by
  refine zA.intro (lo := 66) (nA := 2) (own := RX3) zi_X3_put (by decide) rfl rfl (by decide +kernel) rfl (Nat.le_of_ble_eq_true rfl) ?_
  intro p e s m below meth c0 ls C hr hk B hl
  have hl : lv_has ls 3 [(0, .ref o), (1, .int (iZ (z))), (2, .int (iZ (g)))] := hl
  refine lv_aload_n C.1 C.2.1 dX3_put_0 rfl (lv_at hl 0 rfl) ?_
  refine lv_iload_n C.1 C.2.1 dX3_put_1 rfl (lv_at hl 1 rfl) ?_
  refine zo_callD C B (r := none) (c_X3_checkCell l D cJ o a (c) (ac) (re) (kn) (z) (by first | assumption | omega | rfl | exact decide_eq_false (by omega) | exact decide_eq_true (by assumption) | exact decide_eq_true (by omega) | exact one_shl33 (by omega) | exact pm_lt _ _ | exact rm_lt (by first | assumption | exact pm_lt _ _) | exact Nat.lt_of_le_of_lt (Nat.shiftRight_le _ _) (by assumption) | exact Nat.lt_of_le_of_lt Nat.and_le_right (by omega))) ml_X3_23 rfl ⟨Nat.le_of_ble_eq_true rfl, Nat.le_of_ble_eq_true rfl⟩ ⟨Nat.le_of_ble_eq_true rfl, Nat.le_of_ble_eq_true rfl⟩ hl (Nat.le_of_ble_eq_true rfl) rfl dX3_put_2 (fun H locs B => ?_)
  refine lv_aload_n C.1 C.2.1 dX3_put_5 rfl (lv_at hl 0 rfl) ?_
  refine lv_iload_n C.1 C.2.1 dX3_put_6 rfl (lv_at hl 1 rfl) ?_
  refine lv_iload_n C.1 C.2.1 dX3_put_7 rfl (lv_at hl 2 rfl) ?_
  refine z_i2lA C (by omega) dX3_put_8 ?_
  refine z_ldc2 C 4294967295 (T0_of kl_X3_27 rfl) (by decide) dX3_put_9 ?_
  refine z_land C dX3_put_12 ?_
  refine zo_callD C B (r := some (.int (iZ (aR (c) (z).toNat (some ((((g) % 18446744073709551616).toNat) &&& (4294967295))))))) (c_X3_fill l D cJ o a (c) ((ac)) ((re)) ((kn)) (z) ((((g) % 18446744073709551616).toNat) &&& (4294967295)) (by omega) (by exact Nat.lt_of_le_of_lt Nat.and_le_right (by omega))) ml_X3_29 rfl ⟨Nat.le_of_ble_eq_true rfl, Nat.le_of_ble_eq_true rfl⟩ ⟨Nat.le_of_ble_eq_true rfl, Nat.le_of_ble_eq_true rfl⟩ hl (Nat.le_of_ble_eq_true rfl) rfl dX3_put_13 (fun H locs B => ?_)
  have q13_0 := aR_rng ((c)) (z).toNat (some ((((g) % 18446744073709551616).toNat) &&& (4294967295)))
  have hw : (some ((g % 18446744073709551616).toNat &&& 4294967295)) = some ((((g) % 18446744073709551616).toNat) &&& (4294967295)) := by rfl
  exact zo_iret C B hr hk (Nat.le_of_ble_eq_true rfl) (Nat.le_of_ble_eq_true rfl) dX3_put_16 (by show some _ = some _; rw [hw] <;> rfl) (by rw [hw] <;> rfl) (by rw [hw] <;> rfl)

set_option maxHeartbeats 4000000 in
set_option maxRecDepth 100000 in
theorem c_X3_mono (l : Launch) (D : va_G) (cJ : ClassId) (o a : Nat) (c : Nat → Nat) (ac : Int32) (re : Int32) (kn : Int32) (z : Int) (g : Int) (hz : 0 ≤ z ∧ z ≤ 5) (hg : 0 ≤ g ∧ g ≤ 32) : zA l yX3_mono 3 88 0 0 D 2 cJ o a [.int (iZ (z)), .int (iZ (g))] c [.int (ac), .int (re), .int (kn)] (fun v => v = some (.int (iZ (aR c (z.toNat) (some (1 <<< g.toNat)))))) (aC c (z.toNat) (some (1 <<< g.toNat))) [.int (aA ac (some (1 <<< g.toNat))), .int (aF re (some (1 <<< g.toNat))), .int (kn)] := by
  refine zA.intro (lo := 66) (nA := 2) (own := RX3) zi_X3_mono (by decide) rfl rfl (by decide +kernel) rfl (Nat.le_of_ble_eq_true rfl) ?_
  intro p e s m below meth c0 ls C hr hk B hl
  have hl : lv_has ls 3 [(0, .ref o), (1, .int (iZ (z))), (2, .int (iZ (g)))] := hl
  refine lv_aload_n C.1 C.2.1 dX3_mono_0 rfl (lv_at hl 0 rfl) ?_
  refine lv_iload_n C.1 C.2.1 dX3_mono_1 rfl (lv_at hl 1 rfl) ?_
  refine zo_callD C B (r := none) (c_X3_checkCell l D cJ o a (c) (ac) (re) (kn) (z) (by first | assumption | omega | rfl | exact decide_eq_false (by omega) | exact decide_eq_true (by assumption) | exact decide_eq_true (by omega) | exact one_shl33 (by omega) | exact pm_lt _ _ | exact rm_lt (by first | assumption | exact pm_lt _ _) | exact Nat.lt_of_le_of_lt (Nat.shiftRight_le _ _) (by assumption) | exact Nat.lt_of_le_of_lt Nat.and_le_right (by omega))) ml_X3_23 rfl ⟨Nat.le_of_ble_eq_true rfl, Nat.le_of_ble_eq_true rfl⟩ ⟨Nat.le_of_ble_eq_true rfl, Nat.le_of_ble_eq_true rfl⟩ hl (Nat.le_of_ble_eq_true rfl) rfl dX3_mono_2 (fun H locs B => ?_)
  refine lv_iload_n C.1 C.2.1 dX3_mono_5 rfl (lv_at hl 2 rfl) ?_
  refine z_iconst C dX3_mono_6 ?_
  refine z_bipush C dX3_mono_7 (by decide) ?_
  refine z_callv C (c_X3_checkRange l (g) (0 : Int) (32 : Int) (by first | assumption | omega | rfl | exact decide_eq_false (by omega) | exact decide_eq_true (by assumption) | exact decide_eq_true (by omega) | exact one_shl33 (by omega) | exact pm_lt _ _ | exact rm_lt (by first | assumption | exact pm_lt _ _) | exact Nat.lt_of_le_of_lt (Nat.shiftRight_le _ _) (by assumption) | exact Nat.lt_of_le_of_lt Nat.and_le_right (by omega))) ml_X3_33 ⟨by decide, by decide⟩ ⟨Nat.le_of_ble_eq_true rfl, Nat.le_of_ble_eq_true rfl⟩ hl (Nat.le_of_ble_eq_true rfl) rfl dX3_mono_9 ?_
  refine lv_aload_n C.1 C.2.1 dX3_mono_12 rfl (lv_at hl 0 rfl) ?_
  refine lv_iload_n C.1 C.2.1 dX3_mono_13 rfl (lv_at hl 1 rfl) ?_
  refine lv_iload_n C.1 C.2.1 dX3_mono_14 rfl (lv_at hl 2 rfl) ?_
  refine z_call C (c_X1_single l (g) (by first | assumption | omega | rfl | exact decide_eq_false (by omega) | exact decide_eq_true (by assumption) | exact decide_eq_true (by omega) | exact one_shl33 (by omega) | exact pm_lt _ _ | exact rm_lt (by first | assumption | exact pm_lt _ _) | exact Nat.lt_of_le_of_lt (Nat.shiftRight_le _ _) (by assumption) | exact Nat.lt_of_le_of_lt Nat.and_le_right (by omega))) ml_X3_37 ⟨by decide, by decide⟩ ⟨Nat.le_of_ble_eq_true rfl, Nat.le_of_ble_eq_true rfl⟩ hl (Nat.le_of_ble_eq_true rfl) rfl dX3_mono_15 ?_
  refine zo_callD C B (r := some (.int (iZ (aR (c) (z).toNat (some (1 <<< (g).toNat)))))) (c_X3_fill l D cJ o a (c) ((ac)) ((re)) ((kn)) (z) (1 <<< (g).toNat) (by first | assumption | omega | rfl | exact decide_eq_false (by omega) | exact decide_eq_true (by assumption) | exact decide_eq_true (by omega) | exact one_shl33 (by omega) | exact pm_lt _ _ | exact rm_lt (by first | assumption | exact pm_lt _ _) | exact Nat.lt_of_le_of_lt (Nat.shiftRight_le _ _) (by assumption) | exact Nat.lt_of_le_of_lt Nat.and_le_right (by omega)) (by first | assumption | omega | rfl | exact decide_eq_false (by omega) | exact decide_eq_true (by assumption) | exact decide_eq_true (by omega) | exact one_shl33 (by omega) | exact pm_lt _ _ | exact rm_lt (by first | assumption | exact pm_lt _ _) | exact Nat.lt_of_le_of_lt (Nat.shiftRight_le _ _) (by assumption) | exact Nat.lt_of_le_of_lt Nat.and_le_right (by omega))) ml_X3_29 rfl ⟨Nat.le_of_ble_eq_true rfl, Nat.le_of_ble_eq_true rfl⟩ ⟨Nat.le_of_ble_eq_true rfl, Nat.le_of_ble_eq_true rfl⟩ hl (Nat.le_of_ble_eq_true rfl) rfl dX3_mono_18 (fun H locs B => ?_)
  have q18_0 := aR_rng ((c)) (z).toNat (some (1 <<< (g).toNat))
  have hw : (some (1 <<< g.toNat)) = some (1 <<< (g).toNat) := by rfl
  exact zo_iret C B hr hk (Nat.le_of_ble_eq_true rfl) (Nat.le_of_ble_eq_true rfl) dX3_mono_21 (by show some _ = some _; rw [hw] <;> rfl) (by rw [hw] <;> rfl) (by rw [hw] <;> rfl)

set_option maxHeartbeats 4000000 in
set_option maxRecDepth 100000 in
theorem c_X3_digit (l : Launch) (D : va_G) (cJ : ClassId) (o a : Nat) (c : Nat → Nat) (ac : Int32) (re : Int32) (kn : Int32) (z : Int) (g : Int) (b : Bool) (hz : 0 ≤ z ∧ z ≤ 5) (hg : 0 ≤ g ∧ g ≤ 32) : zA l yX3_digit 3 91 0 0 D 2 cJ o a [.int (iZ (z)), .int (iZ (g)), .int (iZ (zB (b)))] c [.int (ac), .int (re), .int (kn)] (fun v => v = some (.int (iZ (zB (tb (c z.toNat) g))))) (aC c z.toNat (some (dg (c z.toNat) g b))) [.int (aA ac (some 0)), .int (re), .int (kn)] := by
  refine zA.intro (lo := 66) (nA := 3) (own := RX3) zi_X3_digit (by decide) rfl rfl (by decide +kernel) rfl (Nat.le_of_ble_eq_true rfl) ?_
  intro p e s m below meth c0 ls C hr hk B hl
  have hl : lv_has ls 6 [(0, .ref o), (1, .int (iZ (z))), (2, .int (iZ (g))), (3, .int (iZ (zB (b))))] := hl
  refine lv_aload_n C.1 C.2.1 dX3_digit_0 rfl (lv_at hl 0 rfl) ?_
  refine lv_iload_n C.1 C.2.1 dX3_digit_1 rfl (lv_at hl 1 rfl) ?_
  refine zo_callD C B (r := some (.long (lN ((c) (z).toNat)))) (c_X3_polyIn l D cJ o a (c) (ac) (re) (kn) (z) (by first | assumption | omega | rfl | exact decide_eq_false (by omega) | exact decide_eq_true (by assumption) | exact decide_eq_true (by omega) | exact one_shl33 (by omega) | exact pm_lt _ _ | exact rm_lt (by first | assumption | exact pm_lt _ _) | exact Nat.lt_of_le_of_lt (Nat.shiftRight_le _ _) (by assumption) | exact Nat.lt_of_le_of_lt Nat.and_le_right (by omega))) ml_X3_43 rfl ⟨Nat.le_of_ble_eq_true rfl, Nat.le_of_ble_eq_true rfl⟩ ⟨Nat.le_of_ble_eq_true rfl, Nat.le_of_ble_eq_true rfl⟩ hl (Nat.le_of_ble_eq_true rfl) rfl dX3_digit_2 (fun H locs B => ?_)
  have q2_0 := B.1.2.2.2 ((z)).toNat
  refine lv_lstore (lv' := [(4, .long (lN ((c) (z).toNat))), (0, .ref o), (1, .int (iZ (z))), (2, .int (iZ (g))), (3, .int (iZ (zB (b))))]) C.1 C.2.1 dX3_digit_5 hl (by decide) rfl (fun ls hl => ?_)
  refine lv_iload_n C.1 C.2.1 dX3_digit_7 rfl (lv_at hl 3 rfl) ?_
  refine z_iconst C dX3_digit_8 ?_
  refine z_bipush C dX3_digit_9 (by decide) ?_
  refine z_callv C (c_X3_checkRange l (g) (0 : Int) (32 : Int) (by first | assumption | omega | rfl | exact decide_eq_false (by omega) | exact decide_eq_true (by assumption) | exact decide_eq_true (by omega) | exact one_shl33 (by omega) | exact pm_lt _ _ | exact rm_lt (by first | assumption | exact pm_lt _ _) | exact Nat.lt_of_le_of_lt (Nat.shiftRight_le _ _) (by assumption) | exact Nat.lt_of_le_of_lt Nat.and_le_right (by omega))) ml_X3_33 ⟨by decide, by decide⟩ ⟨Nat.le_of_ble_eq_true rfl, Nat.le_of_ble_eq_true rfl⟩ hl (Nat.le_of_ble_eq_true rfl) rfl dX3_digit_11 ?_
  refine lv_aload_n C.1 C.2.1 dX3_digit_14 rfl (lv_at hl 1 rfl) ?_
  refine lv_iload_n C.1 C.2.1 dX3_digit_15 rfl (lv_at hl 2 rfl) ?_
  refine lv_iload_n C.1 C.2.1 dX3_digit_16 rfl (lv_at hl 4 rfl) ?_
  refine z_ifB_eq (tgt := 30) C dX3_digit_17 (by decide) (fun h17 => ?_) (fun h17 => ?_)
  · refine lv_lload C.1 C.2.1 dX3_digit_30 (lv_at hl 0 rfl) ?_
    refine lv_iload_n C.1 C.2.1 dX3_digit_32 rfl (lv_at hl 3 rfl) ?_
    refine z_call C (c_X1_single l (g) (by first | assumption | omega | rfl | exact decide_eq_false (by omega) | exact decide_eq_true (by assumption) | exact decide_eq_true (by omega) | exact one_shl33 (by omega) | exact pm_lt _ _ | exact rm_lt (by first | assumption | exact pm_lt _ _) | exact Nat.lt_of_le_of_lt (Nat.shiftRight_le _ _) (by assumption) | exact Nat.lt_of_le_of_lt Nat.and_le_right (by omega))) ml_X3_37 ⟨by decide, by decide⟩ ⟨Nat.le_of_ble_eq_true rfl, Nat.le_of_ble_eq_true rfl⟩ hl (Nat.le_of_ble_eq_true rfl) rfl dX3_digit_33 ?_
    refine z_ldc2 C 18446744073709551615 (T0_of kl_X3_46 rfl) (by decide) dX3_digit_36 ?_
    refine z_lxor C dX3_digit_39 ?_
    refine z_land C dX3_digit_40 ?_
    refine zo_callD C B (r := some (.int (iZ (aR (c) (z).toNat (some (((c) (z).toNat) &&& ((1 <<< (g).toNat) ^^^ (18446744073709551615)))))))) (c_X3_fill l D cJ o a (c) ((ac)) ((re)) ((kn)) (z) (((c) (z).toNat) &&& ((1 <<< (g).toNat) ^^^ (18446744073709551615))) (by omega) (by exact and33 _ q2_0)) ml_X3_29 rfl ⟨Nat.le_of_ble_eq_true rfl, Nat.le_of_ble_eq_true rfl⟩ ⟨Nat.le_of_ble_eq_true rfl, Nat.le_of_ble_eq_true rfl⟩ hl (Nat.le_of_ble_eq_true rfl) rfl dX3_digit_41 (fun H locs B => ?_)
    have q41_0 := aR_rng ((c)) (z).toNat (some (((c) (z).toNat) &&& ((1 <<< (g).toNat) ^^^ (18446744073709551615))))
    refine lv_pop C.1 C.2.1 dX3_digit_44 rfl ?_
    refine lv_lload C.1 C.2.1 dX3_digit_45 (lv_at hl 0 rfl) ?_
    refine lv_iload_n C.1 C.2.1 dX3_digit_47 rfl (lv_at hl 3 rfl) ?_
    refine z_call C (c_X1_hasOne l ((c) (z).toNat) (g) (by first | assumption | omega | rfl | exact decide_eq_false (by omega) | exact decide_eq_true (by assumption) | exact decide_eq_true (by omega) | exact one_shl33 (by omega) | exact pm_lt _ _ | exact rm_lt (by first | assumption | exact pm_lt _ _) | exact Nat.lt_of_le_of_lt (Nat.shiftRight_le _ _) (by assumption) | exact Nat.lt_of_le_of_lt Nat.and_le_right (by omega)) (by first | assumption | omega | rfl | exact decide_eq_false (by omega) | exact decide_eq_true (by assumption) | exact decide_eq_true (by omega) | exact one_shl33 (by omega) | exact pm_lt _ _ | exact rm_lt (by first | assumption | exact pm_lt _ _) | exact Nat.lt_of_le_of_lt (Nat.shiftRight_le _ _) (by assumption) | exact Nat.lt_of_le_of_lt Nat.and_le_right (by omega))) ml_X3_48 ⟨by decide, by decide⟩ ⟨Nat.le_of_ble_eq_true rfl, Nat.le_of_ble_eq_true rfl⟩ hl (Nat.le_of_ble_eq_true rfl) rfl dX3_digit_48 ?_
    exact zo_zret C B hr hk (Nat.le_of_ble_eq_true rfl) (Nat.le_of_ble_eq_true rfl) dX3_digit_51 (z_nB _) (by exact congrArg (fun z : Int => some (Value.int (iZ z))) (by rfl)) (by rw [dg, if_neg (by rw [h17]; decide)]) (by rfl)
  · refine lv_lload C.1 C.2.1 dX3_digit_20 (lv_at hl 0 rfl) ?_
    refine lv_iload_n C.1 C.2.1 dX3_digit_22 rfl (lv_at hl 3 rfl) ?_
    refine z_call C (c_X1_single l (g) (by first | assumption | omega | rfl | exact decide_eq_false (by omega) | exact decide_eq_true (by assumption) | exact decide_eq_true (by omega) | exact one_shl33 (by omega) | exact pm_lt _ _ | exact rm_lt (by first | assumption | exact pm_lt _ _) | exact Nat.lt_of_le_of_lt (Nat.shiftRight_le _ _) (by assumption) | exact Nat.lt_of_le_of_lt Nat.and_le_right (by omega))) ml_X3_37 ⟨by decide, by decide⟩ ⟨Nat.le_of_ble_eq_true rfl, Nat.le_of_ble_eq_true rfl⟩ hl (Nat.le_of_ble_eq_true rfl) rfl dX3_digit_23 ?_
    refine z_lor C dX3_digit_26 ?_
    refine lv_goto (tgt := 41) C.1 C.2.1 dX3_digit_27 (by decide) ?_
    refine zo_callD C B (r := some (.int (iZ (aR (c) (z).toNat (some (((c) (z).toNat) ||| (1 <<< (g).toNat))))))) (c_X3_fill l D cJ o a (c) ((ac)) ((re)) ((kn)) (z) (((c) (z).toNat) ||| (1 <<< (g).toNat)) (by omega) (by exact or33 q2_0 (one_shl33 (by omega)))) ml_X3_29 rfl ⟨Nat.le_of_ble_eq_true rfl, Nat.le_of_ble_eq_true rfl⟩ ⟨Nat.le_of_ble_eq_true rfl, Nat.le_of_ble_eq_true rfl⟩ hl (Nat.le_of_ble_eq_true rfl) rfl dX3_digit_41 (fun H locs B => ?_)
    have q41_0 := aR_rng ((c)) (z).toNat (some (((c) (z).toNat) ||| (1 <<< (g).toNat)))
    refine lv_pop C.1 C.2.1 dX3_digit_44 rfl ?_
    refine lv_lload C.1 C.2.1 dX3_digit_45 (lv_at hl 0 rfl) ?_
    refine lv_iload_n C.1 C.2.1 dX3_digit_47 rfl (lv_at hl 3 rfl) ?_
    refine z_call C (c_X1_hasOne l ((c) (z).toNat) (g) (by first | assumption | omega | rfl | exact decide_eq_false (by omega) | exact decide_eq_true (by assumption) | exact decide_eq_true (by omega) | exact one_shl33 (by omega) | exact pm_lt _ _ | exact rm_lt (by first | assumption | exact pm_lt _ _) | exact Nat.lt_of_le_of_lt (Nat.shiftRight_le _ _) (by assumption) | exact Nat.lt_of_le_of_lt Nat.and_le_right (by omega)) (by first | assumption | omega | rfl | exact decide_eq_false (by omega) | exact decide_eq_true (by assumption) | exact decide_eq_true (by omega) | exact one_shl33 (by omega) | exact pm_lt _ _ | exact rm_lt (by first | assumption | exact pm_lt _ _) | exact Nat.lt_of_le_of_lt (Nat.shiftRight_le _ _) (by assumption) | exact Nat.lt_of_le_of_lt Nat.and_le_right (by omega))) ml_X3_48 ⟨by decide, by decide⟩ ⟨Nat.le_of_ble_eq_true rfl, Nat.le_of_ble_eq_true rfl⟩ hl (Nat.le_of_ble_eq_true rfl) rfl dX3_digit_48 ?_
    exact zo_zret C B hr hk (Nat.le_of_ble_eq_true rfl) (Nat.le_of_ble_eq_true rfl) dX3_digit_51 (z_nB _) (by exact congrArg (fun z : Int => some (Value.int (iZ z))) (by rfl)) (by rw [dg, if_pos h17]) (by rfl)

set_option maxHeartbeats 4000000 in
set_option maxRecDepth 100000 in
theorem c_X3_flip (l : Launch) (D : va_G) (cJ : ClassId) (o a : Nat) (c : Nat → Nat) (ac : Int32) (re : Int32) (kn : Int32) (z : Int) (g : Int) (hz : 0 ≤ z ∧ z ≤ 5) (hg : 0 ≤ g ∧ g ≤ 32) : zA l yX3_flip 3 90 0 0 D 2 cJ o a [.int (iZ (z)), .int (iZ (g))] c [.int (ac), .int (re), .int (kn)] (fun v => v = some (.int (iZ (zB (!tb (c z.toNat) g))))) (aC c z.toNat (some (c z.toNat ^^^ (1 <<< g.toNat)))) [.int (aA ac (some 0)), .int (re), .int (kn)] := by
  refine zA.intro (lo := 66) (nA := 2) (own := RX3) zi_X3_flip (by decide) rfl rfl (by decide +kernel) rfl (Nat.le_of_ble_eq_true rfl) ?_
  intro p e s m below meth c0 ls C hr hk B hl
  have hl : lv_has ls 5 [(0, .ref o), (1, .int (iZ (z))), (2, .int (iZ (g)))] := hl
  refine lv_aload_n C.1 C.2.1 dX3_flip_0 rfl (lv_at hl 0 rfl) ?_
  refine lv_iload_n C.1 C.2.1 dX3_flip_1 rfl (lv_at hl 1 rfl) ?_
  refine zo_callD C B (r := some (.long (lN ((c) (z).toNat)))) (c_X3_polyIn l D cJ o a (c) (ac) (re) (kn) (z) (by first | assumption | omega | rfl | exact decide_eq_false (by omega) | exact decide_eq_true (by assumption) | exact decide_eq_true (by omega) | exact one_shl33 (by omega) | exact pm_lt _ _ | exact rm_lt (by first | assumption | exact pm_lt _ _) | exact Nat.lt_of_le_of_lt (Nat.shiftRight_le _ _) (by assumption) | exact Nat.lt_of_le_of_lt Nat.and_le_right (by omega))) ml_X3_43 rfl ⟨Nat.le_of_ble_eq_true rfl, Nat.le_of_ble_eq_true rfl⟩ ⟨Nat.le_of_ble_eq_true rfl, Nat.le_of_ble_eq_true rfl⟩ hl (Nat.le_of_ble_eq_true rfl) rfl dX3_flip_2 (fun H locs B => ?_)
  have q2_0 := B.1.2.2.2 ((z)).toNat
  refine lv_lstore_n (lv' := [(3, .long (lN ((c) (z).toNat))), (0, .ref o), (1, .int (iZ (z))), (2, .int (iZ (g)))]) C.1 C.2.1 dX3_flip_5 rfl hl (by decide) rfl (fun ls hl => ?_)
  refine lv_iload_n C.1 C.2.1 dX3_flip_6 rfl (lv_at hl 3 rfl) ?_
  refine z_iconst C dX3_flip_7 ?_
  refine z_bipush C dX3_flip_8 (by decide) ?_
  refine z_callv C (c_X3_checkRange l (g) (0 : Int) (32 : Int) (by first | assumption | omega | rfl | exact decide_eq_false (by omega) | exact decide_eq_true (by assumption) | exact decide_eq_true (by omega) | exact one_shl33 (by omega) | exact pm_lt _ _ | exact rm_lt (by first | assumption | exact pm_lt _ _) | exact Nat.lt_of_le_of_lt (Nat.shiftRight_le _ _) (by assumption) | exact Nat.lt_of_le_of_lt Nat.and_le_right (by omega))) ml_X3_33 ⟨by decide, by decide⟩ ⟨Nat.le_of_ble_eq_true rfl, Nat.le_of_ble_eq_true rfl⟩ hl (Nat.le_of_ble_eq_true rfl) rfl dX3_flip_10 ?_
  refine lv_aload_n C.1 C.2.1 dX3_flip_13 rfl (lv_at hl 1 rfl) ?_
  refine lv_iload_n C.1 C.2.1 dX3_flip_14 rfl (lv_at hl 2 rfl) ?_
  refine lv_lload_n C.1 C.2.1 dX3_flip_15 rfl (lv_at hl 0 rfl) ?_
  refine lv_iload_n C.1 C.2.1 dX3_flip_16 rfl (lv_at hl 3 rfl) ?_
  refine z_call C (c_X1_single l (g) (by first | assumption | omega | rfl | exact decide_eq_false (by omega) | exact decide_eq_true (by assumption) | exact decide_eq_true (by omega) | exact one_shl33 (by omega) | exact pm_lt _ _ | exact rm_lt (by first | assumption | exact pm_lt _ _) | exact Nat.lt_of_le_of_lt (Nat.shiftRight_le _ _) (by assumption) | exact Nat.lt_of_le_of_lt Nat.and_le_right (by omega))) ml_X3_37 ⟨by decide, by decide⟩ ⟨Nat.le_of_ble_eq_true rfl, Nat.le_of_ble_eq_true rfl⟩ hl (Nat.le_of_ble_eq_true rfl) rfl dX3_flip_17 ?_
  refine z_lxor C dX3_flip_20 ?_
  refine zo_callD C B (r := some (.int (iZ (aR (c) (z).toNat (some (((c) (z).toNat) ^^^ (1 <<< (g).toNat))))))) (c_X3_fill l D cJ o a (c) ((ac)) ((re)) ((kn)) (z) (((c) (z).toNat) ^^^ (1 <<< (g).toNat)) (by omega) (by exact xor33 q2_0 (one_shl33 (by omega)))) ml_X3_29 rfl ⟨Nat.le_of_ble_eq_true rfl, Nat.le_of_ble_eq_true rfl⟩ ⟨Nat.le_of_ble_eq_true rfl, Nat.le_of_ble_eq_true rfl⟩ hl (Nat.le_of_ble_eq_true rfl) rfl dX3_flip_21 (fun H locs B => ?_)
  have q21_0 := aR_rng ((c)) (z).toNat (some (((c) (z).toNat) ^^^ (1 <<< (g).toNat)))
  refine lv_pop C.1 C.2.1 dX3_flip_24 rfl ?_
  refine lv_lload_n C.1 C.2.1 dX3_flip_25 rfl (lv_at hl 0 rfl) ?_
  refine lv_iload_n C.1 C.2.1 dX3_flip_26 rfl (lv_at hl 3 rfl) ?_
  refine z_call C (c_X1_hasOne l ((c) (z).toNat) (g) (by first | assumption | omega | rfl | exact decide_eq_false (by omega) | exact decide_eq_true (by assumption) | exact decide_eq_true (by omega) | exact one_shl33 (by omega) | exact pm_lt _ _ | exact rm_lt (by first | assumption | exact pm_lt _ _) | exact Nat.lt_of_le_of_lt (Nat.shiftRight_le _ _) (by assumption) | exact Nat.lt_of_le_of_lt Nat.and_le_right (by omega)) (by first | assumption | omega | rfl | exact decide_eq_false (by omega) | exact decide_eq_true (by assumption) | exact decide_eq_true (by omega) | exact one_shl33 (by omega) | exact pm_lt _ _ | exact rm_lt (by first | assumption | exact pm_lt _ _) | exact Nat.lt_of_le_of_lt (Nat.shiftRight_le _ _) (by assumption) | exact Nat.lt_of_le_of_lt Nat.and_le_right (by omega))) ml_X3_48 ⟨by decide, by decide⟩ ⟨Nat.le_of_ble_eq_true rfl, Nat.le_of_ble_eq_true rfl⟩ hl (Nat.le_of_ble_eq_true rfl) rfl dX3_flip_27 ?_
  refine z_ifB_ne (tgt := 37) C dX3_flip_30 (by decide) (fun h30 => ?_) (fun h30 => ?_)
  · refine z_iconst C dX3_flip_37 ?_
    exact zo_zret C B hr hk (Nat.le_of_ble_eq_true rfl) (Nat.le_of_ble_eq_true rfl) dX3_flip_38 (by decide) (by exact congrArg (fun z : Int => some (Value.int (iZ z))) (by exact zB_f (by rw [h30]; rfl))) (by rfl) (by rfl)
  · refine z_iconst C dX3_flip_33 ?_
    refine lv_goto (tgt := 38) C.1 C.2.1 dX3_flip_34 (by decide) ?_
    exact zo_zret C B hr hk (Nat.le_of_ble_eq_true rfl) (Nat.le_of_ble_eq_true rfl) dX3_flip_38 (by decide) (by exact congrArg (fun z : Int => some (Value.int (iZ z))) (by exact zB_t (by rw [h30]; rfl))) (by rfl) (by rfl)

set_option maxHeartbeats 4000000 in
set_option maxRecDepth 100000 in
theorem c_X3_copy (l : Launch) (D : va_G) (cJ : ClassId) (o a : Nat) (c : Nat → Nat) (ac : Int32) (re : Int32) (kn : Int32) (f : Int) (z : Int) (hf : 0 ≤ f ∧ f ≤ 5) (hz : 0 ≤ z ∧ z ≤ 5) : zA l yX3_copy 3 90 0 0 D 2 cJ o a [.int (iZ (f)), .int (iZ (z))] c [.int (ac), .int (re), .int (kn)] (fun v => v = some (.int (iZ (aR c (z.toNat) (some (c f.toNat)))))) (aC c (z.toNat) (some (c f.toNat))) [.int (aA ac (some (c f.toNat))), .int (aF re (some (c f.toNat))), .int (kn)] := by
  refine zA.intro (lo := 66) (nA := 2) (own := RX3) zi_X3_copy (by decide) rfl rfl (by decide +kernel) rfl (Nat.le_of_ble_eq_true rfl) ?_
  intro p e s m below meth c0 ls C hr hk B hl
  have hl : lv_has ls 5 [(0, .ref o), (1, .int (iZ (f))), (2, .int (iZ (z)))] := hl
  refine lv_aload_n C.1 C.2.1 dX3_copy_0 rfl (lv_at hl 0 rfl) ?_
  refine lv_iload_n C.1 C.2.1 dX3_copy_1 rfl (lv_at hl 1 rfl) ?_
  refine zo_callD C B (r := some (.long (lN ((c) (f).toNat)))) (c_X3_polyIn l D cJ o a (c) (ac) (re) (kn) (f) (by first | assumption | omega | rfl | exact decide_eq_false (by omega) | exact decide_eq_true (by assumption) | exact decide_eq_true (by omega) | exact one_shl33 (by omega) | exact pm_lt _ _ | exact rm_lt (by first | assumption | exact pm_lt _ _) | exact Nat.lt_of_le_of_lt (Nat.shiftRight_le _ _) (by assumption) | exact Nat.lt_of_le_of_lt Nat.and_le_right (by omega))) ml_X3_43 rfl ⟨Nat.le_of_ble_eq_true rfl, Nat.le_of_ble_eq_true rfl⟩ ⟨Nat.le_of_ble_eq_true rfl, Nat.le_of_ble_eq_true rfl⟩ hl (Nat.le_of_ble_eq_true rfl) rfl dX3_copy_2 (fun H locs B => ?_)
  have q2_0 := B.1.2.2.2 ((f)).toNat
  refine lv_lstore_n (lv' := [(3, .long (lN ((c) (f).toNat))), (0, .ref o), (1, .int (iZ (f))), (2, .int (iZ (z)))]) C.1 C.2.1 dX3_copy_5 rfl hl (by decide) rfl (fun ls hl => ?_)
  refine lv_aload_n C.1 C.2.1 dX3_copy_6 rfl (lv_at hl 1 rfl) ?_
  refine lv_iload_n C.1 C.2.1 dX3_copy_7 rfl (lv_at hl 3 rfl) ?_
  refine zo_callD C B (r := none) (c_X3_checkCell l D cJ o a (c) ((ac)) ((re)) ((kn)) (z) (by first | assumption | omega | rfl | exact decide_eq_false (by omega) | exact decide_eq_true (by assumption) | exact decide_eq_true (by omega) | exact one_shl33 (by omega) | exact pm_lt _ _ | exact rm_lt (by first | assumption | exact pm_lt _ _) | exact Nat.lt_of_le_of_lt (Nat.shiftRight_le _ _) (by assumption) | exact Nat.lt_of_le_of_lt Nat.and_le_right (by omega))) ml_X3_23 rfl ⟨Nat.le_of_ble_eq_true rfl, Nat.le_of_ble_eq_true rfl⟩ ⟨Nat.le_of_ble_eq_true rfl, Nat.le_of_ble_eq_true rfl⟩ hl (Nat.le_of_ble_eq_true rfl) rfl dX3_copy_8 (fun H locs B => ?_)
  refine lv_aload_n C.1 C.2.1 dX3_copy_11 rfl (lv_at hl 1 rfl) ?_
  refine lv_iload_n C.1 C.2.1 dX3_copy_12 rfl (lv_at hl 3 rfl) ?_
  refine lv_lload_n C.1 C.2.1 dX3_copy_13 rfl (lv_at hl 0 rfl) ?_
  refine zo_callD C B (r := some (.int (iZ (aR (c) (z).toNat (some ((c) (f).toNat)))))) (c_X3_fill l D cJ o a (c) (((ac))) (((re))) (((kn))) (z) ((c) (f).toNat) (by first | assumption | omega | rfl | exact decide_eq_false (by omega) | exact decide_eq_true (by assumption) | exact decide_eq_true (by omega) | exact one_shl33 (by omega) | exact pm_lt _ _ | exact rm_lt (by first | assumption | exact pm_lt _ _) | exact Nat.lt_of_le_of_lt (Nat.shiftRight_le _ _) (by assumption) | exact Nat.lt_of_le_of_lt Nat.and_le_right (by omega)) (by first | assumption | omega | rfl | exact decide_eq_false (by omega) | exact decide_eq_true (by assumption) | exact decide_eq_true (by omega) | exact one_shl33 (by omega) | exact pm_lt _ _ | exact rm_lt (by first | assumption | exact pm_lt _ _) | exact Nat.lt_of_le_of_lt (Nat.shiftRight_le _ _) (by assumption) | exact Nat.lt_of_le_of_lt Nat.and_le_right (by omega))) ml_X3_29 rfl ⟨Nat.le_of_ble_eq_true rfl, Nat.le_of_ble_eq_true rfl⟩ ⟨Nat.le_of_ble_eq_true rfl, Nat.le_of_ble_eq_true rfl⟩ hl (Nat.le_of_ble_eq_true rfl) rfl dX3_copy_14 (fun H locs B => ?_)
  have q14_0 := aR_rng ((c)) (z).toNat (some ((c) (f).toNat))
  have hw : (some (c f.toNat)) = some ((c) (f).toNat) := by rfl
  exact zo_iret C B hr hk (Nat.le_of_ble_eq_true rfl) (Nat.le_of_ble_eq_true rfl) dX3_copy_17 (by show some _ = some _; rw [hw] <;> rfl) (by rw [hw] <;> rfl) (by rw [hw] <;> rfl)

set_option maxHeartbeats 4000000 in
set_option maxRecDepth 100000 in
theorem c_X3_swap (l : Launch) (D : va_G) (cJ : ClassId) (o a : Nat) (c : Nat → Nat) (ac : Int32) (re : Int32) (kn : Int32) (f : Int) (z : Int) (hf : 0 ≤ f ∧ f ≤ 5) (hz : 0 ≤ z ∧ z ≤ 5) : zA l yX3_swap 2 68 0 0 D 2 cJ o a [.int (iZ (f)), .int (iZ (z))] c [.int (ac), .int (re), .int (kn)] (fun v => v = some (.int (iZ (if c f.toNat = c z.toNat then 0 else 1)))) (zu (zu c f.toNat (c z.toNat)) z.toNat (c f.toNat)) [.int (aA ac (some 0)), .int (re), .int (kn)] := by
  refine zA.intro (lo := 42) (nA := 2) (own := RX3) zi_X3_swap (by decide) rfl rfl (by decide +kernel) rfl (Nat.le_of_ble_eq_true rfl) ?_
  intro p e s m below meth c0 ls C hr hk B hl
  have hl : lv_has ls 7 [(0, .ref o), (1, .int (iZ (f))), (2, .int (iZ (z)))] := hl
  refine lv_aload_n C.1 C.2.1 dX3_swap_0 rfl (lv_at hl 0 rfl) ?_
  refine lv_iload_n C.1 C.2.1 dX3_swap_1 rfl (lv_at hl 1 rfl) ?_
  refine zo_callD C B (r := some (.long (lN ((c) (f).toNat)))) (c_X3_polyIn l D cJ o a (c) (ac) (re) (kn) (f) (by first | assumption | omega | rfl | exact decide_eq_false (by omega) | exact decide_eq_true (by assumption) | exact decide_eq_true (by omega) | exact one_shl33 (by omega) | exact pm_lt _ _ | exact rm_lt (by first | assumption | exact pm_lt _ _) | exact Nat.lt_of_le_of_lt (Nat.shiftRight_le _ _) (by assumption) | exact Nat.lt_of_le_of_lt Nat.and_le_right (by omega))) ml_X3_43 rfl ⟨Nat.le_of_ble_eq_true rfl, Nat.le_of_ble_eq_true rfl⟩ ⟨Nat.le_of_ble_eq_true rfl, Nat.le_of_ble_eq_true rfl⟩ hl (Nat.le_of_ble_eq_true rfl) rfl dX3_swap_2 (fun H locs B => ?_)
  have q2_0 := B.1.2.2.2 ((f)).toNat
  refine lv_lstore_n (lv' := [(3, .long (lN ((c) (f).toNat))), (0, .ref o), (1, .int (iZ (f))), (2, .int (iZ (z)))]) C.1 C.2.1 dX3_swap_5 rfl hl (by decide) rfl (fun ls hl => ?_)
  refine lv_aload_n C.1 C.2.1 dX3_swap_6 rfl (lv_at hl 1 rfl) ?_
  refine lv_iload_n C.1 C.2.1 dX3_swap_7 rfl (lv_at hl 3 rfl) ?_
  refine zo_callD C B (r := some (.long (lN ((c) (z).toNat)))) (c_X3_polyIn l D cJ o a (c) ((ac)) ((re)) ((kn)) (z) (by first | assumption | omega | rfl | exact decide_eq_false (by omega) | exact decide_eq_true (by assumption) | exact decide_eq_true (by omega) | exact one_shl33 (by omega) | exact pm_lt _ _ | exact rm_lt (by first | assumption | exact pm_lt _ _) | exact Nat.lt_of_le_of_lt (Nat.shiftRight_le _ _) (by assumption) | exact Nat.lt_of_le_of_lt Nat.and_le_right (by omega))) ml_X3_43 rfl ⟨Nat.le_of_ble_eq_true rfl, Nat.le_of_ble_eq_true rfl⟩ ⟨Nat.le_of_ble_eq_true rfl, Nat.le_of_ble_eq_true rfl⟩ hl (Nat.le_of_ble_eq_true rfl) rfl dX3_swap_8 (fun H locs B => ?_)
  have q8_0 := B.1.2.2.2 ((z)).toNat
  refine lv_lstore (lv' := [(5, .long (lN ((c) (z).toNat))), (3, .long (lN ((c) (f).toNat))), (0, .ref o), (1, .int (iZ (f))), (2, .int (iZ (z)))]) C.1 C.2.1 dX3_swap_11 hl (by decide) rfl (fun ls hl => ?_)
  refine lv_aload_n C.1 C.2.1 dX3_swap_13 rfl (lv_at hl 2 rfl) ?_
  refine zo_get C B (Cn := RX3) (T := TX3) (N := 4) (v := .ref a) rfl inX3 0 (by decide) fl_X3_9 rfl rfl dX3_swap_14 ?_
  refine lv_iload_n C.1 C.2.1 dX3_swap_17 rfl (lv_at hl 3 rfl) ?_
  refine lv_lload C.1 C.2.1 dX3_swap_18 (lv_at hl 0 rfl) ?_
  refine zo_last C B ((f).toNat) (by omega) (by omega) (by first | assumption | omega | rfl | exact decide_eq_false (by omega) | exact decide_eq_true (by assumption) | exact decide_eq_true (by omega) | exact one_shl33 (by omega) | exact pm_lt _ _ | exact rm_lt (by first | assumption | exact pm_lt _ _) | exact Nat.lt_of_le_of_lt (Nat.shiftRight_le _ _) (by assumption) | exact Nat.lt_of_le_of_lt Nat.and_le_right (by omega)) dX3_swap_20 (fun H locs B => ?_)
  refine lv_aload_n C.1 C.2.1 dX3_swap_21 rfl (lv_at hl 2 rfl) ?_
  refine zo_get C B (Cn := RX3) (T := TX3) (N := 4) (v := .ref a) rfl inX3 0 (by decide) fl_X3_9 rfl rfl dX3_swap_22 ?_
  refine lv_iload_n C.1 C.2.1 dX3_swap_25 rfl (lv_at hl 4 rfl) ?_
  refine lv_lload_n C.1 C.2.1 dX3_swap_26 rfl (lv_at hl 1 rfl) ?_
  refine zo_last C B ((z).toNat) (by omega) (by omega) (by first | assumption | omega | rfl | exact decide_eq_false (by omega) | exact decide_eq_true (by assumption) | exact decide_eq_true (by omega) | exact one_shl33 (by omega) | exact pm_lt _ _ | exact rm_lt (by first | assumption | exact pm_lt _ _) | exact Nat.lt_of_le_of_lt (Nat.shiftRight_le _ _) (by assumption) | exact Nat.lt_of_le_of_lt Nat.and_le_right (by omega)) dX3_swap_27 (fun H locs B => ?_)
  refine lv_aload_n C.1 C.2.1 dX3_swap_28 rfl (lv_at hl 2 rfl) ?_
  refine lv_dup C.1 C.2.1 dX3_swap_29 rfl ?_
  refine zo_get C B (Cn := RX3) (T := TX3) (N := 4) (v := .int (((ac)))) rfl inX3 1 (by decide) fl_X3_13 rfl rfl dX3_swap_30 ?_
  refine z_iconst C dX3_swap_33 ?_
  refine lv_iadd C.1 C.2.1 dX3_swap_34 ?_
  refine zo_put C B (Cn := RX3) (T := TX3) (N := 4) (fs2 := [.int ((((ac))) + iZ (1)), .int (((re))), .int (((kn)))]) rfl inX3 tyX3 tyX3_ok nmX3 0 (by decide) fl_X3_13 rfl rfl (by decide +kernel) (Nat.le_of_ble_eq_true rfl) rfl dX3_swap_35 (fun H locs B => ?_)
  refine lv_lload_n C.1 C.2.1 dX3_swap_38 rfl (lv_at hl 1 rfl) ?_
  refine lv_lload C.1 C.2.1 dX3_swap_39 (lv_at hl 0 rfl) ?_
  refine z_lc_ne (tgt := 49) C (by first | assumption | omega | rfl | exact decide_eq_false (by omega) | exact decide_eq_true (by assumption) | exact decide_eq_true (by omega) | exact one_shl33 (by omega) | exact pm_lt _ _ | exact rm_lt (by first | assumption | exact pm_lt _ _) | exact Nat.lt_of_le_of_lt (Nat.shiftRight_le _ _) (by assumption) | exact Nat.lt_of_le_of_lt Nat.and_le_right (by omega)) (by first | assumption | omega | rfl | exact decide_eq_false (by omega) | exact decide_eq_true (by assumption) | exact decide_eq_true (by omega) | exact one_shl33 (by omega) | exact pm_lt _ _ | exact rm_lt (by first | assumption | exact pm_lt _ _) | exact Nat.lt_of_le_of_lt (Nat.shiftRight_le _ _) (by assumption) | exact Nat.lt_of_le_of_lt Nat.and_le_right (by omega)) dX3_swap_41 dX3_swap_42 (by decide) (fun h41 => ?_) (fun h41 => ?_)
  · refine z_iconst C dX3_swap_49 ?_
    exact zo_iret C B hr hk (Nat.le_of_ble_eq_true rfl) (Nat.le_of_ble_eq_true rfl) dX3_swap_50 (by exact congrArg (fun z : Int => some (Value.int (iZ z))) (by exact (if_neg h41).symm)) (by rfl) (by rfl)
  · refine z_iconst C dX3_swap_45 ?_
    refine lv_goto (tgt := 50) C.1 C.2.1 dX3_swap_46 (by decide) ?_
    exact zo_iret C B hr hk (Nat.le_of_ble_eq_true rfl) (Nat.le_of_ble_eq_true rfl) dX3_swap_50 (by exact congrArg (fun z : Int => some (Value.int (iZ z))) (by exact (if_pos h41).symm)) (by rfl) (by rfl)

set_option maxHeartbeats 4000000 in
set_option maxRecDepth 100000 in
theorem c_X3_end (l : Launch) (D : va_G) (cJ : ClassId) (o a : Nat) (c : Nat → Nat) (ac : Int32) (re : Int32) (kn : Int32) (f : Int) (g : Int) (b : Bool) (z : Int) (hf : 0 ≤ f ∧ f ≤ 5) (hg : 0 ≤ g ∧ g ≤ 5) (hz : 0 ≤ z ∧ z ≤ 5) : zA l yX3_end 3 94 0 0 D 2 cJ o a [.int (iZ (f)), .int (iZ (g)), .int (iZ (zB (b))), .int (iZ (z))] c [.int (ac), .int (re), .int (kn)] (fun v => v = some (.int (iZ (aR c (z.toNat) (some (if b = true then mx (c f.toNat) (c g.toNat) else mn (c f.toNat) (c g.toNat))))))) (aC c (z.toNat) (some (if b = true then mx (c f.toNat) (c g.toNat) else mn (c f.toNat) (c g.toNat)))) [.int (aA ac (some (if b = true then mx (c f.toNat) (c g.toNat) else mn (c f.toNat) (c g.toNat)))), .int (aF re (some (if b = true then mx (c f.toNat) (c g.toNat) else mn (c f.toNat) (c g.toNat)))), .int (kn)] := by
  refine zA.intro (lo := 66) (nA := 4) (own := RX3) zi_X3_end (by decide) rfl rfl (by decide +kernel) rfl (Nat.le_of_ble_eq_true rfl) ?_
  intro p e s m below meth c0 ls C hr hk B hl
  have hl : lv_has ls 9 [(0, .ref o), (1, .int (iZ (f))), (2, .int (iZ (g))), (3, .int (iZ (zB (b)))), (4, .int (iZ (z)))] := hl
  refine lv_aload_n C.1 C.2.1 dX3_end_0 rfl (lv_at hl 0 rfl) ?_
  refine lv_iload_n C.1 C.2.1 dX3_end_1 rfl (lv_at hl 1 rfl) ?_
  refine zo_callD C B (r := some (.long (lN ((c) (f).toNat)))) (c_X3_polyIn l D cJ o a (c) (ac) (re) (kn) (f) (by first | assumption | omega | rfl | exact decide_eq_false (by omega) | exact decide_eq_true (by assumption) | exact decide_eq_true (by omega) | exact one_shl33 (by omega) | exact pm_lt _ _ | exact rm_lt (by first | assumption | exact pm_lt _ _) | exact Nat.lt_of_le_of_lt (Nat.shiftRight_le _ _) (by assumption) | exact Nat.lt_of_le_of_lt Nat.and_le_right (by omega))) ml_X3_43 rfl ⟨Nat.le_of_ble_eq_true rfl, Nat.le_of_ble_eq_true rfl⟩ ⟨Nat.le_of_ble_eq_true rfl, Nat.le_of_ble_eq_true rfl⟩ hl (Nat.le_of_ble_eq_true rfl) rfl dX3_end_2 (fun H locs B => ?_)
  have q2_0 := B.1.2.2.2 ((f)).toNat
  refine lv_lstore (lv' := [(5, .long (lN ((c) (f).toNat))), (0, .ref o), (1, .int (iZ (f))), (2, .int (iZ (g))), (3, .int (iZ (zB (b)))), (4, .int (iZ (z)))]) C.1 C.2.1 dX3_end_5 hl (by decide) rfl (fun ls hl => ?_)
  refine lv_aload_n C.1 C.2.1 dX3_end_7 rfl (lv_at hl 1 rfl) ?_
  refine lv_iload_n C.1 C.2.1 dX3_end_8 rfl (lv_at hl 3 rfl) ?_
  refine zo_callD C B (r := some (.long (lN ((c) (g).toNat)))) (c_X3_polyIn l D cJ o a (c) ((ac)) ((re)) ((kn)) (g) (by first | assumption | omega | rfl | exact decide_eq_false (by omega) | exact decide_eq_true (by assumption) | exact decide_eq_true (by omega) | exact one_shl33 (by omega) | exact pm_lt _ _ | exact rm_lt (by first | assumption | exact pm_lt _ _) | exact Nat.lt_of_le_of_lt (Nat.shiftRight_le _ _) (by assumption) | exact Nat.lt_of_le_of_lt Nat.and_le_right (by omega))) ml_X3_43 rfl ⟨Nat.le_of_ble_eq_true rfl, Nat.le_of_ble_eq_true rfl⟩ ⟨Nat.le_of_ble_eq_true rfl, Nat.le_of_ble_eq_true rfl⟩ hl (Nat.le_of_ble_eq_true rfl) rfl dX3_end_9 (fun H locs B => ?_)
  have q9_0 := B.1.2.2.2 ((g)).toNat
  refine lv_lstore (lv' := [(7, .long (lN ((c) (g).toNat))), (5, .long (lN ((c) (f).toNat))), (0, .ref o), (1, .int (iZ (f))), (2, .int (iZ (g))), (3, .int (iZ (zB (b)))), (4, .int (iZ (z)))]) C.1 C.2.1 dX3_end_12 hl (by decide) rfl (fun ls hl => ?_)
  refine lv_aload_n C.1 C.2.1 dX3_end_14 rfl (lv_at hl 2 rfl) ?_
  refine lv_iload C.1 C.2.1 dX3_end_15 (lv_at hl 6 rfl) ?_
  refine zo_callD C B (r := none) (c_X3_checkCell l D cJ o a (c) (((ac))) (((re))) (((kn))) (z) (by first | assumption | omega | rfl | exact decide_eq_false (by omega) | exact decide_eq_true (by assumption) | exact decide_eq_true (by omega) | exact one_shl33 (by omega) | exact pm_lt _ _ | exact rm_lt (by first | assumption | exact pm_lt _ _) | exact Nat.lt_of_le_of_lt (Nat.shiftRight_le _ _) (by assumption) | exact Nat.lt_of_le_of_lt Nat.and_le_right (by omega))) ml_X3_23 rfl ⟨Nat.le_of_ble_eq_true rfl, Nat.le_of_ble_eq_true rfl⟩ ⟨Nat.le_of_ble_eq_true rfl, Nat.le_of_ble_eq_true rfl⟩ hl (Nat.le_of_ble_eq_true rfl) rfl dX3_end_17 (fun H locs B => ?_)
  refine lv_aload_n C.1 C.2.1 dX3_end_20 rfl (lv_at hl 2 rfl) ?_
  refine lv_iload C.1 C.2.1 dX3_end_21 (lv_at hl 6 rfl) ?_
  refine lv_iload_n C.1 C.2.1 dX3_end_23 rfl (lv_at hl 5 rfl) ?_
  refine z_ifB_eq (tgt := 37) C dX3_end_24 (by decide) (fun h24 => ?_) (fun h24 => ?_)
  · refine lv_lload C.1 C.2.1 dX3_end_37 (lv_at hl 1 rfl) ?_
    refine lv_lload C.1 C.2.1 dX3_end_39 (lv_at hl 0 rfl) ?_
    refine z_mmin C (by first | assumption | omega) (by first | assumption | omega) ml_X3_58 hl ⟨Nat.le_of_ble_eq_true rfl, Nat.le_of_ble_eq_true rfl⟩ ⟨Nat.le_of_ble_eq_true rfl, Nat.le_of_ble_eq_true rfl⟩ (Nat.le_of_ble_eq_true rfl) dX3_end_41 ?_
    refine zo_callD C B (r := some (.int (iZ (aR (c) (z).toNat (some (mn ((c) (f).toNat) ((c) (g).toNat))))))) (c_X3_fill l D cJ o a (c) ((((ac)))) ((((re)))) ((((kn)))) (z) (mn ((c) (f).toNat) ((c) (g).toNat)) (by omega) (by exact mn33 q2_0 q9_0)) ml_X3_29 rfl ⟨Nat.le_of_ble_eq_true rfl, Nat.le_of_ble_eq_true rfl⟩ ⟨Nat.le_of_ble_eq_true rfl, Nat.le_of_ble_eq_true rfl⟩ hl (Nat.le_of_ble_eq_true rfl) rfl dX3_end_44 (fun H locs B => ?_)
    have q44_0 := aR_rng ((c)) (z).toNat (some (mn ((c) (f).toNat) ((c) (g).toNat)))
    have hw : (some (if b = true then mx (c f.toNat) (c g.toNat) else mn (c f.toNat) (c g.toNat))) = some (mn ((c) (f).toNat) ((c) (g).toNat)) := by rw [if_neg (by rw [h24]; decide)]
    exact zo_iret C B hr hk (Nat.le_of_ble_eq_true rfl) (Nat.le_of_ble_eq_true rfl) dX3_end_47 (by show some _ = some _; rw [hw] <;> rfl) (by rw [hw] <;> rfl) (by rw [hw] <;> rfl)
  · refine lv_lload C.1 C.2.1 dX3_end_27 (lv_at hl 1 rfl) ?_
    refine lv_lload C.1 C.2.1 dX3_end_29 (lv_at hl 0 rfl) ?_
    refine z_mmax C (by first | assumption | omega) (by first | assumption | omega) ml_X3_52 hl ⟨Nat.le_of_ble_eq_true rfl, Nat.le_of_ble_eq_true rfl⟩ ⟨Nat.le_of_ble_eq_true rfl, Nat.le_of_ble_eq_true rfl⟩ (Nat.le_of_ble_eq_true rfl) dX3_end_31 ?_
    refine lv_goto (tgt := 44) C.1 C.2.1 dX3_end_34 (by decide) ?_
    refine zo_callD C B (r := some (.int (iZ (aR (c) (z).toNat (some (mx ((c) (f).toNat) ((c) (g).toNat))))))) (c_X3_fill l D cJ o a (c) ((((ac)))) ((((re)))) ((((kn)))) (z) (mx ((c) (f).toNat) ((c) (g).toNat)) (by omega) (by exact mx33 q2_0 q9_0)) ml_X3_29 rfl ⟨Nat.le_of_ble_eq_true rfl, Nat.le_of_ble_eq_true rfl⟩ ⟨Nat.le_of_ble_eq_true rfl, Nat.le_of_ble_eq_true rfl⟩ hl (Nat.le_of_ble_eq_true rfl) rfl dX3_end_44 (fun H locs B => ?_)
    have q44_0 := aR_rng ((c)) (z).toNat (some (mx ((c) (f).toNat) ((c) (g).toNat)))
    have hw : (some (if b = true then mx (c f.toNat) (c g.toNat) else mn (c f.toNat) (c g.toNat))) = some (mx ((c) (f).toNat) ((c) (g).toNat)) := by rw [if_pos h24]
    exact zo_iret C B hr hk (Nat.le_of_ble_eq_true rfl) (Nat.le_of_ble_eq_true rfl) dX3_end_47 (by show some _ = some _; rw [hw] <;> rfl) (by rw [hw] <;> rfl) (by rw [hw] <;> rfl)

set_option maxHeartbeats 4000000 in
set_option maxRecDepth 100000 in
theorem c_X3_join (l : Launch) (D : va_G) (cJ : ClassId) (o a : Nat) (c : Nat → Nat) (ac : Int32) (re : Int32) (kn : Int32) (f : Int) (g : Int) (h : Int) (z : Int) (hf : 0 ≤ f ∧ f ≤ 5) (hg : 0 ≤ g ∧ g ≤ 5) (hh : 0 ≤ h ∧ h ≤ 3) (hz : 0 ≤ z ∧ z ≤ 5) : zA l yX3_join 3 94 0 0 D 2 cJ o a [.int (iZ (f)), .int (iZ (g)), .int (iZ (h)), .int (iZ (z))] c [.int (ac), .int (re), .int (kn)] (fun v => v = some (.int (iZ (aR c (z.toNat) (some (jo (c f.toNat) (c g.toNat) h)))))) (aC c (z.toNat) (some (jo (c f.toNat) (c g.toNat) h))) [.int (aA ac (some (jo (c f.toNat) (c g.toNat) h))), .int (aF re (some (jo (c f.toNat) (c g.toNat) h))), .int (kn)] := by
  refine zA.intro (lo := 66) (nA := 4) (own := RX3) zi_X3_join (by decide) rfl rfl (by decide +kernel) rfl (Nat.le_of_ble_eq_true rfl) ?_
  intro p e s m below meth c0 ls C hr hk B hl
  have hl : lv_has ls 9 [(0, .ref o), (1, .int (iZ (f))), (2, .int (iZ (g))), (3, .int (iZ (h))), (4, .int (iZ (z)))] := hl
  refine lv_aload_n C.1 C.2.1 dX3_join_0 rfl (lv_at hl 0 rfl) ?_
  refine lv_iload_n C.1 C.2.1 dX3_join_1 rfl (lv_at hl 1 rfl) ?_
  refine zo_callD C B (r := some (.long (lN ((c) (f).toNat)))) (c_X3_polyIn l D cJ o a (c) (ac) (re) (kn) (f) (by first | assumption | omega | rfl | exact decide_eq_false (by omega) | exact decide_eq_true (by assumption) | exact decide_eq_true (by omega) | exact one_shl33 (by omega) | exact pm_lt _ _ | exact rm_lt (by first | assumption | exact pm_lt _ _) | exact Nat.lt_of_le_of_lt (Nat.shiftRight_le _ _) (by assumption) | exact Nat.lt_of_le_of_lt Nat.and_le_right (by omega))) ml_X3_43 rfl ⟨Nat.le_of_ble_eq_true rfl, Nat.le_of_ble_eq_true rfl⟩ ⟨Nat.le_of_ble_eq_true rfl, Nat.le_of_ble_eq_true rfl⟩ hl (Nat.le_of_ble_eq_true rfl) rfl dX3_join_2 (fun H locs B => ?_)
  have q2_0 := B.1.2.2.2 ((f)).toNat
  refine lv_lstore (lv' := [(5, .long (lN ((c) (f).toNat))), (0, .ref o), (1, .int (iZ (f))), (2, .int (iZ (g))), (3, .int (iZ (h))), (4, .int (iZ (z)))]) C.1 C.2.1 dX3_join_5 hl (by decide) rfl (fun ls hl => ?_)
  refine lv_aload_n C.1 C.2.1 dX3_join_7 rfl (lv_at hl 1 rfl) ?_
  refine lv_iload_n C.1 C.2.1 dX3_join_8 rfl (lv_at hl 3 rfl) ?_
  refine zo_callD C B (r := some (.long (lN ((c) (g).toNat)))) (c_X3_polyIn l D cJ o a (c) ((ac)) ((re)) ((kn)) (g) (by first | assumption | omega | rfl | exact decide_eq_false (by omega) | exact decide_eq_true (by assumption) | exact decide_eq_true (by omega) | exact one_shl33 (by omega) | exact pm_lt _ _ | exact rm_lt (by first | assumption | exact pm_lt _ _) | exact Nat.lt_of_le_of_lt (Nat.shiftRight_le _ _) (by assumption) | exact Nat.lt_of_le_of_lt Nat.and_le_right (by omega))) ml_X3_43 rfl ⟨Nat.le_of_ble_eq_true rfl, Nat.le_of_ble_eq_true rfl⟩ ⟨Nat.le_of_ble_eq_true rfl, Nat.le_of_ble_eq_true rfl⟩ hl (Nat.le_of_ble_eq_true rfl) rfl dX3_join_9 (fun H locs B => ?_)
  have q9_0 := B.1.2.2.2 ((g)).toNat
  refine lv_lstore (lv' := [(7, .long (lN ((c) (g).toNat))), (5, .long (lN ((c) (f).toNat))), (0, .ref o), (1, .int (iZ (f))), (2, .int (iZ (g))), (3, .int (iZ (h))), (4, .int (iZ (z)))]) C.1 C.2.1 dX3_join_12 hl (by decide) rfl (fun ls hl => ?_)
  refine lv_aload_n C.1 C.2.1 dX3_join_14 rfl (lv_at hl 2 rfl) ?_
  refine lv_iload C.1 C.2.1 dX3_join_15 (lv_at hl 6 rfl) ?_
  refine zo_callD C B (r := none) (c_X3_checkCell l D cJ o a (c) (((ac))) (((re))) (((kn))) (z) (by first | assumption | omega | rfl | exact decide_eq_false (by omega) | exact decide_eq_true (by assumption) | exact decide_eq_true (by omega) | exact one_shl33 (by omega) | exact pm_lt _ _ | exact rm_lt (by first | assumption | exact pm_lt _ _) | exact Nat.lt_of_le_of_lt (Nat.shiftRight_le _ _) (by assumption) | exact Nat.lt_of_le_of_lt Nat.and_le_right (by omega))) ml_X3_23 rfl ⟨Nat.le_of_ble_eq_true rfl, Nat.le_of_ble_eq_true rfl⟩ ⟨Nat.le_of_ble_eq_true rfl, Nat.le_of_ble_eq_true rfl⟩ hl (Nat.le_of_ble_eq_true rfl) rfl dX3_join_17 (fun H locs B => ?_)
  refine lv_iload_n C.1 C.2.1 dX3_join_20 rfl (lv_at hl 5 rfl) ?_
  refine z_iconst C dX3_join_21 ?_
  refine z_iconst C dX3_join_22 ?_
  refine z_callv C (c_X3_checkRange l (h) (0 : Int) (3 : Int) (by first | assumption | omega | rfl | exact decide_eq_false (by omega) | exact decide_eq_true (by assumption) | exact decide_eq_true (by omega) | exact one_shl33 (by omega) | exact pm_lt _ _ | exact rm_lt (by first | assumption | exact pm_lt _ _) | exact Nat.lt_of_le_of_lt (Nat.shiftRight_le _ _) (by assumption) | exact Nat.lt_of_le_of_lt Nat.and_le_right (by omega))) ml_X3_33 ⟨by decide, by decide⟩ ⟨Nat.le_of_ble_eq_true rfl, Nat.le_of_ble_eq_true rfl⟩ hl (Nat.le_of_ble_eq_true rfl) rfl dX3_join_23 ?_
  refine lv_aload_n C.1 C.2.1 dX3_join_26 rfl (lv_at hl 2 rfl) ?_
  refine lv_iload C.1 C.2.1 dX3_join_27 (lv_at hl 6 rfl) ?_
  refine lv_lload C.1 C.2.1 dX3_join_29 (lv_at hl 1 rfl) ?_
  refine lv_lload C.1 C.2.1 dX3_join_31 (lv_at hl 0 rfl) ?_
  refine lv_iload_n C.1 C.2.1 dX3_join_33 rfl (lv_at hl 5 rfl) ?_
  refine z_call C (c_X1_joined l ((c) (f).toNat) ((c) (g).toNat) (h) (by first | assumption | omega | rfl | exact decide_eq_false (by omega) | exact decide_eq_true (by assumption) | exact decide_eq_true (by omega) | exact one_shl33 (by omega) | exact pm_lt _ _ | exact rm_lt (by first | assumption | exact pm_lt _ _) | exact Nat.lt_of_le_of_lt (Nat.shiftRight_le _ _) (by assumption) | exact Nat.lt_of_le_of_lt Nat.and_le_right (by omega))) ml_X3_61 ⟨by decide, by decide⟩ ⟨Nat.le_of_ble_eq_true rfl, Nat.le_of_ble_eq_true rfl⟩ hl (Nat.le_of_ble_eq_true rfl) rfl dX3_join_34 ?_
  refine zo_callD C B (r := some (.int (iZ (aR (c) (z).toNat (some (jo ((c) (f).toNat) ((c) (g).toNat) (h))))))) (c_X3_fill l D cJ o a (c) ((((ac)))) ((((re)))) ((((kn)))) (z) (jo ((c) (f).toNat) ((c) (g).toNat) (h)) (by omega) (by exact jo33 q2_0 q9_0)) ml_X3_29 rfl ⟨Nat.le_of_ble_eq_true rfl, Nat.le_of_ble_eq_true rfl⟩ ⟨Nat.le_of_ble_eq_true rfl, Nat.le_of_ble_eq_true rfl⟩ hl (Nat.le_of_ble_eq_true rfl) rfl dX3_join_37 (fun H locs B => ?_)
  have q37_0 := aR_rng ((c)) (z).toNat (some (jo ((c) (f).toNat) ((c) (g).toNat) (h)))
  have hw : (some (jo (c f.toNat) (c g.toNat) h)) = some (jo ((c) (f).toNat) ((c) (g).toNat) (h)) := by rfl
  exact zo_iret C B hr hk (Nat.le_of_ble_eq_true rfl) (Nat.le_of_ble_eq_true rfl) dX3_join_40 (by show some _ = some _; rw [hw] <;> rfl) (by rw [hw] <;> rfl) (by rw [hw] <;> rfl)

set_option maxHeartbeats 4000000 in
set_option maxRecDepth 100000 in
theorem c_X3_times (l : Launch) (D : va_G) (cJ : ClassId) (o a : Nat) (c : Nat → Nat) (ac : Int32) (re : Int32) (kn : Int32) (f : Int) (g : Int) (z : Int) (hf : 0 ≤ f ∧ f ≤ 5) (hg : 0 ≤ g ∧ g ≤ 5) (hz : 0 ≤ z ∧ z ≤ 5) : zA l yX3_times 4 118 0 0 D 2 cJ o a [.int (iZ (f)), .int (iZ (g)), .int (iZ (z))] c [.int (ac), .int (re), .int (kn)] (fun v => v = some (.int (iZ (aR c (z.toNat) (wT (c f.toNat) (c g.toNat)))))) (aC c (z.toNat) (wT (c f.toNat) (c g.toNat))) [.int (aA ac (wT (c f.toNat) (c g.toNat))), .int (aF re (wT (c f.toNat) (c g.toNat))), .int (kn)] := by
  refine zA.intro (lo := 91) (nA := 3) (own := RX3) zi_X3_times (by decide) rfl rfl (by decide +kernel) rfl (Nat.le_of_ble_eq_true rfl) ?_
  intro p e s m below meth c0 ls C hr hk B hl
  have hl : lv_has ls 8 [(0, .ref o), (1, .int (iZ (f))), (2, .int (iZ (g))), (3, .int (iZ (z)))] := hl
  refine lv_aload_n C.1 C.2.1 dX3_times_0 rfl (lv_at hl 0 rfl) ?_
  refine lv_iload_n C.1 C.2.1 dX3_times_1 rfl (lv_at hl 1 rfl) ?_
  refine zo_callD C B (r := some (.long (lN ((c) (f).toNat)))) (c_X3_polyIn l D cJ o a (c) (ac) (re) (kn) (f) (by first | assumption | omega | rfl | exact decide_eq_false (by omega) | exact decide_eq_true (by assumption) | exact decide_eq_true (by omega) | exact one_shl33 (by omega) | exact pm_lt _ _ | exact rm_lt (by first | assumption | exact pm_lt _ _) | exact Nat.lt_of_le_of_lt (Nat.shiftRight_le _ _) (by assumption) | exact Nat.lt_of_le_of_lt Nat.and_le_right (by omega))) ml_X3_43 rfl ⟨Nat.le_of_ble_eq_true rfl, Nat.le_of_ble_eq_true rfl⟩ ⟨Nat.le_of_ble_eq_true rfl, Nat.le_of_ble_eq_true rfl⟩ hl (Nat.le_of_ble_eq_true rfl) rfl dX3_times_2 (fun H locs B => ?_)
  have q2_0 := B.1.2.2.2 ((f)).toNat
  refine lv_lstore (lv' := [(4, .long (lN ((c) (f).toNat))), (0, .ref o), (1, .int (iZ (f))), (2, .int (iZ (g))), (3, .int (iZ (z)))]) C.1 C.2.1 dX3_times_5 hl (by decide) rfl (fun ls hl => ?_)
  refine lv_aload_n C.1 C.2.1 dX3_times_7 rfl (lv_at hl 1 rfl) ?_
  refine lv_iload_n C.1 C.2.1 dX3_times_8 rfl (lv_at hl 3 rfl) ?_
  refine zo_callD C B (r := some (.long (lN ((c) (g).toNat)))) (c_X3_polyIn l D cJ o a (c) ((ac)) ((re)) ((kn)) (g) (by first | assumption | omega | rfl | exact decide_eq_false (by omega) | exact decide_eq_true (by assumption) | exact decide_eq_true (by omega) | exact one_shl33 (by omega) | exact pm_lt _ _ | exact rm_lt (by first | assumption | exact pm_lt _ _) | exact Nat.lt_of_le_of_lt (Nat.shiftRight_le _ _) (by assumption) | exact Nat.lt_of_le_of_lt Nat.and_le_right (by omega))) ml_X3_43 rfl ⟨Nat.le_of_ble_eq_true rfl, Nat.le_of_ble_eq_true rfl⟩ ⟨Nat.le_of_ble_eq_true rfl, Nat.le_of_ble_eq_true rfl⟩ hl (Nat.le_of_ble_eq_true rfl) rfl dX3_times_9 (fun H locs B => ?_)
  have q9_0 := B.1.2.2.2 ((g)).toNat
  refine lv_lstore (lv' := [(6, .long (lN ((c) (g).toNat))), (4, .long (lN ((c) (f).toNat))), (0, .ref o), (1, .int (iZ (f))), (2, .int (iZ (g))), (3, .int (iZ (z)))]) C.1 C.2.1 dX3_times_12 hl (by decide) rfl (fun ls hl => ?_)
  refine lv_aload_n C.1 C.2.1 dX3_times_14 rfl (lv_at hl 2 rfl) ?_
  refine lv_iload_n C.1 C.2.1 dX3_times_15 rfl (lv_at hl 5 rfl) ?_
  refine zo_callD C B (r := none) (c_X3_checkCell l D cJ o a (c) (((ac))) (((re))) (((kn))) (z) (by first | assumption | omega | rfl | exact decide_eq_false (by omega) | exact decide_eq_true (by assumption) | exact decide_eq_true (by omega) | exact one_shl33 (by omega) | exact pm_lt _ _ | exact rm_lt (by first | assumption | exact pm_lt _ _) | exact Nat.lt_of_le_of_lt (Nat.shiftRight_le _ _) (by assumption) | exact Nat.lt_of_le_of_lt Nat.and_le_right (by omega))) ml_X3_23 rfl ⟨Nat.le_of_ble_eq_true rfl, Nat.le_of_ble_eq_true rfl⟩ ⟨Nat.le_of_ble_eq_true rfl, Nat.le_of_ble_eq_true rfl⟩ hl (Nat.le_of_ble_eq_true rfl) rfl dX3_times_16 (fun H locs B => ?_)
  refine lv_aload_n C.1 C.2.1 dX3_times_19 rfl (lv_at hl 2 rfl) ?_
  refine lv_iload_n C.1 C.2.1 dX3_times_20 rfl (lv_at hl 5 rfl) ?_
  refine lv_lload C.1 C.2.1 dX3_times_21 (lv_at hl 1 rfl) ?_
  refine lv_lload C.1 C.2.1 dX3_times_23 (lv_at hl 0 rfl) ?_
  refine zo_callD C B (r := some (.int (iZ (aR (c) ((z).toNat) (wT ((c) (f).toNat) ((c) (g).toNat)))))) (c_X3_fillProduct l D cJ o a (c) ((((ac)))) ((((re)))) ((((kn)))) (z) ((c) (f).toNat) ((c) (g).toNat) (by first | assumption | omega | rfl | exact decide_eq_false (by omega) | exact decide_eq_true (by assumption) | exact decide_eq_true (by omega) | exact one_shl33 (by omega) | exact pm_lt _ _ | exact rm_lt (by first | assumption | exact pm_lt _ _) | exact Nat.lt_of_le_of_lt (Nat.shiftRight_le _ _) (by assumption) | exact Nat.lt_of_le_of_lt Nat.and_le_right (by omega)) (by first | assumption | omega | rfl | exact decide_eq_false (by omega) | exact decide_eq_true (by assumption) | exact decide_eq_true (by omega) | exact one_shl33 (by omega) | exact pm_lt _ _ | exact rm_lt (by first | assumption | exact pm_lt _ _) | exact Nat.lt_of_le_of_lt (Nat.shiftRight_le _ _) (by assumption) | exact Nat.lt_of_le_of_lt Nat.and_le_right (by omega)) (by first | assumption | omega | rfl | exact decide_eq_false (by omega) | exact decide_eq_true (by assumption) | exact decide_eq_true (by omega) | exact one_shl33 (by omega) | exact pm_lt _ _ | exact rm_lt (by first | assumption | exact pm_lt _ _) | exact Nat.lt_of_le_of_lt (Nat.shiftRight_le _ _) (by assumption) | exact Nat.lt_of_le_of_lt Nat.and_le_right (by omega))) ml_X3_65 rfl ⟨Nat.le_of_ble_eq_true rfl, Nat.le_of_ble_eq_true rfl⟩ ⟨Nat.le_of_ble_eq_true rfl, Nat.le_of_ble_eq_true rfl⟩ hl (Nat.le_of_ble_eq_true rfl) rfl dX3_times_25 (fun H locs B => ?_)
  have q25_0 := aR_rng ((c)) ((z).toNat) (wT ((c) (f).toNat) ((c) (g).toNat))
  have hw : (wT (c f.toNat) (c g.toNat)) = wT ((c) (f).toNat) ((c) (g).toNat) := by rfl
  exact zo_iret C B hr hk (Nat.le_of_ble_eq_true rfl) (Nat.le_of_ble_eq_true rfl) dX3_times_28 (by show some _ = some _; rw [hw] <;> rfl) (by rw [hw] <;> rfl) (by rw [hw] <;> rfl)

set_option maxHeartbeats 4000000 in
set_option maxRecDepth 100000 in
theorem c_X3_square (l : Launch) (D : va_G) (cJ : ClassId) (o a : Nat) (c : Nat → Nat) (ac : Int32) (re : Int32) (kn : Int32) (f : Int) (z : Int) (hf : 0 ≤ f ∧ f ≤ 5) (hz : 0 ≤ z ∧ z ≤ 5) : zA l yX3_square 4 115 0 0 D 2 cJ o a [.int (iZ (f)), .int (iZ (z))] c [.int (ac), .int (re), .int (kn)] (fun v => v = some (.int (iZ (aR c (z.toNat) (wT (c f.toNat) (c f.toNat)))))) (aC c (z.toNat) (wT (c f.toNat) (c f.toNat))) [.int (aA ac (wT (c f.toNat) (c f.toNat))), .int (aF re (wT (c f.toNat) (c f.toNat))), .int (kn)] := by
  refine zA.intro (lo := 91) (nA := 2) (own := RX3) zi_X3_square (by decide) rfl rfl (by decide +kernel) rfl (Nat.le_of_ble_eq_true rfl) ?_
  intro p e s m below meth c0 ls C hr hk B hl
  have hl : lv_has ls 5 [(0, .ref o), (1, .int (iZ (f))), (2, .int (iZ (z)))] := hl
  refine lv_aload_n C.1 C.2.1 dX3_square_0 rfl (lv_at hl 0 rfl) ?_
  refine lv_iload_n C.1 C.2.1 dX3_square_1 rfl (lv_at hl 1 rfl) ?_
  refine zo_callD C B (r := some (.long (lN ((c) (f).toNat)))) (c_X3_polyIn l D cJ o a (c) (ac) (re) (kn) (f) (by first | assumption | omega | rfl | exact decide_eq_false (by omega) | exact decide_eq_true (by assumption) | exact decide_eq_true (by omega) | exact one_shl33 (by omega) | exact pm_lt _ _ | exact rm_lt (by first | assumption | exact pm_lt _ _) | exact Nat.lt_of_le_of_lt (Nat.shiftRight_le _ _) (by assumption) | exact Nat.lt_of_le_of_lt Nat.and_le_right (by omega))) ml_X3_43 rfl ⟨Nat.le_of_ble_eq_true rfl, Nat.le_of_ble_eq_true rfl⟩ ⟨Nat.le_of_ble_eq_true rfl, Nat.le_of_ble_eq_true rfl⟩ hl (Nat.le_of_ble_eq_true rfl) rfl dX3_square_2 (fun H locs B => ?_)
  have q2_0 := B.1.2.2.2 ((f)).toNat
  refine lv_lstore_n (lv' := [(3, .long (lN ((c) (f).toNat))), (0, .ref o), (1, .int (iZ (f))), (2, .int (iZ (z)))]) C.1 C.2.1 dX3_square_5 rfl hl (by decide) rfl (fun ls hl => ?_)
  refine lv_aload_n C.1 C.2.1 dX3_square_6 rfl (lv_at hl 1 rfl) ?_
  refine lv_iload_n C.1 C.2.1 dX3_square_7 rfl (lv_at hl 3 rfl) ?_
  refine zo_callD C B (r := none) (c_X3_checkCell l D cJ o a (c) ((ac)) ((re)) ((kn)) (z) (by first | assumption | omega | rfl | exact decide_eq_false (by omega) | exact decide_eq_true (by assumption) | exact decide_eq_true (by omega) | exact one_shl33 (by omega) | exact pm_lt _ _ | exact rm_lt (by first | assumption | exact pm_lt _ _) | exact Nat.lt_of_le_of_lt (Nat.shiftRight_le _ _) (by assumption) | exact Nat.lt_of_le_of_lt Nat.and_le_right (by omega))) ml_X3_23 rfl ⟨Nat.le_of_ble_eq_true rfl, Nat.le_of_ble_eq_true rfl⟩ ⟨Nat.le_of_ble_eq_true rfl, Nat.le_of_ble_eq_true rfl⟩ hl (Nat.le_of_ble_eq_true rfl) rfl dX3_square_8 (fun H locs B => ?_)
  refine lv_aload_n C.1 C.2.1 dX3_square_11 rfl (lv_at hl 1 rfl) ?_
  refine lv_iload_n C.1 C.2.1 dX3_square_12 rfl (lv_at hl 3 rfl) ?_
  refine lv_lload_n C.1 C.2.1 dX3_square_13 rfl (lv_at hl 0 rfl) ?_
  refine lv_lload_n C.1 C.2.1 dX3_square_14 rfl (lv_at hl 0 rfl) ?_
  refine zo_callD C B (r := some (.int (iZ (aR (c) ((z).toNat) (wT ((c) (f).toNat) ((c) (f).toNat)))))) (c_X3_fillProduct l D cJ o a (c) (((ac))) (((re))) (((kn))) (z) ((c) (f).toNat) ((c) (f).toNat) (by first | assumption | omega | rfl | exact decide_eq_false (by omega) | exact decide_eq_true (by assumption) | exact decide_eq_true (by omega) | exact one_shl33 (by omega) | exact pm_lt _ _ | exact rm_lt (by first | assumption | exact pm_lt _ _) | exact Nat.lt_of_le_of_lt (Nat.shiftRight_le _ _) (by assumption) | exact Nat.lt_of_le_of_lt Nat.and_le_right (by omega)) (by first | assumption | omega | rfl | exact decide_eq_false (by omega) | exact decide_eq_true (by assumption) | exact decide_eq_true (by omega) | exact one_shl33 (by omega) | exact pm_lt _ _ | exact rm_lt (by first | assumption | exact pm_lt _ _) | exact Nat.lt_of_le_of_lt (Nat.shiftRight_le _ _) (by assumption) | exact Nat.lt_of_le_of_lt Nat.and_le_right (by omega)) (by first | assumption | omega | rfl | exact decide_eq_false (by omega) | exact decide_eq_true (by assumption) | exact decide_eq_true (by omega) | exact one_shl33 (by omega) | exact pm_lt _ _ | exact rm_lt (by first | assumption | exact pm_lt _ _) | exact Nat.lt_of_le_of_lt (Nat.shiftRight_le _ _) (by assumption) | exact Nat.lt_of_le_of_lt Nat.and_le_right (by omega))) ml_X3_65 rfl ⟨Nat.le_of_ble_eq_true rfl, Nat.le_of_ble_eq_true rfl⟩ ⟨Nat.le_of_ble_eq_true rfl, Nat.le_of_ble_eq_true rfl⟩ hl (Nat.le_of_ble_eq_true rfl) rfl dX3_square_15 (fun H locs B => ?_)
  have q15_0 := aR_rng ((c)) ((z).toNat) (wT ((c) (f).toNat) ((c) (f).toNat))
  have hw : (wT (c f.toNat) (c f.toNat)) = wT ((c) (f).toNat) ((c) (f).toNat) := by rfl
  exact zo_iret C B hr hk (Nat.le_of_ble_eq_true rfl) (Nat.le_of_ble_eq_true rfl) dX3_square_18 (by show some _ = some _; rw [hw] <;> rfl) (by rw [hw] <;> rfl) (by rw [hw] <;> rfl)

set_option maxHeartbeats 4000000 in
set_option maxRecDepth 100000 in
theorem c_X3_shift (l : Launch) (D : va_G) (cJ : ClassId) (o a : Nat) (c : Nat → Nat) (ac : Int32) (re : Int32) (kn : Int32) (f : Int) (g : Int) (z : Int) (hf : 0 ≤ f ∧ f ≤ 5) (hg : -32 ≤ g ∧ g ≤ 32) (hz : 0 ≤ z ∧ z ≤ 5) : zA l yX3_shift 3 91 0 0 D 2 cJ o a [.int (iZ (f)), .int (iZ (g)), .int (iZ (z))] c [.int (ac), .int (re), .int (kn)] (fun v => v = some (.int (iZ (aR c (z.toNat) (wS (c f.toNat) g))))) (aC c (z.toNat) (wS (c f.toNat) g)) [.int (aA ac (wS (c f.toNat) g)), .int (aF re (wS (c f.toNat) g)), .int (kn)] := by
  refine zA.intro (lo := 66) (nA := 3) (own := RX3) zi_X3_shift (by decide) rfl rfl (by decide +kernel) rfl (Nat.le_of_ble_eq_true rfl) ?_
  intro p e s m below meth c0 ls C hr hk B hl
  have hl : lv_has ls 6 [(0, .ref o), (1, .int (iZ (f))), (2, .int (iZ (g))), (3, .int (iZ (z)))] := hl
  refine lv_aload_n C.1 C.2.1 dX3_shift_0 rfl (lv_at hl 0 rfl) ?_
  refine lv_iload_n C.1 C.2.1 dX3_shift_1 rfl (lv_at hl 1 rfl) ?_
  refine zo_callD C B (r := some (.long (lN ((c) (f).toNat)))) (c_X3_polyIn l D cJ o a (c) (ac) (re) (kn) (f) (by first | assumption | omega | rfl | exact decide_eq_false (by omega) | exact decide_eq_true (by assumption) | exact decide_eq_true (by omega) | exact one_shl33 (by omega) | exact pm_lt _ _ | exact rm_lt (by first | assumption | exact pm_lt _ _) | exact Nat.lt_of_le_of_lt (Nat.shiftRight_le _ _) (by assumption) | exact Nat.lt_of_le_of_lt Nat.and_le_right (by omega))) ml_X3_43 rfl ⟨Nat.le_of_ble_eq_true rfl, Nat.le_of_ble_eq_true rfl⟩ ⟨Nat.le_of_ble_eq_true rfl, Nat.le_of_ble_eq_true rfl⟩ hl (Nat.le_of_ble_eq_true rfl) rfl dX3_shift_2 (fun H locs B => ?_)
  have q2_0 := B.1.2.2.2 ((f)).toNat
  refine lv_lstore (lv' := [(4, .long (lN ((c) (f).toNat))), (0, .ref o), (1, .int (iZ (f))), (2, .int (iZ (g))), (3, .int (iZ (z)))]) C.1 C.2.1 dX3_shift_5 hl (by decide) rfl (fun ls hl => ?_)
  refine lv_aload_n C.1 C.2.1 dX3_shift_7 rfl (lv_at hl 1 rfl) ?_
  refine lv_iload_n C.1 C.2.1 dX3_shift_8 rfl (lv_at hl 4 rfl) ?_
  refine zo_callD C B (r := none) (c_X3_checkCell l D cJ o a (c) ((ac)) ((re)) ((kn)) (z) (by first | assumption | omega | rfl | exact decide_eq_false (by omega) | exact decide_eq_true (by assumption) | exact decide_eq_true (by omega) | exact one_shl33 (by omega) | exact pm_lt _ _ | exact rm_lt (by first | assumption | exact pm_lt _ _) | exact Nat.lt_of_le_of_lt (Nat.shiftRight_le _ _) (by assumption) | exact Nat.lt_of_le_of_lt Nat.and_le_right (by omega))) ml_X3_23 rfl ⟨Nat.le_of_ble_eq_true rfl, Nat.le_of_ble_eq_true rfl⟩ ⟨Nat.le_of_ble_eq_true rfl, Nat.le_of_ble_eq_true rfl⟩ hl (Nat.le_of_ble_eq_true rfl) rfl dX3_shift_9 (fun H locs B => ?_)
  refine lv_iload_n C.1 C.2.1 dX3_shift_12 rfl (lv_at hl 3 rfl) ?_
  refine z_bipush C dX3_shift_13 (by decide) ?_
  refine z_bipush C dX3_shift_15 (by decide) ?_
  refine z_callv C (c_X3_checkRange l (g) (-32 : Int) (32 : Int) (by first | assumption | omega | rfl | exact decide_eq_false (by omega) | exact decide_eq_true (by assumption) | exact decide_eq_true (by omega) | exact one_shl33 (by omega) | exact pm_lt _ _ | exact rm_lt (by first | assumption | exact pm_lt _ _) | exact Nat.lt_of_le_of_lt (Nat.shiftRight_le _ _) (by assumption) | exact Nat.lt_of_le_of_lt Nat.and_le_right (by omega))) ml_X3_33 ⟨by decide, by decide⟩ ⟨Nat.le_of_ble_eq_true rfl, Nat.le_of_ble_eq_true rfl⟩ hl (Nat.le_of_ble_eq_true rfl) rfl dX3_shift_17 ?_
  refine lv_lload C.1 C.2.1 dX3_shift_20 (lv_at hl 0 rfl) ?_
  refine z_lconst (k0 := 0) C dX3_shift_22 rfl ?_
  refine z_lc_eq (tgt := 44) C (by first | assumption | omega | rfl | exact decide_eq_false (by omega) | exact decide_eq_true (by assumption) | exact decide_eq_true (by omega) | exact one_shl33 (by omega) | exact pm_lt _ _ | exact rm_lt (by first | assumption | exact pm_lt _ _) | exact Nat.lt_of_le_of_lt (Nat.shiftRight_le _ _) (by assumption) | exact Nat.lt_of_le_of_lt Nat.and_le_right (by omega)) (by first | assumption | omega | rfl | exact decide_eq_false (by omega) | exact decide_eq_true (by assumption) | exact decide_eq_true (by omega) | exact one_shl33 (by omega) | exact pm_lt _ _ | exact rm_lt (by first | assumption | exact pm_lt _ _) | exact Nat.lt_of_le_of_lt (Nat.shiftRight_le _ _) (by assumption) | exact Nat.lt_of_le_of_lt Nat.and_le_right (by omega)) dX3_shift_23 dX3_shift_24 (by decide) (fun h23 => ?_) (fun h23 => ?_)
  · refine lv_aload_n C.1 C.2.1 dX3_shift_44 rfl (lv_at hl 1 rfl) ?_
    refine lv_iload_n C.1 C.2.1 dX3_shift_45 rfl (lv_at hl 4 rfl) ?_
    refine lv_iload_n C.1 C.2.1 dX3_shift_46 rfl (lv_at hl 3 rfl) ?_
    refine z_if_lt (tgt := 57) C (by omega) dX3_shift_47 (by decide) (fun h47 => ?_) (fun h47 => ?_)
    · refine lv_lload C.1 C.2.1 dX3_shift_57 (lv_at hl 0 rfl) ?_
      refine lv_iload_n C.1 C.2.1 dX3_shift_59 rfl (lv_at hl 3 rfl) ?_
      refine z_ineg C dX3_shift_60 ?_
      refine z_lushr C ((-(g)).toNat) (by first | assumption | omega | rfl | exact decide_eq_false (by omega) | exact decide_eq_true (by assumption) | exact decide_eq_true (by omega) | exact one_shl33 (by omega) | exact pm_lt _ _ | exact rm_lt (by first | assumption | exact pm_lt _ _) | exact Nat.lt_of_le_of_lt (Nat.shiftRight_le _ _) (by assumption) | exact Nat.lt_of_le_of_lt Nat.and_le_right (by omega)) (by omega) (by omega) dX3_shift_61 ?_
      refine zo_callD C B (r := some (.int (iZ (aR (c) (z).toNat (some (((c) (f).toNat) >>> ((-(g)).toNat))))))) (c_X3_fill l D cJ o a (c) (((ac))) (((re))) (((kn))) (z) (((c) (f).toNat) >>> ((-(g)).toNat)) (by omega) (by exact shr33 q2_0)) ml_X3_29 rfl ⟨Nat.le_of_ble_eq_true rfl, Nat.le_of_ble_eq_true rfl⟩ ⟨Nat.le_of_ble_eq_true rfl, Nat.le_of_ble_eq_true rfl⟩ hl (Nat.le_of_ble_eq_true rfl) rfl dX3_shift_62 (fun H locs B => ?_)
      have q62_0 := aR_rng ((c)) (z).toNat (some (((c) (f).toNat) >>> ((-(g)).toNat)))
      have hw : (wS (c f.toNat) g) = some (((c) (f).toNat) >>> ((-(g)).toNat)) := by rw [wS, if_neg (fun h => h.1 h23), if_neg (by omega)]
      exact zo_iret C B hr hk (Nat.le_of_ble_eq_true rfl) (Nat.le_of_ble_eq_true rfl) dX3_shift_65 (by show some _ = some _; rw [hw] <;> rfl) (by rw [hw] <;> rfl) (by rw [hw] <;> rfl)
    · refine lv_lload C.1 C.2.1 dX3_shift_50 (lv_at hl 0 rfl) ?_
      refine lv_iload_n C.1 C.2.1 dX3_shift_52 rfl (lv_at hl 3 rfl) ?_
      refine z_lshl C ((g).toNat) (by omega) (by omega) dX3_shift_53 ?_
      refine lv_goto (tgt := 62) C.1 C.2.1 dX3_shift_54 (by decide) ?_
      refine zo_callD C B (r := some (.int (iZ (aR (c) (z).toNat (some (((c) (f).toNat) <<< ((g).toNat))))))) (c_X3_fill l D cJ o a (c) (((ac))) (((re))) (((kn))) (z) (((c) (f).toNat) <<< ((g).toNat)) (by omega) (by rw [h23]; rw [Nat.zero_shiftLeft]; omega)) ml_X3_29 rfl ⟨Nat.le_of_ble_eq_true rfl, Nat.le_of_ble_eq_true rfl⟩ ⟨Nat.le_of_ble_eq_true rfl, Nat.le_of_ble_eq_true rfl⟩ hl (Nat.le_of_ble_eq_true rfl) rfl dX3_shift_62 (fun H locs B => ?_)
      have q62_0 := aR_rng ((c)) (z).toNat (some (((c) (f).toNat) <<< ((g).toNat)))
      have hw : (wS (c f.toNat) g) = some (((c) (f).toNat) <<< ((g).toNat)) := by rw [wS, if_neg (fun h => h.1 h23), if_pos (by omega)]
      exact zo_iret C B hr hk (Nat.le_of_ble_eq_true rfl) (Nat.le_of_ble_eq_true rfl) dX3_shift_65 (by show some _ = some _; rw [hw] <;> rfl) (by rw [hw] <;> rfl) (by rw [hw] <;> rfl)
  · refine lv_lload C.1 C.2.1 dX3_shift_27 (lv_at hl 0 rfl) ?_
    refine z_call C (c_X1_topPlace l ((c) (f).toNat) (by first | assumption | omega | rfl | exact decide_eq_false (by omega) | exact decide_eq_true (by assumption) | exact decide_eq_true (by omega) | exact one_shl33 (by omega) | exact pm_lt _ _ | exact rm_lt (by first | assumption | exact pm_lt _ _) | exact Nat.lt_of_le_of_lt (Nat.shiftRight_le _ _) (by assumption) | exact Nat.lt_of_le_of_lt Nat.and_le_right (by omega))) ml_X3_69 ⟨by decide, by decide⟩ ⟨Nat.le_of_ble_eq_true rfl, Nat.le_of_ble_eq_true rfl⟩ hl (Nat.le_of_ble_eq_true rfl) rfl dX3_shift_29 ?_
    have q29_0 := tp_rngE ((c) (f).toNat) (by first | assumption | omega)
    refine lv_iload_n C.1 C.2.1 dX3_shift_32 rfl (lv_at hl 3 rfl) ?_
    refine z_iadd C dX3_shift_33 ?_
    refine z_bipush C dX3_shift_34 (by decide) ?_
    refine z_icmp_le (tgt := 44) C (by omega) (by omega) dX3_shift_36 (by decide) (fun h36 => ?_) (fun h36 => ?_)
    · refine lv_aload_n C.1 C.2.1 dX3_shift_44 rfl (lv_at hl 1 rfl) ?_
      refine lv_iload_n C.1 C.2.1 dX3_shift_45 rfl (lv_at hl 4 rfl) ?_
      refine lv_iload_n C.1 C.2.1 dX3_shift_46 rfl (lv_at hl 3 rfl) ?_
      refine z_if_lt (tgt := 57) C (by omega) dX3_shift_47 (by decide) (fun h47 => ?_) (fun h47 => ?_)
      · refine lv_lload C.1 C.2.1 dX3_shift_57 (lv_at hl 0 rfl) ?_
        refine lv_iload_n C.1 C.2.1 dX3_shift_59 rfl (lv_at hl 3 rfl) ?_
        refine z_ineg C dX3_shift_60 ?_
        refine z_lushr C ((-(g)).toNat) (by first | assumption | omega | rfl | exact decide_eq_false (by omega) | exact decide_eq_true (by assumption) | exact decide_eq_true (by omega) | exact one_shl33 (by omega) | exact pm_lt _ _ | exact rm_lt (by first | assumption | exact pm_lt _ _) | exact Nat.lt_of_le_of_lt (Nat.shiftRight_le _ _) (by assumption) | exact Nat.lt_of_le_of_lt Nat.and_le_right (by omega)) (by omega) (by omega) dX3_shift_61 ?_
        refine zo_callD C B (r := some (.int (iZ (aR (c) (z).toNat (some (((c) (f).toNat) >>> ((-(g)).toNat))))))) (c_X3_fill l D cJ o a (c) (((ac))) (((re))) (((kn))) (z) (((c) (f).toNat) >>> ((-(g)).toNat)) (by omega) (by exact shr33 q2_0)) ml_X3_29 rfl ⟨Nat.le_of_ble_eq_true rfl, Nat.le_of_ble_eq_true rfl⟩ ⟨Nat.le_of_ble_eq_true rfl, Nat.le_of_ble_eq_true rfl⟩ hl (Nat.le_of_ble_eq_true rfl) rfl dX3_shift_62 (fun H locs B => ?_)
        have q62_0 := aR_rng ((c)) (z).toNat (some (((c) (f).toNat) >>> ((-(g)).toNat)))
        have hw : (wS (c f.toNat) g) = some (((c) (f).toNat) >>> ((-(g)).toNat)) := by rw [wS, if_neg (fun h => absurd h.2 (by omega)), if_neg (by omega)]
        exact zo_iret C B hr hk (Nat.le_of_ble_eq_true rfl) (Nat.le_of_ble_eq_true rfl) dX3_shift_65 (by show some _ = some _; rw [hw] <;> rfl) (by rw [hw] <;> rfl) (by rw [hw] <;> rfl)
      · refine lv_lload C.1 C.2.1 dX3_shift_50 (lv_at hl 0 rfl) ?_
        refine lv_iload_n C.1 C.2.1 dX3_shift_52 rfl (lv_at hl 3 rfl) ?_
        refine z_lshl C ((g).toNat) (by omega) (by omega) dX3_shift_53 ?_
        refine lv_goto (tgt := 62) C.1 C.2.1 dX3_shift_54 (by decide) ?_
        refine zo_callD C B (r := some (.int (iZ (aR (c) (z).toNat (some (((c) (f).toNat) <<< ((g).toNat))))))) (c_X3_fill l D cJ o a (c) (((ac))) (((re))) (((kn))) (z) (((c) (f).toNat) <<< ((g).toNat)) (by omega) (by exact shl33 (by omega) (by omega))) ml_X3_29 rfl ⟨Nat.le_of_ble_eq_true rfl, Nat.le_of_ble_eq_true rfl⟩ ⟨Nat.le_of_ble_eq_true rfl, Nat.le_of_ble_eq_true rfl⟩ hl (Nat.le_of_ble_eq_true rfl) rfl dX3_shift_62 (fun H locs B => ?_)
        have q62_0 := aR_rng ((c)) (z).toNat (some (((c) (f).toNat) <<< ((g).toNat)))
        have hw : (wS (c f.toNat) g) = some (((c) (f).toNat) <<< ((g).toNat)) := by rw [wS, if_neg (fun h => absurd h.2 (by omega)), if_pos (by omega)]
        exact zo_iret C B hr hk (Nat.le_of_ble_eq_true rfl) (Nat.le_of_ble_eq_true rfl) dX3_shift_65 (by show some _ = some _; rw [hw] <;> rfl) (by rw [hw] <;> rfl) (by rw [hw] <;> rfl)
    · refine lv_aload_n C.1 C.2.1 dX3_shift_39 rfl (lv_at hl 1 rfl) ?_
      refine zo_callD C B (r := some (.int (iZ (-9)))) (c_X3_refuse l D cJ o a (c) (((ac))) (((re))) (((kn)))  ) ml_X3_73 rfl ⟨Nat.le_of_ble_eq_true rfl, Nat.le_of_ble_eq_true rfl⟩ ⟨Nat.le_of_ble_eq_true rfl, Nat.le_of_ble_eq_true rfl⟩ hl (Nat.le_of_ble_eq_true rfl) rfl dX3_shift_40 (fun H locs B => ?_)
      have hw : (wS (c f.toNat) g) = none := by exact if_pos ⟨h23, by omega⟩
      exact zo_iret C B hr hk (Nat.le_of_ble_eq_true rfl) (Nat.le_of_ble_eq_true rfl) dX3_shift_43 (by show some _ = some _; rw [hw] <;> rfl) (by rw [hw] <;> rfl) (by rw [hw] <;> rfl)

set_option maxHeartbeats 4000000 in
set_option maxRecDepth 100000 in
theorem c_X3_quotient (l : Launch) (D : va_G) (cJ : ClassId) (o a : Nat) (c : Nat → Nat) (ac : Int32) (re : Int32) (kn : Int32) (f : Int) (g : Int) (z : Int) (hf : 0 ≤ f ∧ f ≤ 5) (hg : 0 ≤ g ∧ g ≤ 5) (hz : 0 ≤ z ∧ z ≤ 5) : zA l yX3_quotient 3 93 0 0 D 2 cJ o a [.int (iZ (f)), .int (iZ (g)), .int (iZ (z))] c [.int (ac), .int (re), .int (kn)] (fun v => v = some (.int (iZ (aR c (z.toNat) (wQ (c f.toNat) (c g.toNat)))))) (aC c (z.toNat) (wQ (c f.toNat) (c g.toNat))) [.int (aA ac (wQ (c f.toNat) (c g.toNat))), .int (aF re (wQ (c f.toNat) (c g.toNat))), .int (kn)] := by
  refine zA.intro (lo := 66) (nA := 3) (own := RX3) zi_X3_quotient (by decide) rfl rfl (by decide +kernel) rfl (Nat.le_of_ble_eq_true rfl) ?_
  intro p e s m below meth c0 ls C hr hk B hl
  have hl : lv_has ls 8 [(0, .ref o), (1, .int (iZ (f))), (2, .int (iZ (g))), (3, .int (iZ (z)))] := hl
  refine lv_aload_n C.1 C.2.1 dX3_quotient_0 rfl (lv_at hl 0 rfl) ?_
  refine lv_iload_n C.1 C.2.1 dX3_quotient_1 rfl (lv_at hl 1 rfl) ?_
  refine zo_callD C B (r := some (.long (lN ((c) (f).toNat)))) (c_X3_polyIn l D cJ o a (c) (ac) (re) (kn) (f) (by first | assumption | omega | rfl | exact decide_eq_false (by omega) | exact decide_eq_true (by assumption) | exact decide_eq_true (by omega) | exact one_shl33 (by omega) | exact pm_lt _ _ | exact rm_lt (by first | assumption | exact pm_lt _ _) | exact Nat.lt_of_le_of_lt (Nat.shiftRight_le _ _) (by assumption) | exact Nat.lt_of_le_of_lt Nat.and_le_right (by omega))) ml_X3_43 rfl ⟨Nat.le_of_ble_eq_true rfl, Nat.le_of_ble_eq_true rfl⟩ ⟨Nat.le_of_ble_eq_true rfl, Nat.le_of_ble_eq_true rfl⟩ hl (Nat.le_of_ble_eq_true rfl) rfl dX3_quotient_2 (fun H locs B => ?_)
  have q2_0 := B.1.2.2.2 ((f)).toNat
  refine lv_lstore (lv' := [(4, .long (lN ((c) (f).toNat))), (0, .ref o), (1, .int (iZ (f))), (2, .int (iZ (g))), (3, .int (iZ (z)))]) C.1 C.2.1 dX3_quotient_5 hl (by decide) rfl (fun ls hl => ?_)
  refine lv_aload_n C.1 C.2.1 dX3_quotient_7 rfl (lv_at hl 1 rfl) ?_
  refine lv_iload_n C.1 C.2.1 dX3_quotient_8 rfl (lv_at hl 3 rfl) ?_
  refine zo_callD C B (r := some (.long (lN ((c) (g).toNat)))) (c_X3_polyIn l D cJ o a (c) ((ac)) ((re)) ((kn)) (g) (by first | assumption | omega | rfl | exact decide_eq_false (by omega) | exact decide_eq_true (by assumption) | exact decide_eq_true (by omega) | exact one_shl33 (by omega) | exact pm_lt _ _ | exact rm_lt (by first | assumption | exact pm_lt _ _) | exact Nat.lt_of_le_of_lt (Nat.shiftRight_le _ _) (by assumption) | exact Nat.lt_of_le_of_lt Nat.and_le_right (by omega))) ml_X3_43 rfl ⟨Nat.le_of_ble_eq_true rfl, Nat.le_of_ble_eq_true rfl⟩ ⟨Nat.le_of_ble_eq_true rfl, Nat.le_of_ble_eq_true rfl⟩ hl (Nat.le_of_ble_eq_true rfl) rfl dX3_quotient_9 (fun H locs B => ?_)
  have q9_0 := B.1.2.2.2 ((g)).toNat
  refine lv_lstore (lv' := [(6, .long (lN ((c) (g).toNat))), (4, .long (lN ((c) (f).toNat))), (0, .ref o), (1, .int (iZ (f))), (2, .int (iZ (g))), (3, .int (iZ (z)))]) C.1 C.2.1 dX3_quotient_12 hl (by decide) rfl (fun ls hl => ?_)
  refine lv_aload_n C.1 C.2.1 dX3_quotient_14 rfl (lv_at hl 2 rfl) ?_
  refine lv_iload_n C.1 C.2.1 dX3_quotient_15 rfl (lv_at hl 5 rfl) ?_
  refine zo_callD C B (r := none) (c_X3_checkCell l D cJ o a (c) (((ac))) (((re))) (((kn))) (z) (by first | assumption | omega | rfl | exact decide_eq_false (by omega) | exact decide_eq_true (by assumption) | exact decide_eq_true (by omega) | exact one_shl33 (by omega) | exact pm_lt _ _ | exact rm_lt (by first | assumption | exact pm_lt _ _) | exact Nat.lt_of_le_of_lt (Nat.shiftRight_le _ _) (by assumption) | exact Nat.lt_of_le_of_lt Nat.and_le_right (by omega))) ml_X3_23 rfl ⟨Nat.le_of_ble_eq_true rfl, Nat.le_of_ble_eq_true rfl⟩ ⟨Nat.le_of_ble_eq_true rfl, Nat.le_of_ble_eq_true rfl⟩ hl (Nat.le_of_ble_eq_true rfl) rfl dX3_quotient_16 (fun H locs B => ?_)
  refine lv_lload C.1 C.2.1 dX3_quotient_19 (lv_at hl 0 rfl) ?_
  refine z_lconst (k0 := 0) C dX3_quotient_21 rfl ?_
  refine z_lc_ne (tgt := 33) C (by first | assumption | omega | rfl | exact decide_eq_false (by omega) | exact decide_eq_true (by assumption) | exact decide_eq_true (by omega) | exact one_shl33 (by omega) | exact pm_lt _ _ | exact rm_lt (by first | assumption | exact pm_lt _ _) | exact Nat.lt_of_le_of_lt (Nat.shiftRight_le _ _) (by assumption) | exact Nat.lt_of_le_of_lt Nat.and_le_right (by omega)) (by first | assumption | omega | rfl | exact decide_eq_false (by omega) | exact decide_eq_true (by assumption) | exact decide_eq_true (by omega) | exact one_shl33 (by omega) | exact pm_lt _ _ | exact rm_lt (by first | assumption | exact pm_lt _ _) | exact Nat.lt_of_le_of_lt (Nat.shiftRight_le _ _) (by assumption) | exact Nat.lt_of_le_of_lt Nat.and_le_right (by omega)) dX3_quotient_22 dX3_quotient_23 (by decide) (fun h22 => ?_) (fun h22 => ?_)
  · refine lv_aload_n C.1 C.2.1 dX3_quotient_33 rfl (lv_at hl 2 rfl) ?_
    refine lv_iload_n C.1 C.2.1 dX3_quotient_34 rfl (lv_at hl 5 rfl) ?_
    refine lv_lload C.1 C.2.1 dX3_quotient_35 (lv_at hl 1 rfl) ?_
    refine lv_lload C.1 C.2.1 dX3_quotient_37 (lv_at hl 0 rfl) ?_
    refine z_call C (c_X1_quotientOf l ((c) (f).toNat) ((c) (g).toNat) (by first | assumption | omega | rfl | exact decide_eq_false (by omega) | exact decide_eq_true (by assumption) | exact decide_eq_true (by omega) | exact one_shl33 (by omega) | exact pm_lt _ _ | exact rm_lt (by first | assumption | exact pm_lt _ _) | exact Nat.lt_of_le_of_lt (Nat.shiftRight_le _ _) (by assumption) | exact Nat.lt_of_le_of_lt Nat.and_le_right (by omega)) (by first | assumption | omega | rfl | exact decide_eq_false (by omega) | exact decide_eq_true (by assumption) | exact decide_eq_true (by omega) | exact one_shl33 (by omega) | exact pm_lt _ _ | exact rm_lt (by first | assumption | exact pm_lt _ _) | exact Nat.lt_of_le_of_lt (Nat.shiftRight_le _ _) (by assumption) | exact Nat.lt_of_le_of_lt Nat.and_le_right (by omega))) ml_X3_77 ⟨by decide, by decide⟩ ⟨Nat.le_of_ble_eq_true rfl, Nat.le_of_ble_eq_true rfl⟩ hl (Nat.le_of_ble_eq_true rfl) rfl dX3_quotient_39 ?_
    refine zo_callD C B (r := some (.int (iZ (aR (c) (z).toNat (some (qo ((c) (f).toNat) ((c) (g).toNat))))))) (c_X3_fill l D cJ o a (c) ((((ac)))) ((((re)))) ((((kn)))) (z) (qo ((c) (f).toNat) ((c) (g).toNat)) (by omega) (by exact qo33 q2_0 q9_0)) ml_X3_29 rfl ⟨Nat.le_of_ble_eq_true rfl, Nat.le_of_ble_eq_true rfl⟩ ⟨Nat.le_of_ble_eq_true rfl, Nat.le_of_ble_eq_true rfl⟩ hl (Nat.le_of_ble_eq_true rfl) rfl dX3_quotient_42 (fun H locs B => ?_)
    have q42_0 := aR_rng ((c)) (z).toNat (some (qo ((c) (f).toNat) ((c) (g).toNat)))
    have hw : (wQ (c f.toNat) (c g.toNat)) = some (qo ((c) (f).toNat) ((c) (g).toNat)) := by exact if_neg h22
    exact zo_iret C B hr hk (Nat.le_of_ble_eq_true rfl) (Nat.le_of_ble_eq_true rfl) dX3_quotient_45 (by show some _ = some _; rw [hw] <;> rfl) (by rw [hw] <;> rfl) (by rw [hw] <;> rfl)
  · refine lv_aload_n C.1 C.2.1 dX3_quotient_26 rfl (lv_at hl 2 rfl) ?_
    refine zo_callD C B (r := some (.int (iZ (-9)))) (c_X3_refuse l D cJ o a (c) ((((ac)))) ((((re)))) ((((kn))))  ) ml_X3_73 rfl ⟨Nat.le_of_ble_eq_true rfl, Nat.le_of_ble_eq_true rfl⟩ ⟨Nat.le_of_ble_eq_true rfl, Nat.le_of_ble_eq_true rfl⟩ hl (Nat.le_of_ble_eq_true rfl) rfl dX3_quotient_27 (fun H locs B => ?_)
    refine lv_goto (tgt := 45) C.1 C.2.1 dX3_quotient_30 (by decide) ?_
    have hw : (wQ (c f.toNat) (c g.toNat)) = none := by exact if_pos h22
    exact zo_iret C B hr hk (Nat.le_of_ble_eq_true rfl) (Nat.le_of_ble_eq_true rfl) dX3_quotient_45 (by show some _ = some _; rw [hw] <;> rfl) (by rw [hw] <;> rfl) (by rw [hw] <;> rfl)

set_option maxHeartbeats 4000000 in
set_option maxRecDepth 100000 in
theorem c_X3_rest (l : Launch) (D : va_G) (cJ : ClassId) (o a : Nat) (c : Nat → Nat) (ac : Int32) (re : Int32) (kn : Int32) (f : Int) (g : Int) (z : Int) (hf : 0 ≤ f ∧ f ≤ 5) (hg : 0 ≤ g ∧ g ≤ 5) (hz : 0 ≤ z ∧ z ≤ 5) : zA l yX3_rest 3 102 0 0 D 2 cJ o a [.int (iZ (f)), .int (iZ (g)), .int (iZ (z))] c [.int (ac), .int (re), .int (kn)] (fun v => v = some (.int (iZ (aR c (z.toNat) (wM (c f.toNat) (c g.toNat)))))) (aC c (z.toNat) (wM (c f.toNat) (c g.toNat))) [.int (aA ac (wM (c f.toNat) (c g.toNat))), .int (aF re (wM (c f.toNat) (c g.toNat))), .int (kn)] := by
  refine zA.intro (lo := 75) (nA := 3) (own := RX3) zi_X3_rest (by decide) rfl rfl (by decide +kernel) rfl (Nat.le_of_ble_eq_true rfl) ?_
  intro p e s m below meth c0 ls C hr hk B hl
  have hl : lv_has ls 8 [(0, .ref o), (1, .int (iZ (f))), (2, .int (iZ (g))), (3, .int (iZ (z)))] := hl
  refine lv_aload_n C.1 C.2.1 dX3_rest_0 rfl (lv_at hl 0 rfl) ?_
  refine lv_iload_n C.1 C.2.1 dX3_rest_1 rfl (lv_at hl 1 rfl) ?_
  refine zo_callD C B (r := some (.long (lN ((c) (f).toNat)))) (c_X3_polyIn l D cJ o a (c) (ac) (re) (kn) (f) (by first | assumption | omega | rfl | exact decide_eq_false (by omega) | exact decide_eq_true (by assumption) | exact decide_eq_true (by omega) | exact one_shl33 (by omega) | exact pm_lt _ _ | exact rm_lt (by first | assumption | exact pm_lt _ _) | exact Nat.lt_of_le_of_lt (Nat.shiftRight_le _ _) (by assumption) | exact Nat.lt_of_le_of_lt Nat.and_le_right (by omega))) ml_X3_43 rfl ⟨Nat.le_of_ble_eq_true rfl, Nat.le_of_ble_eq_true rfl⟩ ⟨Nat.le_of_ble_eq_true rfl, Nat.le_of_ble_eq_true rfl⟩ hl (Nat.le_of_ble_eq_true rfl) rfl dX3_rest_2 (fun H locs B => ?_)
  have q2_0 := B.1.2.2.2 ((f)).toNat
  refine lv_lstore (lv' := [(4, .long (lN ((c) (f).toNat))), (0, .ref o), (1, .int (iZ (f))), (2, .int (iZ (g))), (3, .int (iZ (z)))]) C.1 C.2.1 dX3_rest_5 hl (by decide) rfl (fun ls hl => ?_)
  refine lv_aload_n C.1 C.2.1 dX3_rest_7 rfl (lv_at hl 1 rfl) ?_
  refine lv_iload_n C.1 C.2.1 dX3_rest_8 rfl (lv_at hl 3 rfl) ?_
  refine zo_callD C B (r := some (.long (lN ((c) (g).toNat)))) (c_X3_polyIn l D cJ o a (c) ((ac)) ((re)) ((kn)) (g) (by first | assumption | omega | rfl | exact decide_eq_false (by omega) | exact decide_eq_true (by assumption) | exact decide_eq_true (by omega) | exact one_shl33 (by omega) | exact pm_lt _ _ | exact rm_lt (by first | assumption | exact pm_lt _ _) | exact Nat.lt_of_le_of_lt (Nat.shiftRight_le _ _) (by assumption) | exact Nat.lt_of_le_of_lt Nat.and_le_right (by omega))) ml_X3_43 rfl ⟨Nat.le_of_ble_eq_true rfl, Nat.le_of_ble_eq_true rfl⟩ ⟨Nat.le_of_ble_eq_true rfl, Nat.le_of_ble_eq_true rfl⟩ hl (Nat.le_of_ble_eq_true rfl) rfl dX3_rest_9 (fun H locs B => ?_)
  have q9_0 := B.1.2.2.2 ((g)).toNat
  refine lv_lstore (lv' := [(6, .long (lN ((c) (g).toNat))), (4, .long (lN ((c) (f).toNat))), (0, .ref o), (1, .int (iZ (f))), (2, .int (iZ (g))), (3, .int (iZ (z)))]) C.1 C.2.1 dX3_rest_12 hl (by decide) rfl (fun ls hl => ?_)
  refine lv_aload_n C.1 C.2.1 dX3_rest_14 rfl (lv_at hl 2 rfl) ?_
  refine lv_iload_n C.1 C.2.1 dX3_rest_15 rfl (lv_at hl 5 rfl) ?_
  refine zo_callD C B (r := none) (c_X3_checkCell l D cJ o a (c) (((ac))) (((re))) (((kn))) (z) (by first | assumption | omega | rfl | exact decide_eq_false (by omega) | exact decide_eq_true (by assumption) | exact decide_eq_true (by omega) | exact one_shl33 (by omega) | exact pm_lt _ _ | exact rm_lt (by first | assumption | exact pm_lt _ _) | exact Nat.lt_of_le_of_lt (Nat.shiftRight_le _ _) (by assumption) | exact Nat.lt_of_le_of_lt Nat.and_le_right (by omega))) ml_X3_23 rfl ⟨Nat.le_of_ble_eq_true rfl, Nat.le_of_ble_eq_true rfl⟩ ⟨Nat.le_of_ble_eq_true rfl, Nat.le_of_ble_eq_true rfl⟩ hl (Nat.le_of_ble_eq_true rfl) rfl dX3_rest_16 (fun H locs B => ?_)
  refine lv_lload C.1 C.2.1 dX3_rest_19 (lv_at hl 0 rfl) ?_
  refine z_lconst (k0 := 0) C dX3_rest_21 rfl ?_
  refine z_lc_ne (tgt := 33) C (by first | assumption | omega | rfl | exact decide_eq_false (by omega) | exact decide_eq_true (by assumption) | exact decide_eq_true (by omega) | exact one_shl33 (by omega) | exact pm_lt _ _ | exact rm_lt (by first | assumption | exact pm_lt _ _) | exact Nat.lt_of_le_of_lt (Nat.shiftRight_le _ _) (by assumption) | exact Nat.lt_of_le_of_lt Nat.and_le_right (by omega)) (by first | assumption | omega | rfl | exact decide_eq_false (by omega) | exact decide_eq_true (by assumption) | exact decide_eq_true (by omega) | exact one_shl33 (by omega) | exact pm_lt _ _ | exact rm_lt (by first | assumption | exact pm_lt _ _) | exact Nat.lt_of_le_of_lt (Nat.shiftRight_le _ _) (by assumption) | exact Nat.lt_of_le_of_lt Nat.and_le_right (by omega)) dX3_rest_22 dX3_rest_23 (by decide) (fun h22 => ?_) (fun h22 => ?_)
  · refine lv_aload_n C.1 C.2.1 dX3_rest_33 rfl (lv_at hl 2 rfl) ?_
    refine lv_iload_n C.1 C.2.1 dX3_rest_34 rfl (lv_at hl 5 rfl) ?_
    refine lv_lload C.1 C.2.1 dX3_rest_35 (lv_at hl 1 rfl) ?_
    refine lv_lload C.1 C.2.1 dX3_rest_37 (lv_at hl 0 rfl) ?_
    refine z_call C (c_X1_restOf l ((c) (f).toNat) ((c) (g).toNat) (by first | assumption | omega | rfl | exact decide_eq_false (by omega) | exact decide_eq_true (by assumption) | exact decide_eq_true (by omega) | exact one_shl33 (by omega) | exact pm_lt _ _ | exact rm_lt (by first | assumption | exact pm_lt _ _) | exact Nat.lt_of_le_of_lt (Nat.shiftRight_le _ _) (by assumption) | exact Nat.lt_of_le_of_lt Nat.and_le_right (by omega)) (by first | assumption | omega | rfl | exact decide_eq_false (by omega) | exact decide_eq_true (by assumption) | exact decide_eq_true (by omega) | exact one_shl33 (by omega) | exact pm_lt _ _ | exact rm_lt (by first | assumption | exact pm_lt _ _) | exact Nat.lt_of_le_of_lt (Nat.shiftRight_le _ _) (by assumption) | exact Nat.lt_of_le_of_lt Nat.and_le_right (by omega))) ml_X3_80 ⟨by decide, by decide⟩ ⟨Nat.le_of_ble_eq_true rfl, Nat.le_of_ble_eq_true rfl⟩ hl (Nat.le_of_ble_eq_true rfl) rfl dX3_rest_39 ?_
    refine zo_callD C B (r := some (.int (iZ (aR (c) (z).toNat (some (rm ((c) (f).toNat) ((c) (g).toNat))))))) (c_X3_fill l D cJ o a (c) ((((ac)))) ((((re)))) ((((kn)))) (z) (rm ((c) (f).toNat) ((c) (g).toNat)) (by omega) (by exact rm33 q2_0 q9_0 h22)) ml_X3_29 rfl ⟨Nat.le_of_ble_eq_true rfl, Nat.le_of_ble_eq_true rfl⟩ ⟨Nat.le_of_ble_eq_true rfl, Nat.le_of_ble_eq_true rfl⟩ hl (Nat.le_of_ble_eq_true rfl) rfl dX3_rest_42 (fun H locs B => ?_)
    have q42_0 := aR_rng ((c)) (z).toNat (some (rm ((c) (f).toNat) ((c) (g).toNat)))
    have hw : (wM (c f.toNat) (c g.toNat)) = some (rm ((c) (f).toNat) ((c) (g).toNat)) := by exact if_neg h22
    exact zo_iret C B hr hk (Nat.le_of_ble_eq_true rfl) (Nat.le_of_ble_eq_true rfl) dX3_rest_45 (by show some _ = some _; rw [hw] <;> rfl) (by rw [hw] <;> rfl) (by rw [hw] <;> rfl)
  · refine lv_aload_n C.1 C.2.1 dX3_rest_26 rfl (lv_at hl 2 rfl) ?_
    refine zo_callD C B (r := some (.int (iZ (-9)))) (c_X3_refuse l D cJ o a (c) ((((ac)))) ((((re)))) ((((kn))))  ) ml_X3_73 rfl ⟨Nat.le_of_ble_eq_true rfl, Nat.le_of_ble_eq_true rfl⟩ ⟨Nat.le_of_ble_eq_true rfl, Nat.le_of_ble_eq_true rfl⟩ hl (Nat.le_of_ble_eq_true rfl) rfl dX3_rest_27 (fun H locs B => ?_)
    refine lv_goto (tgt := 45) C.1 C.2.1 dX3_rest_30 (by decide) ?_
    have hw : (wM (c f.toNat) (c g.toNat)) = none := by exact if_pos h22
    exact zo_iret C B hr hk (Nat.le_of_ble_eq_true rfl) (Nat.le_of_ble_eq_true rfl) dX3_rest_45 (by show some _ = some _; rw [hw] <;> rfl) (by rw [hw] <;> rfl) (by rw [hw] <;> rfl)

set_option maxHeartbeats 4000000 in
set_option maxRecDepth 100000 in
theorem c_X3_gcd (l : Launch) (D : va_G) (cJ : ClassId) (o a : Nat) (c : Nat → Nat) (ac : Int32) (re : Int32) (kn : Int32) (f : Int) (g : Int) (z : Int) (hf : 0 ≤ f ∧ f ≤ 5) (hg : 0 ≤ g ∧ g ≤ 5) (hz : 0 ≤ z ∧ z ≤ 5) : zA l yX3_gcd 4 144 0 0 D 2 cJ o a [.int (iZ (f)), .int (iZ (g)), .int (iZ (z))] c [.int (ac), .int (re), .int (kn)] (fun v => v = some (.int (iZ (aR c (z.toNat) (some (eu (c f.toNat) (c g.toNat) (c f.toNat) (c g.toNat))))))) (aC c (z.toNat) (some (eu (c f.toNat) (c g.toNat) (c f.toNat) (c g.toNat)))) [.int (aA ac (some (eu (c f.toNat) (c g.toNat) (c f.toNat) (c g.toNat)))), .int (aF re (some (eu (c f.toNat) (c g.toNat) (c f.toNat) (c g.toNat)))), .int (kn)] := by
  refine zA.intro (lo := 117) (nA := 3) (own := RX3) zi_X3_gcd (by decide) rfl rfl (by decide +kernel) rfl (Nat.le_of_ble_eq_true rfl) ?_
  intro p e s m below meth c0 ls C hr hk B hl
  have hl : lv_has ls 8 [(0, .ref o), (1, .int (iZ (f))), (2, .int (iZ (g))), (3, .int (iZ (z)))] := hl
  refine lv_aload_n C.1 C.2.1 dX3_gcd_0 rfl (lv_at hl 0 rfl) ?_
  refine lv_iload_n C.1 C.2.1 dX3_gcd_1 rfl (lv_at hl 1 rfl) ?_
  refine zo_callD C B (r := some (.long (lN ((c) (f).toNat)))) (c_X3_polyIn l D cJ o a (c) (ac) (re) (kn) (f) (by first | assumption | omega | rfl | exact decide_eq_false (by omega) | exact decide_eq_true (by assumption) | exact decide_eq_true (by omega) | exact one_shl33 (by omega) | exact pm_lt _ _ | exact rm_lt (by first | assumption | exact pm_lt _ _) | exact Nat.lt_of_le_of_lt (Nat.shiftRight_le _ _) (by assumption) | exact Nat.lt_of_le_of_lt Nat.and_le_right (by omega))) ml_X3_43 rfl ⟨Nat.le_of_ble_eq_true rfl, Nat.le_of_ble_eq_true rfl⟩ ⟨Nat.le_of_ble_eq_true rfl, Nat.le_of_ble_eq_true rfl⟩ hl (Nat.le_of_ble_eq_true rfl) rfl dX3_gcd_2 (fun H locs B => ?_)
  have q2_0 := B.1.2.2.2 ((f)).toNat
  refine lv_lstore (lv' := [(4, .long (lN ((c) (f).toNat))), (0, .ref o), (1, .int (iZ (f))), (2, .int (iZ (g))), (3, .int (iZ (z)))]) C.1 C.2.1 dX3_gcd_5 hl (by decide) rfl (fun ls hl => ?_)
  refine lv_aload_n C.1 C.2.1 dX3_gcd_7 rfl (lv_at hl 1 rfl) ?_
  refine lv_iload_n C.1 C.2.1 dX3_gcd_8 rfl (lv_at hl 3 rfl) ?_
  refine zo_callD C B (r := some (.long (lN ((c) (g).toNat)))) (c_X3_polyIn l D cJ o a (c) ((ac)) ((re)) ((kn)) (g) (by first | assumption | omega | rfl | exact decide_eq_false (by omega) | exact decide_eq_true (by assumption) | exact decide_eq_true (by omega) | exact one_shl33 (by omega) | exact pm_lt _ _ | exact rm_lt (by first | assumption | exact pm_lt _ _) | exact Nat.lt_of_le_of_lt (Nat.shiftRight_le _ _) (by assumption) | exact Nat.lt_of_le_of_lt Nat.and_le_right (by omega))) ml_X3_43 rfl ⟨Nat.le_of_ble_eq_true rfl, Nat.le_of_ble_eq_true rfl⟩ ⟨Nat.le_of_ble_eq_true rfl, Nat.le_of_ble_eq_true rfl⟩ hl (Nat.le_of_ble_eq_true rfl) rfl dX3_gcd_9 (fun H locs B => ?_)
  have q9_0 := B.1.2.2.2 ((g)).toNat
  refine lv_lstore (lv' := [(6, .long (lN ((c) (g).toNat))), (4, .long (lN ((c) (f).toNat))), (0, .ref o), (1, .int (iZ (f))), (2, .int (iZ (g))), (3, .int (iZ (z)))]) C.1 C.2.1 dX3_gcd_12 hl (by decide) rfl (fun ls hl => ?_)
  refine lv_aload_n C.1 C.2.1 dX3_gcd_14 rfl (lv_at hl 2 rfl) ?_
  refine lv_iload_n C.1 C.2.1 dX3_gcd_15 rfl (lv_at hl 5 rfl) ?_
  refine zo_callD C B (r := none) (c_X3_checkCell l D cJ o a (c) (((ac))) (((re))) (((kn))) (z) (by first | assumption | omega | rfl | exact decide_eq_false (by omega) | exact decide_eq_true (by assumption) | exact decide_eq_true (by omega) | exact one_shl33 (by omega) | exact pm_lt _ _ | exact rm_lt (by first | assumption | exact pm_lt _ _) | exact Nat.lt_of_le_of_lt (Nat.shiftRight_le _ _) (by assumption) | exact Nat.lt_of_le_of_lt Nat.and_le_right (by omega))) ml_X3_23 rfl ⟨Nat.le_of_ble_eq_true rfl, Nat.le_of_ble_eq_true rfl⟩ ⟨Nat.le_of_ble_eq_true rfl, Nat.le_of_ble_eq_true rfl⟩ hl (Nat.le_of_ble_eq_true rfl) rfl dX3_gcd_16 (fun H locs B => ?_)
  refine lv_aload_n C.1 C.2.1 dX3_gcd_19 rfl (lv_at hl 2 rfl) ?_
  refine lv_iload_n C.1 C.2.1 dX3_gcd_20 rfl (lv_at hl 5 rfl) ?_
  refine lv_lload C.1 C.2.1 dX3_gcd_21 (lv_at hl 1 rfl) ?_
  refine lv_lload C.1 C.2.1 dX3_gcd_23 (lv_at hl 0 rfl) ?_
  refine z_call C (c_X1_gcdOf l ((c) (f).toNat) ((c) (g).toNat) (by first | assumption | omega | rfl | exact decide_eq_false (by omega) | exact decide_eq_true (by assumption) | exact decide_eq_true (by omega) | exact one_shl33 (by omega) | exact pm_lt _ _ | exact rm_lt (by first | assumption | exact pm_lt _ _) | exact Nat.lt_of_le_of_lt (Nat.shiftRight_le _ _) (by assumption) | exact Nat.lt_of_le_of_lt Nat.and_le_right (by omega)) (by first | assumption | omega | rfl | exact decide_eq_false (by omega) | exact decide_eq_true (by assumption) | exact decide_eq_true (by omega) | exact one_shl33 (by omega) | exact pm_lt _ _ | exact rm_lt (by first | assumption | exact pm_lt _ _) | exact Nat.lt_of_le_of_lt (Nat.shiftRight_le _ _) (by assumption) | exact Nat.lt_of_le_of_lt Nat.and_le_right (by omega))) ml_X3_83 ⟨by decide, by decide⟩ ⟨Nat.le_of_ble_eq_true rfl, Nat.le_of_ble_eq_true rfl⟩ hl (Nat.le_of_ble_eq_true rfl) rfl dX3_gcd_25 ?_
  have q25_0 := eu_ltE ((c) (f).toNat) ((c) (g).toNat) ((c) (f).toNat) ((c) (g).toNat) (by first | assumption | omega | exact dv_lt _) (by first | assumption | omega | exact dv_lt _)
  refine zo_callD C B (r := some (.int (iZ (aR (c) (z).toNat (some (eu ((c) (f).toNat) ((c) (g).toNat) ((c) (f).toNat) ((c) (g).toNat))))))) (c_X3_fill l D cJ o a (c) ((((ac)))) ((((re)))) ((((kn)))) (z) (eu ((c) (f).toNat) ((c) (g).toNat) ((c) (f).toNat) ((c) (g).toNat)) (by omega) (by exact eu33g q2_0 q9_0)) ml_X3_29 rfl ⟨Nat.le_of_ble_eq_true rfl, Nat.le_of_ble_eq_true rfl⟩ ⟨Nat.le_of_ble_eq_true rfl, Nat.le_of_ble_eq_true rfl⟩ hl (Nat.le_of_ble_eq_true rfl) rfl dX3_gcd_28 (fun H locs B => ?_)
  have q28_0 := aR_rng ((c)) (z).toNat (some (eu ((c) (f).toNat) ((c) (g).toNat) ((c) (f).toNat) ((c) (g).toNat)))
  have hw : (some (eu (c f.toNat) (c g.toNat) (c f.toNat) (c g.toNat))) = some (eu ((c) (f).toNat) ((c) (g).toNat) ((c) (f).toNat) ((c) (g).toNat)) := by rfl
  exact zo_iret C B hr hk (Nat.le_of_ble_eq_true rfl) (Nat.le_of_ble_eq_true rfl) dX3_gcd_31 (by show some _ = some _; rw [hw] <;> rfl) (by rw [hw] <;> rfl) (by rw [hw] <;> rfl)

set_option maxHeartbeats 4000000 in
set_option maxRecDepth 100000 in
theorem c_X3_lcm (l : Launch) (D : va_G) (cJ : ClassId) (o a : Nat) (c : Nat → Nat) (ac : Int32) (re : Int32) (kn : Int32) (f : Int) (g : Int) (z : Int) (hf : 0 ≤ f ∧ f ≤ 5) (hg : 0 ≤ g ∧ g ≤ 5) (hz : 0 ≤ z ∧ z ≤ 5) : zA l yX3_lcm 4 144 0 0 D 2 cJ o a [.int (iZ (f)), .int (iZ (g)), .int (iZ (z))] c [.int (ac), .int (re), .int (kn)] (fun v => v = some (.int (iZ (aR c (z.toNat) (wT (c f.toNat) (qo (c g.toNat) (eu (c f.toNat) (c g.toNat) (c f.toNat) (c g.toNat)))))))) (aC c (z.toNat) (wT (c f.toNat) (qo (c g.toNat) (eu (c f.toNat) (c g.toNat) (c f.toNat) (c g.toNat))))) [.int (aA ac (wT (c f.toNat) (qo (c g.toNat) (eu (c f.toNat) (c g.toNat) (c f.toNat) (c g.toNat))))), .int (aF re (wT (c f.toNat) (qo (c g.toNat) (eu (c f.toNat) (c g.toNat) (c f.toNat) (c g.toNat))))), .int (kn)] := by
  refine zA.intro (lo := 117) (nA := 3) (own := RX3) zi_X3_lcm (by decide) rfl rfl (by decide +kernel) rfl (Nat.le_of_ble_eq_true rfl) ?_
  intro p e s m below meth c0 ls C hr hk B hl
  have hl : lv_has ls 8 [(0, .ref o), (1, .int (iZ (f))), (2, .int (iZ (g))), (3, .int (iZ (z)))] := hl
  refine lv_aload_n C.1 C.2.1 dX3_lcm_0 rfl (lv_at hl 0 rfl) ?_
  refine lv_iload_n C.1 C.2.1 dX3_lcm_1 rfl (lv_at hl 1 rfl) ?_
  refine zo_callD C B (r := some (.long (lN ((c) (f).toNat)))) (c_X3_polyIn l D cJ o a (c) (ac) (re) (kn) (f) (by first | assumption | omega | rfl | exact decide_eq_false (by omega) | exact decide_eq_true (by assumption) | exact decide_eq_true (by omega) | exact one_shl33 (by omega) | exact pm_lt _ _ | exact rm_lt (by first | assumption | exact pm_lt _ _) | exact Nat.lt_of_le_of_lt (Nat.shiftRight_le _ _) (by assumption) | exact Nat.lt_of_le_of_lt Nat.and_le_right (by omega))) ml_X3_43 rfl ⟨Nat.le_of_ble_eq_true rfl, Nat.le_of_ble_eq_true rfl⟩ ⟨Nat.le_of_ble_eq_true rfl, Nat.le_of_ble_eq_true rfl⟩ hl (Nat.le_of_ble_eq_true rfl) rfl dX3_lcm_2 (fun H locs B => ?_)
  have q2_0 := B.1.2.2.2 ((f)).toNat
  refine lv_lstore (lv' := [(4, .long (lN ((c) (f).toNat))), (0, .ref o), (1, .int (iZ (f))), (2, .int (iZ (g))), (3, .int (iZ (z)))]) C.1 C.2.1 dX3_lcm_5 hl (by decide) rfl (fun ls hl => ?_)
  refine lv_aload_n C.1 C.2.1 dX3_lcm_7 rfl (lv_at hl 1 rfl) ?_
  refine lv_iload_n C.1 C.2.1 dX3_lcm_8 rfl (lv_at hl 3 rfl) ?_
  refine zo_callD C B (r := some (.long (lN ((c) (g).toNat)))) (c_X3_polyIn l D cJ o a (c) ((ac)) ((re)) ((kn)) (g) (by first | assumption | omega | rfl | exact decide_eq_false (by omega) | exact decide_eq_true (by assumption) | exact decide_eq_true (by omega) | exact one_shl33 (by omega) | exact pm_lt _ _ | exact rm_lt (by first | assumption | exact pm_lt _ _) | exact Nat.lt_of_le_of_lt (Nat.shiftRight_le _ _) (by assumption) | exact Nat.lt_of_le_of_lt Nat.and_le_right (by omega))) ml_X3_43 rfl ⟨Nat.le_of_ble_eq_true rfl, Nat.le_of_ble_eq_true rfl⟩ ⟨Nat.le_of_ble_eq_true rfl, Nat.le_of_ble_eq_true rfl⟩ hl (Nat.le_of_ble_eq_true rfl) rfl dX3_lcm_9 (fun H locs B => ?_)
  have q9_0 := B.1.2.2.2 ((g)).toNat
  refine lv_lstore (lv' := [(6, .long (lN ((c) (g).toNat))), (4, .long (lN ((c) (f).toNat))), (0, .ref o), (1, .int (iZ (f))), (2, .int (iZ (g))), (3, .int (iZ (z)))]) C.1 C.2.1 dX3_lcm_12 hl (by decide) rfl (fun ls hl => ?_)
  refine lv_aload_n C.1 C.2.1 dX3_lcm_14 rfl (lv_at hl 2 rfl) ?_
  refine lv_iload_n C.1 C.2.1 dX3_lcm_15 rfl (lv_at hl 5 rfl) ?_
  refine zo_callD C B (r := none) (c_X3_checkCell l D cJ o a (c) (((ac))) (((re))) (((kn))) (z) (by first | assumption | omega | rfl | exact decide_eq_false (by omega) | exact decide_eq_true (by assumption) | exact decide_eq_true (by omega) | exact one_shl33 (by omega) | exact pm_lt _ _ | exact rm_lt (by first | assumption | exact pm_lt _ _) | exact Nat.lt_of_le_of_lt (Nat.shiftRight_le _ _) (by assumption) | exact Nat.lt_of_le_of_lt Nat.and_le_right (by omega))) ml_X3_23 rfl ⟨Nat.le_of_ble_eq_true rfl, Nat.le_of_ble_eq_true rfl⟩ ⟨Nat.le_of_ble_eq_true rfl, Nat.le_of_ble_eq_true rfl⟩ hl (Nat.le_of_ble_eq_true rfl) rfl dX3_lcm_16 (fun H locs B => ?_)
  refine lv_aload_n C.1 C.2.1 dX3_lcm_19 rfl (lv_at hl 2 rfl) ?_
  refine lv_iload_n C.1 C.2.1 dX3_lcm_20 rfl (lv_at hl 5 rfl) ?_
  refine lv_lload C.1 C.2.1 dX3_lcm_21 (lv_at hl 1 rfl) ?_
  refine lv_lload C.1 C.2.1 dX3_lcm_23 (lv_at hl 0 rfl) ?_
  refine lv_lload C.1 C.2.1 dX3_lcm_25 (lv_at hl 1 rfl) ?_
  refine lv_lload C.1 C.2.1 dX3_lcm_27 (lv_at hl 0 rfl) ?_
  refine z_call C (c_X1_gcdOf l ((c) (f).toNat) ((c) (g).toNat) (by first | assumption | omega | rfl | exact decide_eq_false (by omega) | exact decide_eq_true (by assumption) | exact decide_eq_true (by omega) | exact one_shl33 (by omega) | exact pm_lt _ _ | exact rm_lt (by first | assumption | exact pm_lt _ _) | exact Nat.lt_of_le_of_lt (Nat.shiftRight_le _ _) (by assumption) | exact Nat.lt_of_le_of_lt Nat.and_le_right (by omega)) (by first | assumption | omega | rfl | exact decide_eq_false (by omega) | exact decide_eq_true (by assumption) | exact decide_eq_true (by omega) | exact one_shl33 (by omega) | exact pm_lt _ _ | exact rm_lt (by first | assumption | exact pm_lt _ _) | exact Nat.lt_of_le_of_lt (Nat.shiftRight_le _ _) (by assumption) | exact Nat.lt_of_le_of_lt Nat.and_le_right (by omega))) ml_X3_83 ⟨by decide, by decide⟩ ⟨Nat.le_of_ble_eq_true rfl, Nat.le_of_ble_eq_true rfl⟩ hl (Nat.le_of_ble_eq_true rfl) rfl dX3_lcm_29 ?_
  have q29_0 := eu_ltE ((c) (f).toNat) ((c) (g).toNat) ((c) (f).toNat) ((c) (g).toNat) (by first | assumption | omega | exact dv_lt _) (by first | assumption | omega | exact dv_lt _)
  refine z_call C (c_X1_quotientOf l ((c) (g).toNat) (eu ((c) (f).toNat) ((c) (g).toNat) ((c) (f).toNat) ((c) (g).toNat)) (by first | assumption | omega | rfl | exact decide_eq_false (by omega) | exact decide_eq_true (by assumption) | exact decide_eq_true (by omega) | exact one_shl33 (by omega) | exact pm_lt _ _ | exact rm_lt (by first | assumption | exact pm_lt _ _) | exact Nat.lt_of_le_of_lt (Nat.shiftRight_le _ _) (by assumption) | exact Nat.lt_of_le_of_lt Nat.and_le_right (by omega)) (by first | assumption | omega | rfl | exact decide_eq_false (by omega) | exact decide_eq_true (by assumption) | exact decide_eq_true (by omega) | exact one_shl33 (by omega) | exact pm_lt _ _ | exact rm_lt (by first | assumption | exact pm_lt _ _) | exact Nat.lt_of_le_of_lt (Nat.shiftRight_le _ _) (by assumption) | exact Nat.lt_of_le_of_lt Nat.and_le_right (by omega))) ml_X3_77 ⟨by decide, by decide⟩ ⟨Nat.le_of_ble_eq_true rfl, Nat.le_of_ble_eq_true rfl⟩ hl (Nat.le_of_ble_eq_true rfl) rfl dX3_lcm_32 ?_
  refine zo_callD C B (r := some (.int (iZ (aR (c) ((z).toNat) (wT ((c) (f).toNat) (qo ((c) (g).toNat) (eu ((c) (f).toNat) ((c) (g).toNat) ((c) (f).toNat) ((c) (g).toNat)))))))) (c_X3_fillProduct l D cJ o a (c) ((((ac)))) ((((re)))) ((((kn)))) (z) ((c) (f).toNat) (qo ((c) (g).toNat) (eu ((c) (f).toNat) ((c) (g).toNat) ((c) (f).toNat) ((c) (g).toNat))) (by omega) (by exact q2_0) (by exact qo33 q9_0 (eu33g q2_0 q9_0))) ml_X3_65 rfl ⟨Nat.le_of_ble_eq_true rfl, Nat.le_of_ble_eq_true rfl⟩ ⟨Nat.le_of_ble_eq_true rfl, Nat.le_of_ble_eq_true rfl⟩ hl (Nat.le_of_ble_eq_true rfl) rfl dX3_lcm_35 (fun H locs B => ?_)
  have q35_0 := aR_rng ((c)) ((z).toNat) (wT ((c) (f).toNat) (qo ((c) (g).toNat) (eu ((c) (f).toNat) ((c) (g).toNat) ((c) (f).toNat) ((c) (g).toNat))))
  have hw : (wT (c f.toNat) (qo (c g.toNat) (eu (c f.toNat) (c g.toNat) (c f.toNat) (c g.toNat)))) = wT ((c) (f).toNat) (qo ((c) (g).toNat) (eu ((c) (f).toNat) ((c) (g).toNat) ((c) (f).toNat) ((c) (g).toNat))) := by rfl
  exact zo_iret C B hr hk (Nat.le_of_ble_eq_true rfl) (Nat.le_of_ble_eq_true rfl) dX3_lcm_38 (by show some _ = some _; rw [hw] <;> rfl) (by rw [hw] <;> rfl) (by rw [hw] <;> rfl)

set_option maxHeartbeats 4000000 in
set_option maxRecDepth 100000 in
theorem c_X3_bezout (l : Launch) (D : va_G) (cJ : ClassId) (o a : Nat) (c : Nat → Nat) (ac : Int32) (re : Int32) (kn : Int32) (f : Int) (g : Int) (b : Bool) (z : Int) (hf : 0 ≤ f ∧ f ≤ 5) (hg : 0 ≤ g ∧ g ≤ 5) (hz : 0 ≤ z ∧ z ≤ 5) : zA l yX3_bezout 4 145 0 0 D 2 cJ o a [.int (iZ (f)), .int (iZ (g)), .int (iZ (zB (b))), .int (iZ (z))] c [.int (ac), .int (re), .int (kn)] (fun v => v = some (.int (iZ (aR c (z.toNat) (some (if b = true then eu (c f.toNat) (c g.toNat) 1 0 else eu (c f.toNat) (c g.toNat) 0 1)))))) (aC c (z.toNat) (some (if b = true then eu (c f.toNat) (c g.toNat) 1 0 else eu (c f.toNat) (c g.toNat) 0 1))) [.int (aA ac (some (if b = true then eu (c f.toNat) (c g.toNat) 1 0 else eu (c f.toNat) (c g.toNat) 0 1))), .int (aF re (some (if b = true then eu (c f.toNat) (c g.toNat) 1 0 else eu (c f.toNat) (c g.toNat) 0 1))), .int (kn)] := by
  refine zA.intro (lo := 117) (nA := 4) (own := RX3) zi_X3_bezout (by decide) rfl rfl (by decide +kernel) rfl (Nat.le_of_ble_eq_true rfl) ?_
  intro p e s m below meth c0 ls C hr hk B hl
  have hl : lv_has ls 9 [(0, .ref o), (1, .int (iZ (f))), (2, .int (iZ (g))), (3, .int (iZ (zB (b)))), (4, .int (iZ (z)))] := hl
  refine lv_aload_n C.1 C.2.1 dX3_bezout_0 rfl (lv_at hl 0 rfl) ?_
  refine lv_iload_n C.1 C.2.1 dX3_bezout_1 rfl (lv_at hl 1 rfl) ?_
  refine zo_callD C B (r := some (.long (lN ((c) (f).toNat)))) (c_X3_polyIn l D cJ o a (c) (ac) (re) (kn) (f) (by first | assumption | omega | rfl | exact decide_eq_false (by omega) | exact decide_eq_true (by assumption) | exact decide_eq_true (by omega) | exact one_shl33 (by omega) | exact pm_lt _ _ | exact rm_lt (by first | assumption | exact pm_lt _ _) | exact Nat.lt_of_le_of_lt (Nat.shiftRight_le _ _) (by assumption) | exact Nat.lt_of_le_of_lt Nat.and_le_right (by omega))) ml_X3_43 rfl ⟨Nat.le_of_ble_eq_true rfl, Nat.le_of_ble_eq_true rfl⟩ ⟨Nat.le_of_ble_eq_true rfl, Nat.le_of_ble_eq_true rfl⟩ hl (Nat.le_of_ble_eq_true rfl) rfl dX3_bezout_2 (fun H locs B => ?_)
  have q2_0 := B.1.2.2.2 ((f)).toNat
  refine lv_lstore (lv' := [(5, .long (lN ((c) (f).toNat))), (0, .ref o), (1, .int (iZ (f))), (2, .int (iZ (g))), (3, .int (iZ (zB (b)))), (4, .int (iZ (z)))]) C.1 C.2.1 dX3_bezout_5 hl (by decide) rfl (fun ls hl => ?_)
  refine lv_aload_n C.1 C.2.1 dX3_bezout_7 rfl (lv_at hl 1 rfl) ?_
  refine lv_iload_n C.1 C.2.1 dX3_bezout_8 rfl (lv_at hl 3 rfl) ?_
  refine zo_callD C B (r := some (.long (lN ((c) (g).toNat)))) (c_X3_polyIn l D cJ o a (c) ((ac)) ((re)) ((kn)) (g) (by first | assumption | omega | rfl | exact decide_eq_false (by omega) | exact decide_eq_true (by assumption) | exact decide_eq_true (by omega) | exact one_shl33 (by omega) | exact pm_lt _ _ | exact rm_lt (by first | assumption | exact pm_lt _ _) | exact Nat.lt_of_le_of_lt (Nat.shiftRight_le _ _) (by assumption) | exact Nat.lt_of_le_of_lt Nat.and_le_right (by omega))) ml_X3_43 rfl ⟨Nat.le_of_ble_eq_true rfl, Nat.le_of_ble_eq_true rfl⟩ ⟨Nat.le_of_ble_eq_true rfl, Nat.le_of_ble_eq_true rfl⟩ hl (Nat.le_of_ble_eq_true rfl) rfl dX3_bezout_9 (fun H locs B => ?_)
  have q9_0 := B.1.2.2.2 ((g)).toNat
  refine lv_lstore (lv' := [(7, .long (lN ((c) (g).toNat))), (5, .long (lN ((c) (f).toNat))), (0, .ref o), (1, .int (iZ (f))), (2, .int (iZ (g))), (3, .int (iZ (zB (b)))), (4, .int (iZ (z)))]) C.1 C.2.1 dX3_bezout_12 hl (by decide) rfl (fun ls hl => ?_)
  refine lv_aload_n C.1 C.2.1 dX3_bezout_14 rfl (lv_at hl 2 rfl) ?_
  refine lv_iload C.1 C.2.1 dX3_bezout_15 (lv_at hl 6 rfl) ?_
  refine zo_callD C B (r := none) (c_X3_checkCell l D cJ o a (c) (((ac))) (((re))) (((kn))) (z) (by first | assumption | omega | rfl | exact decide_eq_false (by omega) | exact decide_eq_true (by assumption) | exact decide_eq_true (by omega) | exact one_shl33 (by omega) | exact pm_lt _ _ | exact rm_lt (by first | assumption | exact pm_lt _ _) | exact Nat.lt_of_le_of_lt (Nat.shiftRight_le _ _) (by assumption) | exact Nat.lt_of_le_of_lt Nat.and_le_right (by omega))) ml_X3_23 rfl ⟨Nat.le_of_ble_eq_true rfl, Nat.le_of_ble_eq_true rfl⟩ ⟨Nat.le_of_ble_eq_true rfl, Nat.le_of_ble_eq_true rfl⟩ hl (Nat.le_of_ble_eq_true rfl) rfl dX3_bezout_17 (fun H locs B => ?_)
  refine lv_aload_n C.1 C.2.1 dX3_bezout_20 rfl (lv_at hl 2 rfl) ?_
  refine lv_iload C.1 C.2.1 dX3_bezout_21 (lv_at hl 6 rfl) ?_
  refine lv_iload_n C.1 C.2.1 dX3_bezout_23 rfl (lv_at hl 5 rfl) ?_
  refine z_ifB_eq (tgt := 37) C dX3_bezout_24 (by decide) (fun h24 => ?_) (fun h24 => ?_)
  · refine lv_lload C.1 C.2.1 dX3_bezout_37 (lv_at hl 1 rfl) ?_
    refine lv_lload C.1 C.2.1 dX3_bezout_39 (lv_at hl 0 rfl) ?_
    refine z_call C (c_X1_secondBezout l ((c) (f).toNat) ((c) (g).toNat) (by first | assumption | omega | rfl | exact decide_eq_false (by omega) | exact decide_eq_true (by assumption) | exact decide_eq_true (by omega) | exact one_shl33 (by omega) | exact pm_lt _ _ | exact rm_lt (by first | assumption | exact pm_lt _ _) | exact Nat.lt_of_le_of_lt (Nat.shiftRight_le _ _) (by assumption) | exact Nat.lt_of_le_of_lt Nat.and_le_right (by omega)) (by first | assumption | omega | rfl | exact decide_eq_false (by omega) | exact decide_eq_true (by assumption) | exact decide_eq_true (by omega) | exact one_shl33 (by omega) | exact pm_lt _ _ | exact rm_lt (by first | assumption | exact pm_lt _ _) | exact Nat.lt_of_le_of_lt (Nat.shiftRight_le _ _) (by assumption) | exact Nat.lt_of_le_of_lt Nat.and_le_right (by omega))) ml_X3_89 ⟨by decide, by decide⟩ ⟨Nat.le_of_ble_eq_true rfl, Nat.le_of_ble_eq_true rfl⟩ hl (Nat.le_of_ble_eq_true rfl) rfl dX3_bezout_41 ?_
    have q41_0 := eu_ltE ((c) (f).toNat) ((c) (g).toNat) 0 1 (by first | assumption | omega | exact dv_lt _) (by first | assumption | omega | exact dv_lt _)
    refine zo_callD C B (r := some (.int (iZ (aR (c) (z).toNat (some (eu ((c) (f).toNat) ((c) (g).toNat) 0 1)))))) (c_X3_fill l D cJ o a (c) ((((ac)))) ((((re)))) ((((kn)))) (z) (eu ((c) (f).toNat) ((c) (g).toNat) 0 1) (by omega) (by exact eu33s q2_0 q9_0)) ml_X3_29 rfl ⟨Nat.le_of_ble_eq_true rfl, Nat.le_of_ble_eq_true rfl⟩ ⟨Nat.le_of_ble_eq_true rfl, Nat.le_of_ble_eq_true rfl⟩ hl (Nat.le_of_ble_eq_true rfl) rfl dX3_bezout_44 (fun H locs B => ?_)
    have q44_0 := aR_rng ((c)) (z).toNat (some (eu ((c) (f).toNat) ((c) (g).toNat) 0 1))
    have hw : (some (if b = true then eu (c f.toNat) (c g.toNat) 1 0 else eu (c f.toNat) (c g.toNat) 0 1)) = some (eu ((c) (f).toNat) ((c) (g).toNat) 0 1) := by rw [if_neg (by rw [h24]; decide)]
    exact zo_iret C B hr hk (Nat.le_of_ble_eq_true rfl) (Nat.le_of_ble_eq_true rfl) dX3_bezout_47 (by show some _ = some _; rw [hw] <;> rfl) (by rw [hw] <;> rfl) (by rw [hw] <;> rfl)
  · refine lv_lload C.1 C.2.1 dX3_bezout_27 (lv_at hl 1 rfl) ?_
    refine lv_lload C.1 C.2.1 dX3_bezout_29 (lv_at hl 0 rfl) ?_
    refine z_call C (c_X1_firstBezout l ((c) (f).toNat) ((c) (g).toNat) (by first | assumption | omega | rfl | exact decide_eq_false (by omega) | exact decide_eq_true (by assumption) | exact decide_eq_true (by omega) | exact one_shl33 (by omega) | exact pm_lt _ _ | exact rm_lt (by first | assumption | exact pm_lt _ _) | exact Nat.lt_of_le_of_lt (Nat.shiftRight_le _ _) (by assumption) | exact Nat.lt_of_le_of_lt Nat.and_le_right (by omega)) (by first | assumption | omega | rfl | exact decide_eq_false (by omega) | exact decide_eq_true (by assumption) | exact decide_eq_true (by omega) | exact one_shl33 (by omega) | exact pm_lt _ _ | exact rm_lt (by first | assumption | exact pm_lt _ _) | exact Nat.lt_of_le_of_lt (Nat.shiftRight_le _ _) (by assumption) | exact Nat.lt_of_le_of_lt Nat.and_le_right (by omega))) ml_X3_86 ⟨by decide, by decide⟩ ⟨Nat.le_of_ble_eq_true rfl, Nat.le_of_ble_eq_true rfl⟩ hl (Nat.le_of_ble_eq_true rfl) rfl dX3_bezout_31 ?_
    have q31_0 := eu_ltE ((c) (f).toNat) ((c) (g).toNat) 1 0 (by first | assumption | omega | exact dv_lt _) (by first | assumption | omega | exact dv_lt _)
    refine lv_goto (tgt := 44) C.1 C.2.1 dX3_bezout_34 (by decide) ?_
    refine zo_callD C B (r := some (.int (iZ (aR (c) (z).toNat (some (eu ((c) (f).toNat) ((c) (g).toNat) 1 0)))))) (c_X3_fill l D cJ o a (c) ((((ac)))) ((((re)))) ((((kn)))) (z) (eu ((c) (f).toNat) ((c) (g).toNat) 1 0) (by omega) (by exact eu33f q2_0 q9_0)) ml_X3_29 rfl ⟨Nat.le_of_ble_eq_true rfl, Nat.le_of_ble_eq_true rfl⟩ ⟨Nat.le_of_ble_eq_true rfl, Nat.le_of_ble_eq_true rfl⟩ hl (Nat.le_of_ble_eq_true rfl) rfl dX3_bezout_44 (fun H locs B => ?_)
    have q44_0 := aR_rng ((c)) (z).toNat (some (eu ((c) (f).toNat) ((c) (g).toNat) 1 0))
    have hw : (some (if b = true then eu (c f.toNat) (c g.toNat) 1 0 else eu (c f.toNat) (c g.toNat) 0 1)) = some (eu ((c) (f).toNat) ((c) (g).toNat) 1 0) := by rw [if_pos h24]
    exact zo_iret C B hr hk (Nat.le_of_ble_eq_true rfl) (Nat.le_of_ble_eq_true rfl) dX3_bezout_47 (by show some _ = some _; rw [hw] <;> rfl) (by rw [hw] <;> rfl) (by rw [hw] <;> rfl)

set_option maxHeartbeats 4000000 in
set_option maxRecDepth 100000 in
theorem c_X3_derive (l : Launch) (D : va_G) (cJ : ClassId) (o a : Nat) (c : Nat → Nat) (ac : Int32) (re : Int32) (kn : Int32) (f : Int) (z : Int) (hf : 0 ≤ f ∧ f ≤ 5) (hz : 0 ≤ z ∧ z ≤ 5) : zA l yX3_derive 3 90 0 0 D 2 cJ o a [.int (iZ (f)), .int (iZ (z))] c [.int (ac), .int (re), .int (kn)] (fun v => v = some (.int (iZ (aR c (z.toNat) (some (dv (c f.toNat))))))) (aC c (z.toNat) (some (dv (c f.toNat)))) [.int (aA ac (some (dv (c f.toNat)))), .int (aF re (some (dv (c f.toNat)))), .int (kn)] := by
  refine zA.intro (lo := 66) (nA := 2) (own := RX3) zi_X3_derive (by decide) rfl rfl (by decide +kernel) rfl (Nat.le_of_ble_eq_true rfl) ?_
  intro p e s m below meth c0 ls C hr hk B hl
  have hl : lv_has ls 5 [(0, .ref o), (1, .int (iZ (f))), (2, .int (iZ (z)))] := hl
  refine lv_aload_n C.1 C.2.1 dX3_derive_0 rfl (lv_at hl 0 rfl) ?_
  refine lv_iload_n C.1 C.2.1 dX3_derive_1 rfl (lv_at hl 1 rfl) ?_
  refine zo_callD C B (r := some (.long (lN ((c) (f).toNat)))) (c_X3_polyIn l D cJ o a (c) (ac) (re) (kn) (f) (by first | assumption | omega | rfl | exact decide_eq_false (by omega) | exact decide_eq_true (by assumption) | exact decide_eq_true (by omega) | exact one_shl33 (by omega) | exact pm_lt _ _ | exact rm_lt (by first | assumption | exact pm_lt _ _) | exact Nat.lt_of_le_of_lt (Nat.shiftRight_le _ _) (by assumption) | exact Nat.lt_of_le_of_lt Nat.and_le_right (by omega))) ml_X3_43 rfl ⟨Nat.le_of_ble_eq_true rfl, Nat.le_of_ble_eq_true rfl⟩ ⟨Nat.le_of_ble_eq_true rfl, Nat.le_of_ble_eq_true rfl⟩ hl (Nat.le_of_ble_eq_true rfl) rfl dX3_derive_2 (fun H locs B => ?_)
  have q2_0 := B.1.2.2.2 ((f)).toNat
  refine lv_lstore_n (lv' := [(3, .long (lN ((c) (f).toNat))), (0, .ref o), (1, .int (iZ (f))), (2, .int (iZ (z)))]) C.1 C.2.1 dX3_derive_5 rfl hl (by decide) rfl (fun ls hl => ?_)
  refine lv_aload_n C.1 C.2.1 dX3_derive_6 rfl (lv_at hl 1 rfl) ?_
  refine lv_iload_n C.1 C.2.1 dX3_derive_7 rfl (lv_at hl 3 rfl) ?_
  refine zo_callD C B (r := none) (c_X3_checkCell l D cJ o a (c) ((ac)) ((re)) ((kn)) (z) (by first | assumption | omega | rfl | exact decide_eq_false (by omega) | exact decide_eq_true (by assumption) | exact decide_eq_true (by omega) | exact one_shl33 (by omega) | exact pm_lt _ _ | exact rm_lt (by first | assumption | exact pm_lt _ _) | exact Nat.lt_of_le_of_lt (Nat.shiftRight_le _ _) (by assumption) | exact Nat.lt_of_le_of_lt Nat.and_le_right (by omega))) ml_X3_23 rfl ⟨Nat.le_of_ble_eq_true rfl, Nat.le_of_ble_eq_true rfl⟩ ⟨Nat.le_of_ble_eq_true rfl, Nat.le_of_ble_eq_true rfl⟩ hl (Nat.le_of_ble_eq_true rfl) rfl dX3_derive_8 (fun H locs B => ?_)
  refine lv_aload_n C.1 C.2.1 dX3_derive_11 rfl (lv_at hl 1 rfl) ?_
  refine lv_iload_n C.1 C.2.1 dX3_derive_12 rfl (lv_at hl 3 rfl) ?_
  refine lv_lload_n C.1 C.2.1 dX3_derive_13 rfl (lv_at hl 0 rfl) ?_
  refine z_call C (c_X1_derived l ((c) (f).toNat) (by first | assumption | omega | rfl | exact decide_eq_false (by omega) | exact decide_eq_true (by assumption) | exact decide_eq_true (by omega) | exact one_shl33 (by omega) | exact pm_lt _ _ | exact rm_lt (by first | assumption | exact pm_lt _ _) | exact Nat.lt_of_le_of_lt (Nat.shiftRight_le _ _) (by assumption) | exact Nat.lt_of_le_of_lt Nat.and_le_right (by omega))) ml_X3_92 ⟨by decide, by decide⟩ ⟨Nat.le_of_ble_eq_true rfl, Nat.le_of_ble_eq_true rfl⟩ hl (Nat.le_of_ble_eq_true rfl) rfl dX3_derive_14 ?_
  refine zo_callD C B (r := some (.int (iZ (aR (c) (z).toNat (some (dv ((c) (f).toNat))))))) (c_X3_fill l D cJ o a (c) (((ac))) (((re))) (((kn))) (z) (dv ((c) (f).toNat)) (by omega) (by exact dv33 q2_0)) ml_X3_29 rfl ⟨Nat.le_of_ble_eq_true rfl, Nat.le_of_ble_eq_true rfl⟩ ⟨Nat.le_of_ble_eq_true rfl, Nat.le_of_ble_eq_true rfl⟩ hl (Nat.le_of_ble_eq_true rfl) rfl dX3_derive_17 (fun H locs B => ?_)
  have q17_0 := aR_rng ((c)) (z).toNat (some (dv ((c) (f).toNat)))
  have hw : (some (dv (c f.toNat))) = some (dv ((c) (f).toNat)) := by rfl
  exact zo_iret C B hr hk (Nat.le_of_ble_eq_true rfl) (Nat.le_of_ble_eq_true rfl) dX3_derive_20 (by show some _ = some _; rw [hw] <;> rfl) (by rw [hw] <;> rfl) (by rw [hw] <;> rfl)

set_option maxHeartbeats 4000000 in
set_option maxRecDepth 100000 in
theorem c_X3_root (l : Launch) (D : va_G) (cJ : ClassId) (o a : Nat) (c : Nat → Nat) (ac : Int32) (re : Int32) (kn : Int32) (f : Int) (z : Int) (hf : 0 ≤ f ∧ f ≤ 5) (hz : 0 ≤ z ∧ z ≤ 5) : zA l yX3_root 3 90 0 0 D 2 cJ o a [.int (iZ (f)), .int (iZ (z))] c [.int (ac), .int (re), .int (kn)] (fun v => v = some (.int (iZ (aR c (z.toNat) (wE (c f.toNat)))))) (aC c (z.toNat) (wE (c f.toNat))) [.int (aA ac (wE (c f.toNat))), .int (aF re (wE (c f.toNat))), .int (kn)] := by
  refine zA.intro (lo := 66) (nA := 2) (own := RX3) zi_X3_root (by decide) rfl rfl (by decide +kernel) rfl (Nat.le_of_ble_eq_true rfl) ?_
  intro p e s m below meth c0 ls C hr hk B hl
  have hl : lv_has ls 5 [(0, .ref o), (1, .int (iZ (f))), (2, .int (iZ (z)))] := hl
  refine lv_aload_n C.1 C.2.1 dX3_root_0 rfl (lv_at hl 0 rfl) ?_
  refine lv_iload_n C.1 C.2.1 dX3_root_1 rfl (lv_at hl 1 rfl) ?_
  refine zo_callD C B (r := some (.long (lN ((c) (f).toNat)))) (c_X3_polyIn l D cJ o a (c) (ac) (re) (kn) (f) (by first | assumption | omega | rfl | exact decide_eq_false (by omega) | exact decide_eq_true (by assumption) | exact decide_eq_true (by omega) | exact one_shl33 (by omega) | exact pm_lt _ _ | exact rm_lt (by first | assumption | exact pm_lt _ _) | exact Nat.lt_of_le_of_lt (Nat.shiftRight_le _ _) (by assumption) | exact Nat.lt_of_le_of_lt Nat.and_le_right (by omega))) ml_X3_43 rfl ⟨Nat.le_of_ble_eq_true rfl, Nat.le_of_ble_eq_true rfl⟩ ⟨Nat.le_of_ble_eq_true rfl, Nat.le_of_ble_eq_true rfl⟩ hl (Nat.le_of_ble_eq_true rfl) rfl dX3_root_2 (fun H locs B => ?_)
  have q2_0 := B.1.2.2.2 ((f)).toNat
  refine lv_lstore_n (lv' := [(3, .long (lN ((c) (f).toNat))), (0, .ref o), (1, .int (iZ (f))), (2, .int (iZ (z)))]) C.1 C.2.1 dX3_root_5 rfl hl (by decide) rfl (fun ls hl => ?_)
  refine lv_aload_n C.1 C.2.1 dX3_root_6 rfl (lv_at hl 1 rfl) ?_
  refine lv_iload_n C.1 C.2.1 dX3_root_7 rfl (lv_at hl 3 rfl) ?_
  refine zo_callD C B (r := none) (c_X3_checkCell l D cJ o a (c) ((ac)) ((re)) ((kn)) (z) (by first | assumption | omega | rfl | exact decide_eq_false (by omega) | exact decide_eq_true (by assumption) | exact decide_eq_true (by omega) | exact one_shl33 (by omega) | exact pm_lt _ _ | exact rm_lt (by first | assumption | exact pm_lt _ _) | exact Nat.lt_of_le_of_lt (Nat.shiftRight_le _ _) (by assumption) | exact Nat.lt_of_le_of_lt Nat.and_le_right (by omega))) ml_X3_23 rfl ⟨Nat.le_of_ble_eq_true rfl, Nat.le_of_ble_eq_true rfl⟩ ⟨Nat.le_of_ble_eq_true rfl, Nat.le_of_ble_eq_true rfl⟩ hl (Nat.le_of_ble_eq_true rfl) rfl dX3_root_8 (fun H locs B => ?_)
  refine lv_lload_n C.1 C.2.1 dX3_root_11 rfl (lv_at hl 0 rfl) ?_
  refine z_call C (c_X1_derived l ((c) (f).toNat) (by first | assumption | omega | rfl | exact decide_eq_false (by omega) | exact decide_eq_true (by assumption) | exact decide_eq_true (by omega) | exact one_shl33 (by omega) | exact pm_lt _ _ | exact rm_lt (by first | assumption | exact pm_lt _ _) | exact Nat.lt_of_le_of_lt (Nat.shiftRight_le _ _) (by assumption) | exact Nat.lt_of_le_of_lt Nat.and_le_right (by omega))) ml_X3_92 ⟨by decide, by decide⟩ ⟨Nat.le_of_ble_eq_true rfl, Nat.le_of_ble_eq_true rfl⟩ hl (Nat.le_of_ble_eq_true rfl) rfl dX3_root_12 ?_
  refine z_lconst (k0 := 0) C dX3_root_15 rfl ?_
  refine z_lc_eq (tgt := 25) C (by exact dv_lt _) (by omega) dX3_root_16 dX3_root_17 (by decide) (fun h16 => ?_) (fun h16 => ?_)
  · refine lv_aload_n C.1 C.2.1 dX3_root_25 rfl (lv_at hl 1 rfl) ?_
    refine lv_iload_n C.1 C.2.1 dX3_root_26 rfl (lv_at hl 3 rfl) ?_
    refine lv_lload_n C.1 C.2.1 dX3_root_27 rfl (lv_at hl 0 rfl) ?_
    refine z_call C (c_X1_evenPlacesHalved l ((c) (f).toNat) (by first | assumption | omega | rfl | exact decide_eq_false (by omega) | exact decide_eq_true (by assumption) | exact decide_eq_true (by omega) | exact one_shl33 (by omega) | exact pm_lt _ _ | exact rm_lt (by first | assumption | exact pm_lt _ _) | exact Nat.lt_of_le_of_lt (Nat.shiftRight_le _ _) (by assumption) | exact Nat.lt_of_le_of_lt Nat.and_le_right (by omega))) ml_X3_96 ⟨by decide, by decide⟩ ⟨Nat.le_of_ble_eq_true rfl, Nat.le_of_ble_eq_true rfl⟩ hl (Nat.le_of_ble_eq_true rfl) rfl dX3_root_28 ?_
    refine zo_callD C B (r := some (.int (iZ (aR (c) (z).toNat (some (eh ((c) (f).toNat))))))) (c_X3_fill l D cJ o a (c) (((ac))) (((re))) (((kn))) (z) (eh ((c) (f).toNat)) (by omega) (by exact eh33 _)) ml_X3_29 rfl ⟨Nat.le_of_ble_eq_true rfl, Nat.le_of_ble_eq_true rfl⟩ ⟨Nat.le_of_ble_eq_true rfl, Nat.le_of_ble_eq_true rfl⟩ hl (Nat.le_of_ble_eq_true rfl) rfl dX3_root_31 (fun H locs B => ?_)
    have q31_0 := aR_rng ((c)) (z).toNat (some (eh ((c) (f).toNat)))
    have hw : (wE (c f.toNat)) = some (eh ((c) (f).toNat)) := by exact if_pos h16
    exact zo_iret C B hr hk (Nat.le_of_ble_eq_true rfl) (Nat.le_of_ble_eq_true rfl) dX3_root_34 (by show some _ = some _; rw [hw] <;> rfl) (by rw [hw] <;> rfl) (by rw [hw] <;> rfl)
  · refine lv_aload_n C.1 C.2.1 dX3_root_20 rfl (lv_at hl 1 rfl) ?_
    refine zo_callD C B (r := some (.int (iZ (-9)))) (c_X3_refuse l D cJ o a (c) (((ac))) (((re))) (((kn)))  ) ml_X3_73 rfl ⟨Nat.le_of_ble_eq_true rfl, Nat.le_of_ble_eq_true rfl⟩ ⟨Nat.le_of_ble_eq_true rfl, Nat.le_of_ble_eq_true rfl⟩ hl (Nat.le_of_ble_eq_true rfl) rfl dX3_root_21 (fun H locs B => ?_)
    have hw : (wE (c f.toNat)) = none := by exact if_neg h16
    exact zo_iret C B hr hk (Nat.le_of_ble_eq_true rfl) (Nat.le_of_ble_eq_true rfl) dX3_root_24 (by show some _ = some _; rw [hw] <;> rfl) (by rw [hw] <;> rfl) (by rw [hw] <;> rfl)

set_option maxHeartbeats 4000000 in
set_option maxRecDepth 100000 in
theorem c_X3_turn (l : Launch) (D : va_G) (cJ : ClassId) (o a : Nat) (c : Nat → Nat) (ac : Int32) (re : Int32) (kn : Int32) (f : Int) (z : Int) (hf : 0 ≤ f ∧ f ≤ 5) (hz : 0 ≤ z ∧ z ≤ 5) : zA l yX3_turn 3 90 0 0 D 2 cJ o a [.int (iZ (f)), .int (iZ (z))] c [.int (ac), .int (re), .int (kn)] (fun v => v = some (.int (iZ (aR c (z.toNat) (some (tu (c f.toNat))))))) (aC c (z.toNat) (some (tu (c f.toNat)))) [.int (aA ac (some (tu (c f.toNat)))), .int (aF re (some (tu (c f.toNat)))), .int (kn)] := by
  refine zA.intro (lo := 66) (nA := 2) (own := RX3) zi_X3_turn (by decide) rfl rfl (by decide +kernel) rfl (Nat.le_of_ble_eq_true rfl) ?_
  intro p e s m below meth c0 ls C hr hk B hl
  have hl : lv_has ls 5 [(0, .ref o), (1, .int (iZ (f))), (2, .int (iZ (z)))] := hl
  refine lv_aload_n C.1 C.2.1 dX3_turn_0 rfl (lv_at hl 0 rfl) ?_
  refine lv_iload_n C.1 C.2.1 dX3_turn_1 rfl (lv_at hl 1 rfl) ?_
  refine zo_callD C B (r := some (.long (lN ((c) (f).toNat)))) (c_X3_polyIn l D cJ o a (c) (ac) (re) (kn) (f) (by first | assumption | omega | rfl | exact decide_eq_false (by omega) | exact decide_eq_true (by assumption) | exact decide_eq_true (by omega) | exact one_shl33 (by omega) | exact pm_lt _ _ | exact rm_lt (by first | assumption | exact pm_lt _ _) | exact Nat.lt_of_le_of_lt (Nat.shiftRight_le _ _) (by assumption) | exact Nat.lt_of_le_of_lt Nat.and_le_right (by omega))) ml_X3_43 rfl ⟨Nat.le_of_ble_eq_true rfl, Nat.le_of_ble_eq_true rfl⟩ ⟨Nat.le_of_ble_eq_true rfl, Nat.le_of_ble_eq_true rfl⟩ hl (Nat.le_of_ble_eq_true rfl) rfl dX3_turn_2 (fun H locs B => ?_)
  have q2_0 := B.1.2.2.2 ((f)).toNat
  refine lv_lstore_n (lv' := [(3, .long (lN ((c) (f).toNat))), (0, .ref o), (1, .int (iZ (f))), (2, .int (iZ (z)))]) C.1 C.2.1 dX3_turn_5 rfl hl (by decide) rfl (fun ls hl => ?_)
  refine lv_aload_n C.1 C.2.1 dX3_turn_6 rfl (lv_at hl 1 rfl) ?_
  refine lv_iload_n C.1 C.2.1 dX3_turn_7 rfl (lv_at hl 3 rfl) ?_
  refine zo_callD C B (r := none) (c_X3_checkCell l D cJ o a (c) ((ac)) ((re)) ((kn)) (z) (by first | assumption | omega | rfl | exact decide_eq_false (by omega) | exact decide_eq_true (by assumption) | exact decide_eq_true (by omega) | exact one_shl33 (by omega) | exact pm_lt _ _ | exact rm_lt (by first | assumption | exact pm_lt _ _) | exact Nat.lt_of_le_of_lt (Nat.shiftRight_le _ _) (by assumption) | exact Nat.lt_of_le_of_lt Nat.and_le_right (by omega))) ml_X3_23 rfl ⟨Nat.le_of_ble_eq_true rfl, Nat.le_of_ble_eq_true rfl⟩ ⟨Nat.le_of_ble_eq_true rfl, Nat.le_of_ble_eq_true rfl⟩ hl (Nat.le_of_ble_eq_true rfl) rfl dX3_turn_8 (fun H locs B => ?_)
  refine lv_aload_n C.1 C.2.1 dX3_turn_11 rfl (lv_at hl 1 rfl) ?_
  refine lv_iload_n C.1 C.2.1 dX3_turn_12 rfl (lv_at hl 3 rfl) ?_
  refine lv_lload_n C.1 C.2.1 dX3_turn_13 rfl (lv_at hl 0 rfl) ?_
  refine z_call C (c_X1_turned l ((c) (f).toNat) (by first | assumption | omega | rfl | exact decide_eq_false (by omega) | exact decide_eq_true (by assumption) | exact decide_eq_true (by omega) | exact one_shl33 (by omega) | exact pm_lt _ _ | exact rm_lt (by first | assumption | exact pm_lt _ _) | exact Nat.lt_of_le_of_lt (Nat.shiftRight_le _ _) (by assumption) | exact Nat.lt_of_le_of_lt Nat.and_le_right (by omega))) ml_X3_99 ⟨by decide, by decide⟩ ⟨Nat.le_of_ble_eq_true rfl, Nat.le_of_ble_eq_true rfl⟩ hl (Nat.le_of_ble_eq_true rfl) rfl dX3_turn_14 ?_
  refine zo_callD C B (r := some (.int (iZ (aR (c) (z).toNat (some (tu ((c) (f).toNat))))))) (c_X3_fill l D cJ o a (c) (((ac))) (((re))) (((kn))) (z) (tu ((c) (f).toNat)) (by omega) (by exact tu33 q2_0)) ml_X3_29 rfl ⟨Nat.le_of_ble_eq_true rfl, Nat.le_of_ble_eq_true rfl⟩ ⟨Nat.le_of_ble_eq_true rfl, Nat.le_of_ble_eq_true rfl⟩ hl (Nat.le_of_ble_eq_true rfl) rfl dX3_turn_17 (fun H locs B => ?_)
  have q17_0 := aR_rng ((c)) (z).toNat (some (tu ((c) (f).toNat)))
  have hw : (some (tu (c f.toNat))) = some (tu ((c) (f).toNat)) := by rfl
  exact zo_iret C B hr hk (Nat.le_of_ble_eq_true rfl) (Nat.le_of_ble_eq_true rfl) dX3_turn_20 (by show some _ = some _; rw [hw] <;> rfl) (by rw [hw] <;> rfl) (by rw [hw] <;> rfl)

set_option maxHeartbeats 4000000 in
set_option maxRecDepth 100000 in
theorem c_X3_move (l : Launch) (D : va_G) (cJ : ClassId) (o a : Nat) (c : Nat → Nat) (ac : Int32) (re : Int32) (kn : Int32) (f : Int) (z : Int) (hf : 0 ≤ f ∧ f ≤ 5) (hz : 0 ≤ z ∧ z ≤ 5) : zA l yX3_move 3 90 0 0 D 2 cJ o a [.int (iZ (f)), .int (iZ (z))] c [.int (ac), .int (re), .int (kn)] (fun v => v = some (.int (iZ (aR c (z.toNat) (some (mv (c f.toNat))))))) (aC c (z.toNat) (some (mv (c f.toNat)))) [.int (aA ac (some (mv (c f.toNat)))), .int (aF re (some (mv (c f.toNat)))), .int (kn)] := by
  refine zA.intro (lo := 66) (nA := 2) (own := RX3) zi_X3_move (by decide) rfl rfl (by decide +kernel) rfl (Nat.le_of_ble_eq_true rfl) ?_
  intro p e s m below meth c0 ls C hr hk B hl
  have hl : lv_has ls 5 [(0, .ref o), (1, .int (iZ (f))), (2, .int (iZ (z)))] := hl
  refine lv_aload_n C.1 C.2.1 dX3_move_0 rfl (lv_at hl 0 rfl) ?_
  refine lv_iload_n C.1 C.2.1 dX3_move_1 rfl (lv_at hl 1 rfl) ?_
  refine zo_callD C B (r := some (.long (lN ((c) (f).toNat)))) (c_X3_polyIn l D cJ o a (c) (ac) (re) (kn) (f) (by first | assumption | omega | rfl | exact decide_eq_false (by omega) | exact decide_eq_true (by assumption) | exact decide_eq_true (by omega) | exact one_shl33 (by omega) | exact pm_lt _ _ | exact rm_lt (by first | assumption | exact pm_lt _ _) | exact Nat.lt_of_le_of_lt (Nat.shiftRight_le _ _) (by assumption) | exact Nat.lt_of_le_of_lt Nat.and_le_right (by omega))) ml_X3_43 rfl ⟨Nat.le_of_ble_eq_true rfl, Nat.le_of_ble_eq_true rfl⟩ ⟨Nat.le_of_ble_eq_true rfl, Nat.le_of_ble_eq_true rfl⟩ hl (Nat.le_of_ble_eq_true rfl) rfl dX3_move_2 (fun H locs B => ?_)
  have q2_0 := B.1.2.2.2 ((f)).toNat
  refine lv_lstore_n (lv' := [(3, .long (lN ((c) (f).toNat))), (0, .ref o), (1, .int (iZ (f))), (2, .int (iZ (z)))]) C.1 C.2.1 dX3_move_5 rfl hl (by decide) rfl (fun ls hl => ?_)
  refine lv_aload_n C.1 C.2.1 dX3_move_6 rfl (lv_at hl 1 rfl) ?_
  refine lv_iload_n C.1 C.2.1 dX3_move_7 rfl (lv_at hl 3 rfl) ?_
  refine zo_callD C B (r := none) (c_X3_checkCell l D cJ o a (c) ((ac)) ((re)) ((kn)) (z) (by first | assumption | omega | rfl | exact decide_eq_false (by omega) | exact decide_eq_true (by assumption) | exact decide_eq_true (by omega) | exact one_shl33 (by omega) | exact pm_lt _ _ | exact rm_lt (by first | assumption | exact pm_lt _ _) | exact Nat.lt_of_le_of_lt (Nat.shiftRight_le _ _) (by assumption) | exact Nat.lt_of_le_of_lt Nat.and_le_right (by omega))) ml_X3_23 rfl ⟨Nat.le_of_ble_eq_true rfl, Nat.le_of_ble_eq_true rfl⟩ ⟨Nat.le_of_ble_eq_true rfl, Nat.le_of_ble_eq_true rfl⟩ hl (Nat.le_of_ble_eq_true rfl) rfl dX3_move_8 (fun H locs B => ?_)
  refine lv_aload_n C.1 C.2.1 dX3_move_11 rfl (lv_at hl 1 rfl) ?_
  refine lv_iload_n C.1 C.2.1 dX3_move_12 rfl (lv_at hl 3 rfl) ?_
  refine lv_lload_n C.1 C.2.1 dX3_move_13 rfl (lv_at hl 0 rfl) ?_
  refine z_call C (c_X1_moved l ((c) (f).toNat) (by first | assumption | omega | rfl | exact decide_eq_false (by omega) | exact decide_eq_true (by assumption) | exact decide_eq_true (by omega) | exact one_shl33 (by omega) | exact pm_lt _ _ | exact rm_lt (by first | assumption | exact pm_lt _ _) | exact Nat.lt_of_le_of_lt (Nat.shiftRight_le _ _) (by assumption) | exact Nat.lt_of_le_of_lt Nat.and_le_right (by omega))) ml_X3_102 ⟨by decide, by decide⟩ ⟨Nat.le_of_ble_eq_true rfl, Nat.le_of_ble_eq_true rfl⟩ hl (Nat.le_of_ble_eq_true rfl) rfl dX3_move_14 ?_
  refine zo_callD C B (r := some (.int (iZ (aR (c) (z).toNat (some (mv ((c) (f).toNat))))))) (c_X3_fill l D cJ o a (c) (((ac))) (((re))) (((kn))) (z) (mv ((c) (f).toNat)) (by omega) (by exact mv33 q2_0)) ml_X3_29 rfl ⟨Nat.le_of_ble_eq_true rfl, Nat.le_of_ble_eq_true rfl⟩ ⟨Nat.le_of_ble_eq_true rfl, Nat.le_of_ble_eq_true rfl⟩ hl (Nat.le_of_ble_eq_true rfl) rfl dX3_move_17 (fun H locs B => ?_)
  have q17_0 := aR_rng ((c)) (z).toNat (some (mv ((c) (f).toNat)))
  have hw : (some (mv (c f.toNat))) = some (mv ((c) (f).toNat)) := by rfl
  exact zo_iret C B hr hk (Nat.le_of_ble_eq_true rfl) (Nat.le_of_ble_eq_true rfl) dX3_move_20 (by show some _ = some _; rw [hw] <;> rfl) (by rw [hw] <;> rfl) (by rw [hw] <;> rfl)

set_option maxHeartbeats 4000000 in
set_option maxRecDepth 100000 in
theorem c_X3_power (l : Launch) (D : va_G) (cJ : ClassId) (o a : Nat) (c : Nat → Nat) (ac : Int32) (re : Int32) (kn : Int32) (f : Int) (t : Int) (g : Int) (z : Int) (hf : 0 ≤ f ∧ f ≤ 5) (ht : 0 ≤ t ∧ t ≤ 255) (hg : 0 ≤ g ∧ g ≤ 5) (hz : 0 ≤ z ∧ z ≤ 5) : zA l yX3_power 4 132 0 0 D 2 cJ o a [.int (iZ (f)), .int (iZ (t)), .int (iZ (g)), .int (iZ (z))] c [.int (ac), .int (re), .int (kn)] (fun v => v = some (.int (iZ (aR c (z.toNat) (wP (c f.toNat) (c g.toNat) t))))) (aC c (z.toNat) (wP (c f.toNat) (c g.toNat) t)) [.int (aA ac (wP (c f.toNat) (c g.toNat) t)), .int (aF re (wP (c f.toNat) (c g.toNat) t)), .int (kn)] := by
  refine zA.intro (lo := 104) (nA := 4) (own := RX3) zi_X3_power (by decide) rfl rfl (by decide +kernel) rfl (Nat.le_of_ble_eq_true rfl) ?_
  intro p e s m below meth c0 ls C hr hk B hl
  have hl : lv_has ls 9 [(0, .ref o), (1, .int (iZ (f))), (2, .int (iZ (t))), (3, .int (iZ (g))), (4, .int (iZ (z)))] := hl
  refine lv_aload_n C.1 C.2.1 dX3_power_0 rfl (lv_at hl 0 rfl) ?_
  refine lv_iload_n C.1 C.2.1 dX3_power_1 rfl (lv_at hl 1 rfl) ?_
  refine zo_callD C B (r := some (.long (lN ((c) (f).toNat)))) (c_X3_polyIn l D cJ o a (c) (ac) (re) (kn) (f) (by first | assumption | omega | rfl | exact decide_eq_false (by omega) | exact decide_eq_true (by assumption) | exact decide_eq_true (by omega) | exact one_shl33 (by omega) | exact pm_lt _ _ | exact rm_lt (by first | assumption | exact pm_lt _ _) | exact Nat.lt_of_le_of_lt (Nat.shiftRight_le _ _) (by assumption) | exact Nat.lt_of_le_of_lt Nat.and_le_right (by omega))) ml_X3_43 rfl ⟨Nat.le_of_ble_eq_true rfl, Nat.le_of_ble_eq_true rfl⟩ ⟨Nat.le_of_ble_eq_true rfl, Nat.le_of_ble_eq_true rfl⟩ hl (Nat.le_of_ble_eq_true rfl) rfl dX3_power_2 (fun H locs B => ?_)
  have q2_0 := B.1.2.2.2 ((f)).toNat
  refine lv_lstore (lv' := [(5, .long (lN ((c) (f).toNat))), (0, .ref o), (1, .int (iZ (f))), (2, .int (iZ (t))), (3, .int (iZ (g))), (4, .int (iZ (z)))]) C.1 C.2.1 dX3_power_5 hl (by decide) rfl (fun ls hl => ?_)
  refine lv_aload_n C.1 C.2.1 dX3_power_7 rfl (lv_at hl 1 rfl) ?_
  refine lv_iload_n C.1 C.2.1 dX3_power_8 rfl (lv_at hl 4 rfl) ?_
  refine zo_callD C B (r := some (.long (lN ((c) (g).toNat)))) (c_X3_polyIn l D cJ o a (c) ((ac)) ((re)) ((kn)) (g) (by first | assumption | omega | rfl | exact decide_eq_false (by omega) | exact decide_eq_true (by assumption) | exact decide_eq_true (by omega) | exact one_shl33 (by omega) | exact pm_lt _ _ | exact rm_lt (by first | assumption | exact pm_lt _ _) | exact Nat.lt_of_le_of_lt (Nat.shiftRight_le _ _) (by assumption) | exact Nat.lt_of_le_of_lt Nat.and_le_right (by omega))) ml_X3_43 rfl ⟨Nat.le_of_ble_eq_true rfl, Nat.le_of_ble_eq_true rfl⟩ ⟨Nat.le_of_ble_eq_true rfl, Nat.le_of_ble_eq_true rfl⟩ hl (Nat.le_of_ble_eq_true rfl) rfl dX3_power_9 (fun H locs B => ?_)
  have q9_0 := B.1.2.2.2 ((g)).toNat
  refine lv_lstore (lv' := [(7, .long (lN ((c) (g).toNat))), (5, .long (lN ((c) (f).toNat))), (0, .ref o), (1, .int (iZ (f))), (2, .int (iZ (t))), (3, .int (iZ (g))), (4, .int (iZ (z)))]) C.1 C.2.1 dX3_power_12 hl (by decide) rfl (fun ls hl => ?_)
  refine lv_aload_n C.1 C.2.1 dX3_power_14 rfl (lv_at hl 2 rfl) ?_
  refine lv_iload C.1 C.2.1 dX3_power_15 (lv_at hl 6 rfl) ?_
  refine zo_callD C B (r := none) (c_X3_checkCell l D cJ o a (c) (((ac))) (((re))) (((kn))) (z) (by first | assumption | omega | rfl | exact decide_eq_false (by omega) | exact decide_eq_true (by assumption) | exact decide_eq_true (by omega) | exact one_shl33 (by omega) | exact pm_lt _ _ | exact rm_lt (by first | assumption | exact pm_lt _ _) | exact Nat.lt_of_le_of_lt (Nat.shiftRight_le _ _) (by assumption) | exact Nat.lt_of_le_of_lt Nat.and_le_right (by omega))) ml_X3_23 rfl ⟨Nat.le_of_ble_eq_true rfl, Nat.le_of_ble_eq_true rfl⟩ ⟨Nat.le_of_ble_eq_true rfl, Nat.le_of_ble_eq_true rfl⟩ hl (Nat.le_of_ble_eq_true rfl) rfl dX3_power_17 (fun H locs B => ?_)
  refine lv_iload_n C.1 C.2.1 dX3_power_20 rfl (lv_at hl 4 rfl) ?_
  refine z_iconst C dX3_power_21 ?_
  refine z_sipush C dX3_power_22 (by decide) ?_
  refine z_callv C (c_X3_checkRange l (t) (0 : Int) (255 : Int) (by first | assumption | omega | rfl | exact decide_eq_false (by omega) | exact decide_eq_true (by assumption) | exact decide_eq_true (by omega) | exact one_shl33 (by omega) | exact pm_lt _ _ | exact rm_lt (by first | assumption | exact pm_lt _ _) | exact Nat.lt_of_le_of_lt (Nat.shiftRight_le _ _) (by assumption) | exact Nat.lt_of_le_of_lt Nat.and_le_right (by omega))) ml_X3_33 ⟨by decide, by decide⟩ ⟨Nat.le_of_ble_eq_true rfl, Nat.le_of_ble_eq_true rfl⟩ hl (Nat.le_of_ble_eq_true rfl) rfl dX3_power_25 ?_
  refine lv_lload C.1 C.2.1 dX3_power_28 (lv_at hl 0 rfl) ?_
  refine z_iconst C dX3_power_30 ?_
  refine z_bipush C dX3_power_31 (by decide) ?_
  refine z_call C (c_X3_hasDegreeIn l ((c) (g).toNat) (1 : Int) (12 : Int) (by first | assumption | omega | rfl | exact decide_eq_false (by omega) | exact decide_eq_true (by assumption) | exact decide_eq_true (by omega) | exact one_shl33 (by omega) | exact pm_lt _ _ | exact rm_lt (by first | assumption | exact pm_lt _ _) | exact Nat.lt_of_le_of_lt (Nat.shiftRight_le _ _) (by assumption) | exact Nat.lt_of_le_of_lt Nat.and_le_right (by omega)) (by first | assumption | omega | rfl | exact decide_eq_false (by omega) | exact decide_eq_true (by assumption) | exact decide_eq_true (by omega) | exact one_shl33 (by omega) | exact pm_lt _ _ | exact rm_lt (by first | assumption | exact pm_lt _ _) | exact Nat.lt_of_le_of_lt (Nat.shiftRight_le _ _) (by assumption) | exact Nat.lt_of_le_of_lt Nat.and_le_right (by omega))) ml_X3_105 ⟨by decide, by decide⟩ ⟨Nat.le_of_ble_eq_true rfl, Nat.le_of_ble_eq_true rfl⟩ hl (Nat.le_of_ble_eq_true rfl) rfl dX3_power_33 ?_
  refine z_ifB_ne (tgt := 44) C dX3_power_36 (by decide) (fun h36 => ?_) (fun h36 => ?_)
  · refine lv_aload_n C.1 C.2.1 dX3_power_44 rfl (lv_at hl 2 rfl) ?_
    refine lv_iload C.1 C.2.1 dX3_power_45 (lv_at hl 6 rfl) ?_
    refine lv_lload C.1 C.2.1 dX3_power_47 (lv_at hl 1 rfl) ?_
    refine lv_iload_n C.1 C.2.1 dX3_power_49 rfl (lv_at hl 4 rfl) ?_
    refine lv_lload C.1 C.2.1 dX3_power_50 (lv_at hl 0 rfl) ?_
    refine z_call C (c_X1_powerRest l ((c) (f).toNat) (t) ((c) (g).toNat) (by first | assumption | omega | rfl | exact decide_eq_false (by omega) | exact decide_eq_true (by assumption) | exact decide_eq_true (by omega) | exact one_shl33 (by omega) | exact pm_lt _ _ | exact rm_lt (by first | assumption | exact pm_lt _ _) | exact Nat.lt_of_le_of_lt (Nat.shiftRight_le _ _) (by assumption) | exact Nat.lt_of_le_of_lt Nat.and_le_right (by omega)) (by first | assumption | omega | rfl | exact decide_eq_false (by omega) | exact decide_eq_true (by assumption) | exact decide_eq_true (by omega) | exact one_shl33 (by omega) | exact pm_lt _ _ | exact rm_lt (by first | assumption | exact pm_lt _ _) | exact Nat.lt_of_le_of_lt (Nat.shiftRight_le _ _) (by assumption) | exact Nat.lt_of_le_of_lt Nat.and_le_right (by omega)) (by first | assumption | omega | rfl | exact decide_eq_false (by omega) | exact decide_eq_true (by assumption) | exact decide_eq_true (by omega) | exact one_shl33 (by omega) | exact pm_lt _ _ | exact rm_lt (by first | assumption | exact pm_lt _ _) | exact Nat.lt_of_le_of_lt (Nat.shiftRight_le _ _) (by assumption) | exact Nat.lt_of_le_of_lt Nat.and_le_right (by omega))) ml_X3_109 ⟨by decide, by decide⟩ ⟨Nat.le_of_ble_eq_true rfl, Nat.le_of_ble_eq_true rfl⟩ hl (Nat.le_of_ble_eq_true rfl) rfl dX3_power_52 ?_
    refine zo_callD C B (r := some (.int (iZ (aR (c) (z).toNat (some (pw ((c) (f).toNat) (t).toNat ((c) (g).toNat))))))) (c_X3_fill l D cJ o a (c) ((((ac)))) ((((re)))) ((((kn)))) (z) (pw ((c) (f).toNat) (t).toNat ((c) (g).toNat)) (by omega) (by have h36b := of_decide_eq_true h36; exact pw33 q9_0 (mt tp_neg.mpr (by omega)))) ml_X3_29 rfl ⟨Nat.le_of_ble_eq_true rfl, Nat.le_of_ble_eq_true rfl⟩ ⟨Nat.le_of_ble_eq_true rfl, Nat.le_of_ble_eq_true rfl⟩ hl (Nat.le_of_ble_eq_true rfl) rfl dX3_power_55 (fun H locs B => ?_)
    have q55_0 := aR_rng ((c)) (z).toNat (some (pw ((c) (f).toNat) (t).toNat ((c) (g).toNat)))
    have hw : (wP (c f.toNat) (c g.toNat) t) = some (pw ((c) (f).toNat) (t).toNat ((c) (g).toNat)) := by exact if_pos (of_decide_eq_true h36)
    exact zo_iret C B hr hk (Nat.le_of_ble_eq_true rfl) (Nat.le_of_ble_eq_true rfl) dX3_power_58 (by show some _ = some _; rw [hw] <;> rfl) (by rw [hw] <;> rfl) (by rw [hw] <;> rfl)
  · refine lv_aload_n C.1 C.2.1 dX3_power_39 rfl (lv_at hl 2 rfl) ?_
    refine zo_callD C B (r := some (.int (iZ (-9)))) (c_X3_refuse l D cJ o a (c) ((((ac)))) ((((re)))) ((((kn))))  ) ml_X3_73 rfl ⟨Nat.le_of_ble_eq_true rfl, Nat.le_of_ble_eq_true rfl⟩ ⟨Nat.le_of_ble_eq_true rfl, Nat.le_of_ble_eq_true rfl⟩ hl (Nat.le_of_ble_eq_true rfl) rfl dX3_power_40 (fun H locs B => ?_)
    have hw : (wP (c f.toNat) (c g.toNat) t) = none := by exact if_neg (of_decide_eq_false h36)
    exact zo_iret C B hr hk (Nat.le_of_ble_eq_true rfl) (Nat.le_of_ble_eq_true rfl) dX3_power_43 (by show some _ = some _; rw [hw] <;> rfl) (by rw [hw] <;> rfl) (by rw [hw] <;> rfl)

set_option maxHeartbeats 4000000 in
set_option maxRecDepth 100000 in
theorem c_X3_nth (l : Launch) (D : va_G) (cJ : ClassId) (o a : Nat) (c : Nat → Nat) (ac : Int32) (re : Int32) (kn : Int32) (d : Int) (r : Int) (z : Int) (hd : 1 ≤ d ∧ d ≤ 8) (hr0 : 0 ≤ r ∧ r ≤ 40) (hz : 0 ≤ z ∧ z ≤ 5) : zA l yX3_nth 6 173 0 0 D 2 cJ o a [.int (iZ (d)), .int (iZ (r)), .int (iZ (z))] c [.int (ac), .int (re), .int (kn)] (fun v => v = some (.int (iZ (aR c (z.toNat) (wN d r))))) (aC c (z.toNat) (wN d r)) [.int (aA ac (wN d r)), .int (aF re (wN d r)), .int (kn)] := by
  refine zA.intro (lo := 148) (nA := 3) (own := RX3) zi_X3_nth (by decide) rfl rfl (by decide +kernel) rfl (Nat.le_of_ble_eq_true rfl) ?_
  intro p e s m below meth c0 ls C hr hk B hl
  have hl : lv_has ls 6 [(0, .ref o), (1, .int (iZ (d))), (2, .int (iZ (r))), (3, .int (iZ (z)))] := hl
  refine lv_aload_n C.1 C.2.1 dX3_nth_0 rfl (lv_at hl 0 rfl) ?_
  refine lv_iload_n C.1 C.2.1 dX3_nth_1 rfl (lv_at hl 3 rfl) ?_
  refine zo_callD C B (r := none) (c_X3_checkCell l D cJ o a (c) (ac) (re) (kn) (z) (by first | assumption | omega | rfl | exact decide_eq_false (by omega) | exact decide_eq_true (by assumption) | exact decide_eq_true (by omega) | exact one_shl33 (by omega) | exact pm_lt _ _ | exact rm_lt (by first | assumption | exact pm_lt _ _) | exact Nat.lt_of_le_of_lt (Nat.shiftRight_le _ _) (by assumption) | exact Nat.lt_of_le_of_lt Nat.and_le_right (by omega))) ml_X3_23 rfl ⟨Nat.le_of_ble_eq_true rfl, Nat.le_of_ble_eq_true rfl⟩ ⟨Nat.le_of_ble_eq_true rfl, Nat.le_of_ble_eq_true rfl⟩ hl (Nat.le_of_ble_eq_true rfl) rfl dX3_nth_2 (fun H locs B => ?_)
  refine lv_iload_n C.1 C.2.1 dX3_nth_5 rfl (lv_at hl 1 rfl) ?_
  refine z_iconst C dX3_nth_6 ?_
  refine z_bipush C dX3_nth_7 (by decide) ?_
  refine z_callv C (c_X3_checkRange l (d) (1 : Int) (8 : Int) (by first | assumption | omega | rfl | exact decide_eq_false (by omega) | exact decide_eq_true (by assumption) | exact decide_eq_true (by omega) | exact one_shl33 (by omega) | exact pm_lt _ _ | exact rm_lt (by first | assumption | exact pm_lt _ _) | exact Nat.lt_of_le_of_lt (Nat.shiftRight_le _ _) (by assumption) | exact Nat.lt_of_le_of_lt Nat.and_le_right (by omega))) ml_X3_33 ⟨by decide, by decide⟩ ⟨Nat.le_of_ble_eq_true rfl, Nat.le_of_ble_eq_true rfl⟩ hl (Nat.le_of_ble_eq_true rfl) rfl dX3_nth_9 ?_
  refine lv_iload_n C.1 C.2.1 dX3_nth_12 rfl (lv_at hl 2 rfl) ?_
  refine z_iconst C dX3_nth_13 ?_
  refine z_bipush C dX3_nth_14 (by decide) ?_
  refine z_callv C (c_X3_checkRange l (r) (0 : Int) (40 : Int) (by first | assumption | omega | rfl | exact decide_eq_false (by omega) | exact decide_eq_true (by assumption) | exact decide_eq_true (by omega) | exact one_shl33 (by omega) | exact pm_lt _ _ | exact rm_lt (by first | assumption | exact pm_lt _ _) | exact Nat.lt_of_le_of_lt (Nat.shiftRight_le _ _) (by assumption) | exact Nat.lt_of_le_of_lt Nat.and_le_right (by omega))) ml_X3_33 ⟨by decide, by decide⟩ ⟨Nat.le_of_ble_eq_true rfl, Nat.le_of_ble_eq_true rfl⟩ hl (Nat.le_of_ble_eq_true rfl) rfl dX3_nth_16 ?_
  refine lv_iload_n C.1 C.2.1 dX3_nth_19 rfl (lv_at hl 1 rfl) ?_
  refine lv_iload_n C.1 C.2.1 dX3_nth_20 rfl (lv_at hl 2 rfl) ?_
  refine z_call C (c_X0_withRank l (d) (r) (by first | assumption | omega | rfl | exact decide_eq_false (by omega) | exact decide_eq_true (by assumption) | exact decide_eq_true (by omega) | exact one_shl33 (by omega) | exact pm_lt _ _ | exact rm_lt (by first | assumption | exact pm_lt _ _) | exact Nat.lt_of_le_of_lt (Nat.shiftRight_le _ _) (by assumption) | exact Nat.lt_of_le_of_lt Nat.and_le_right (by omega)) (by first | assumption | omega | rfl | exact decide_eq_false (by omega) | exact decide_eq_true (by assumption) | exact decide_eq_true (by omega) | exact one_shl33 (by omega) | exact pm_lt _ _ | exact rm_lt (by first | assumption | exact pm_lt _ _) | exact Nat.lt_of_le_of_lt (Nat.shiftRight_le _ _) (by assumption) | exact Nat.lt_of_le_of_lt Nat.and_le_right (by omega))) ml_X3_113 ⟨by decide, by decide⟩ ⟨Nat.le_of_ble_eq_true rfl, Nat.le_of_ble_eq_true rfl⟩ hl (Nat.le_of_ble_eq_true rfl) rfl dX3_nth_21 ?_
  have q21_0 := wr_ltE (d).toNat (r) (by omega)
  refine lv_lstore (lv' := [(4, .long (lN (wr (d).toNat (r)))), (0, .ref o), (1, .int (iZ (d))), (2, .int (iZ (r))), (3, .int (iZ (z)))]) C.1 C.2.1 dX3_nth_24 hl (by decide) rfl (fun ls hl => ?_)
  refine lv_lload C.1 C.2.1 dX3_nth_26 (lv_at hl 0 rfl) ?_
  refine z_lconst (k0 := 0) C dX3_nth_28 rfl ?_
  refine z_lc_ne (tgt := 40) C (by first | assumption | omega | rfl | exact decide_eq_false (by omega) | exact decide_eq_true (by assumption) | exact decide_eq_true (by omega) | exact one_shl33 (by omega) | exact pm_lt _ _ | exact rm_lt (by first | assumption | exact pm_lt _ _) | exact Nat.lt_of_le_of_lt (Nat.shiftRight_le _ _) (by assumption) | exact Nat.lt_of_le_of_lt Nat.and_le_right (by omega)) (by first | assumption | omega | rfl | exact decide_eq_false (by omega) | exact decide_eq_true (by assumption) | exact decide_eq_true (by omega) | exact one_shl33 (by omega) | exact pm_lt _ _ | exact rm_lt (by first | assumption | exact pm_lt _ _) | exact Nat.lt_of_le_of_lt (Nat.shiftRight_le _ _) (by assumption) | exact Nat.lt_of_le_of_lt Nat.and_le_right (by omega)) dX3_nth_29 dX3_nth_30 (by decide) (fun h29 => ?_) (fun h29 => ?_)
  · refine lv_aload_n C.1 C.2.1 dX3_nth_40 rfl (lv_at hl 1 rfl) ?_
    refine lv_iload_n C.1 C.2.1 dX3_nth_41 rfl (lv_at hl 4 rfl) ?_
    refine lv_lload C.1 C.2.1 dX3_nth_42 (lv_at hl 0 rfl) ?_
    refine zo_callD C B (r := some (.int (iZ (aR (c) (z).toNat (some (wr (d).toNat (r))))))) (c_X3_fill l D cJ o a (c) ((ac)) ((re)) ((kn)) (z) (wr (d).toNat (r)) (by first | assumption | omega | rfl | exact decide_eq_false (by omega) | exact decide_eq_true (by assumption) | exact decide_eq_true (by omega) | exact one_shl33 (by omega) | exact pm_lt _ _ | exact rm_lt (by first | assumption | exact pm_lt _ _) | exact Nat.lt_of_le_of_lt (Nat.shiftRight_le _ _) (by assumption) | exact Nat.lt_of_le_of_lt Nat.and_le_right (by omega)) (by first | assumption | omega | rfl | exact decide_eq_false (by omega) | exact decide_eq_true (by assumption) | exact decide_eq_true (by omega) | exact one_shl33 (by omega) | exact pm_lt _ _ | exact rm_lt (by first | assumption | exact pm_lt _ _) | exact Nat.lt_of_le_of_lt (Nat.shiftRight_le _ _) (by assumption) | exact Nat.lt_of_le_of_lt Nat.and_le_right (by omega))) ml_X3_29 rfl ⟨Nat.le_of_ble_eq_true rfl, Nat.le_of_ble_eq_true rfl⟩ ⟨Nat.le_of_ble_eq_true rfl, Nat.le_of_ble_eq_true rfl⟩ hl (Nat.le_of_ble_eq_true rfl) rfl dX3_nth_44 (fun H locs B => ?_)
    have q44_0 := aR_rng ((c)) (z).toNat (some (wr (d).toNat (r)))
    have hw : (wN d r) = some (wr (d).toNat (r)) := by exact if_neg h29
    exact zo_iret C B hr hk (Nat.le_of_ble_eq_true rfl) (Nat.le_of_ble_eq_true rfl) dX3_nth_47 (by show some _ = some _; rw [hw] <;> rfl) (by rw [hw] <;> rfl) (by rw [hw] <;> rfl)
  · refine lv_aload_n C.1 C.2.1 dX3_nth_33 rfl (lv_at hl 1 rfl) ?_
    refine zo_callD C B (r := some (.int (iZ (-9)))) (c_X3_refuse l D cJ o a (c) ((ac)) ((re)) ((kn))  ) ml_X3_73 rfl ⟨Nat.le_of_ble_eq_true rfl, Nat.le_of_ble_eq_true rfl⟩ ⟨Nat.le_of_ble_eq_true rfl, Nat.le_of_ble_eq_true rfl⟩ hl (Nat.le_of_ble_eq_true rfl) rfl dX3_nth_34 (fun H locs B => ?_)
    refine lv_goto (tgt := 47) C.1 C.2.1 dX3_nth_37 (by decide) ?_
    have hw : (wN d r) = none := by exact if_pos h29
    exact zo_iret C B hr hk (Nat.le_of_ble_eq_true rfl) (Nat.le_of_ble_eq_true rfl) dX3_nth_47 (by show some _ = some _; rw [hw] <;> rfl) (by rw [hw] <;> rfl) (by rw [hw] <;> rfl)

set_option maxHeartbeats 4000000 in
set_option maxRecDepth 100000 in
theorem c_X3_field (l : Launch) (D : va_G) (cJ : ClassId) (o a : Nat) (c : Nat → Nat) (ac : Int32) (re : Int32) (kn : Int32) (n : Int) (z : Int) (hn : 1 ≤ n ∧ n ≤ 5) (hz : 0 ≤ z ∧ z ≤ 5) : zA l yX3_field 7 195 0 0 D 2 cJ o a [.int (iZ (n)), .int (iZ (z))] c [.int (ac), .int (re), .int (kn)] (fun v => v = some (.int (iZ (aR c (z.toNat) (some (pd n)))))) (aC c (z.toNat) (some (pd n))) [.int (aA ac (some (pd n))), .int (aF re (some (pd n))), .int (kn)] := by
  refine zA.intro (lo := 173) (nA := 2) (own := RX3) zi_X3_field (by decide) rfl rfl (by decide +kernel) rfl (Nat.le_of_ble_eq_true rfl) ?_
  intro p e s m below meth c0 ls C hr hk B hl
  have hl : lv_has ls 3 [(0, .ref o), (1, .int (iZ (n))), (2, .int (iZ (z)))] := hl
  refine lv_aload_n C.1 C.2.1 dX3_field_0 rfl (lv_at hl 0 rfl) ?_
  refine lv_iload_n C.1 C.2.1 dX3_field_1 rfl (lv_at hl 2 rfl) ?_
  refine zo_callD C B (r := none) (c_X3_checkCell l D cJ o a (c) (ac) (re) (kn) (z) (by first | assumption | omega | rfl | exact decide_eq_false (by omega) | exact decide_eq_true (by assumption) | exact decide_eq_true (by omega) | exact one_shl33 (by omega) | exact pm_lt _ _ | exact rm_lt (by first | assumption | exact pm_lt _ _) | exact Nat.lt_of_le_of_lt (Nat.shiftRight_le _ _) (by assumption) | exact Nat.lt_of_le_of_lt Nat.and_le_right (by omega))) ml_X3_23 rfl ⟨Nat.le_of_ble_eq_true rfl, Nat.le_of_ble_eq_true rfl⟩ ⟨Nat.le_of_ble_eq_true rfl, Nat.le_of_ble_eq_true rfl⟩ hl (Nat.le_of_ble_eq_true rfl) rfl dX3_field_2 (fun H locs B => ?_)
  refine lv_iload_n C.1 C.2.1 dX3_field_5 rfl (lv_at hl 1 rfl) ?_
  refine z_iconst C dX3_field_6 ?_
  refine z_iconst C dX3_field_7 ?_
  refine z_callv C (c_X3_checkRange l (n) (1 : Int) (5 : Int) (by first | assumption | omega | rfl | exact decide_eq_false (by omega) | exact decide_eq_true (by assumption) | exact decide_eq_true (by omega) | exact one_shl33 (by omega) | exact pm_lt _ _ | exact rm_lt (by first | assumption | exact pm_lt _ _) | exact Nat.lt_of_le_of_lt (Nat.shiftRight_le _ _) (by assumption) | exact Nat.lt_of_le_of_lt Nat.and_le_right (by omega))) ml_X3_33 ⟨by decide, by decide⟩ ⟨Nat.le_of_ble_eq_true rfl, Nat.le_of_ble_eq_true rfl⟩ hl (Nat.le_of_ble_eq_true rfl) rfl dX3_field_8 ?_
  refine lv_aload_n C.1 C.2.1 dX3_field_11 rfl (lv_at hl 0 rfl) ?_
  refine lv_iload_n C.1 C.2.1 dX3_field_12 rfl (lv_at hl 2 rfl) ?_
  refine lv_iload_n C.1 C.2.1 dX3_field_13 rfl (lv_at hl 1 rfl) ?_
  refine z_call C (c_X0_productForDivisors l (n) (by first | assumption | omega | rfl | exact decide_eq_false (by omega) | exact decide_eq_true (by assumption) | exact decide_eq_true (by omega) | exact one_shl33 (by omega) | exact pm_lt _ _ | exact rm_lt (by first | assumption | exact pm_lt _ _) | exact Nat.lt_of_le_of_lt (Nat.shiftRight_le _ _) (by assumption) | exact Nat.lt_of_le_of_lt Nat.and_le_right (by omega))) ml_X3_119 ⟨by decide, by decide⟩ ⟨Nat.le_of_ble_eq_true rfl, Nat.le_of_ble_eq_true rfl⟩ hl (Nat.le_of_ble_eq_true rfl) rfl dX3_field_14 ?_
  have q14_0 := pd_ltE (n)
  refine zo_callD C B (r := some (.int (iZ (aR (c) (z).toNat (some (pd (n))))))) (c_X3_fill l D cJ o a (c) ((ac)) ((re)) ((kn)) (z) (pd (n)) (by omega) (by exact pd33 hn)) ml_X3_29 rfl ⟨Nat.le_of_ble_eq_true rfl, Nat.le_of_ble_eq_true rfl⟩ ⟨Nat.le_of_ble_eq_true rfl, Nat.le_of_ble_eq_true rfl⟩ hl (Nat.le_of_ble_eq_true rfl) rfl dX3_field_17 (fun H locs B => ?_)
  have q17_0 := aR_rng ((c)) (z).toNat (some (pd (n)))
  have hw : (some (pd n)) = some (pd (n)) := by rfl
  exact zo_iret C B hr hk (Nat.le_of_ble_eq_true rfl) (Nat.le_of_ble_eq_true rfl) dX3_field_20 (by show some _ = some _; rw [hw] <;> rfl) (by rw [hw] <;> rfl) (by rw [hw] <;> rfl)

set_option maxHeartbeats 4000000 in
set_option maxRecDepth 100000 in
theorem c_X3_again (l : Launch) (D : va_G) (cJ : ClassId) (o a : Nat) (c : Nat → Nat) (ac : Int32) (re : Int32) (kn : Int32) (f : Int) (r : Int) (z : Int) (hf : 0 ≤ f ∧ f ≤ 5) (hr0 : 2 ≤ r ∧ r ≤ 36) (hz : 0 ≤ z ∧ z ≤ 5) : zA l yX3_again 3 91 0 0 D 2 cJ o a [.int (iZ (f)), .int (iZ (r)), .int (iZ (z))] c [.int (ac), .int (re), .int (kn)] (fun v => v = some (.int (iZ (aR c (z.toNat) (some (c f.toNat)))))) (aC c (z.toNat) (some (c f.toNat))) [.int (aA ac (some (c f.toNat))), .int (aF re (some (c f.toNat))), .int (kn)] := by
  refine zA.intro (lo := 66) (nA := 3) (own := RX3) zi_X3_again (by decide) rfl rfl (by decide +kernel) rfl (Nat.le_of_ble_eq_true rfl) ?_
  intro p e s m below meth c0 ls C hr hk B hl
  have hl : lv_has ls 6 [(0, .ref o), (1, .int (iZ (f))), (2, .int (iZ (r))), (3, .int (iZ (z)))] := hl
  refine lv_aload_n C.1 C.2.1 dX3_again_0 rfl (lv_at hl 0 rfl) ?_
  refine lv_iload_n C.1 C.2.1 dX3_again_1 rfl (lv_at hl 1 rfl) ?_
  refine zo_callD C B (r := some (.long (lN ((c) (f).toNat)))) (c_X3_polyIn l D cJ o a (c) (ac) (re) (kn) (f) (by first | assumption | omega | rfl | exact decide_eq_false (by omega) | exact decide_eq_true (by assumption) | exact decide_eq_true (by omega) | exact one_shl33 (by omega) | exact pm_lt _ _ | exact rm_lt (by first | assumption | exact pm_lt _ _) | exact Nat.lt_of_le_of_lt (Nat.shiftRight_le _ _) (by assumption) | exact Nat.lt_of_le_of_lt Nat.and_le_right (by omega))) ml_X3_43 rfl ⟨Nat.le_of_ble_eq_true rfl, Nat.le_of_ble_eq_true rfl⟩ ⟨Nat.le_of_ble_eq_true rfl, Nat.le_of_ble_eq_true rfl⟩ hl (Nat.le_of_ble_eq_true rfl) rfl dX3_again_2 (fun H locs B => ?_)
  have q2_0 := B.1.2.2.2 ((f)).toNat
  refine lv_lstore (lv' := [(4, .long (lN ((c) (f).toNat))), (0, .ref o), (1, .int (iZ (f))), (2, .int (iZ (r))), (3, .int (iZ (z)))]) C.1 C.2.1 dX3_again_5 hl (by decide) rfl (fun ls hl => ?_)
  refine lv_aload_n C.1 C.2.1 dX3_again_7 rfl (lv_at hl 1 rfl) ?_
  refine lv_iload_n C.1 C.2.1 dX3_again_8 rfl (lv_at hl 4 rfl) ?_
  refine zo_callD C B (r := none) (c_X3_checkCell l D cJ o a (c) ((ac)) ((re)) ((kn)) (z) (by first | assumption | omega | rfl | exact decide_eq_false (by omega) | exact decide_eq_true (by assumption) | exact decide_eq_true (by omega) | exact one_shl33 (by omega) | exact pm_lt _ _ | exact rm_lt (by first | assumption | exact pm_lt _ _) | exact Nat.lt_of_le_of_lt (Nat.shiftRight_le _ _) (by assumption) | exact Nat.lt_of_le_of_lt Nat.and_le_right (by omega))) ml_X3_23 rfl ⟨Nat.le_of_ble_eq_true rfl, Nat.le_of_ble_eq_true rfl⟩ ⟨Nat.le_of_ble_eq_true rfl, Nat.le_of_ble_eq_true rfl⟩ hl (Nat.le_of_ble_eq_true rfl) rfl dX3_again_9 (fun H locs B => ?_)
  refine lv_iload_n C.1 C.2.1 dX3_again_12 rfl (lv_at hl 3 rfl) ?_
  refine z_iconst C dX3_again_13 ?_
  refine z_bipush C dX3_again_14 (by decide) ?_
  refine z_callv C (c_X3_checkRange l (r) (2 : Int) (36 : Int) (by first | assumption | omega | rfl | exact decide_eq_false (by omega) | exact decide_eq_true (by assumption) | exact decide_eq_true (by omega) | exact one_shl33 (by omega) | exact pm_lt _ _ | exact rm_lt (by first | assumption | exact pm_lt _ _) | exact Nat.lt_of_le_of_lt (Nat.shiftRight_le _ _) (by assumption) | exact Nat.lt_of_le_of_lt Nat.and_le_right (by omega))) ml_X3_33 ⟨by decide, by decide⟩ ⟨Nat.le_of_ble_eq_true rfl, Nat.le_of_ble_eq_true rfl⟩ hl (Nat.le_of_ble_eq_true rfl) rfl dX3_again_16 ?_
  refine lv_aload_n C.1 C.2.1 dX3_again_19 rfl (lv_at hl 1 rfl) ?_
  refine lv_iload_n C.1 C.2.1 dX3_again_20 rfl (lv_at hl 4 rfl) ?_
  refine lv_lload C.1 C.2.1 dX3_again_21 (lv_at hl 0 rfl) ?_
  refine zo_callD C B (r := some (.int (iZ (aR (c) (z).toNat (some ((c) (f).toNat)))))) (c_X3_fill l D cJ o a (c) (((ac))) (((re))) (((kn))) (z) ((c) (f).toNat) (by first | assumption | omega | rfl | exact decide_eq_false (by omega) | exact decide_eq_true (by assumption) | exact decide_eq_true (by omega) | exact one_shl33 (by omega) | exact pm_lt _ _ | exact rm_lt (by first | assumption | exact pm_lt _ _) | exact Nat.lt_of_le_of_lt (Nat.shiftRight_le _ _) (by assumption) | exact Nat.lt_of_le_of_lt Nat.and_le_right (by omega)) (by first | assumption | omega | rfl | exact decide_eq_false (by omega) | exact decide_eq_true (by assumption) | exact decide_eq_true (by omega) | exact one_shl33 (by omega) | exact pm_lt _ _ | exact rm_lt (by first | assumption | exact pm_lt _ _) | exact Nat.lt_of_le_of_lt (Nat.shiftRight_le _ _) (by assumption) | exact Nat.lt_of_le_of_lt Nat.and_le_right (by omega))) ml_X3_29 rfl ⟨Nat.le_of_ble_eq_true rfl, Nat.le_of_ble_eq_true rfl⟩ ⟨Nat.le_of_ble_eq_true rfl, Nat.le_of_ble_eq_true rfl⟩ hl (Nat.le_of_ble_eq_true rfl) rfl dX3_again_23 (fun H locs B => ?_)
  have q23_0 := aR_rng ((c)) (z).toNat (some ((c) (f).toNat))
  have hw : (some (c f.toNat)) = some ((c) (f).toNat) := by rfl
  exact zo_iret C B hr hk (Nat.le_of_ble_eq_true rfl) (Nat.le_of_ble_eq_true rfl) dX3_again_26 (by show some _ = some _; rw [hw] <;> rfl) (by rw [hw] <;> rfl) (by rw [hw] <;> rfl)

set_option maxHeartbeats 4000000 in
set_option maxRecDepth 100000 in
theorem c_X3_degree (l : Launch) (D : va_G) (cJ : ClassId) (o a : Nat) (c : Nat → Nat) (ac : Int32) (re : Int32) (kn : Int32) (z : Int) (hz : 0 ≤ z ∧ z ≤ 5) : zA l yX3_degree 2 63 0 0 D 2 cJ o a [.int (iZ (z))] c [.int (ac), .int (re), .int (kn)] (fun v => v = some (.int (iZ (tp (c z.toNat))))) (c) [.int (ac), .int (re), .int (kn)] := by
  refine zA.intro (lo := 42) (nA := 1) (own := RX3) zi_X3_degree (by decide) rfl rfl (by decide +kernel) rfl (Nat.le_of_ble_eq_true rfl) ?_
  intro p e s m below meth c0 ls C hr hk B hl
  have hl : lv_has ls 2 [(0, .ref o), (1, .int (iZ (z)))] := hl
  refine lv_aload_n C.1 C.2.1 dX3_degree_0 rfl (lv_at hl 0 rfl) ?_
  refine lv_iload_n C.1 C.2.1 dX3_degree_1 rfl (lv_at hl 1 rfl) ?_
  refine zo_callD C B (r := some (.long (lN ((c) (z).toNat)))) (c_X3_polyIn l D cJ o a (c) (ac) (re) (kn) (z) (by first | assumption | omega | rfl | exact decide_eq_false (by omega) | exact decide_eq_true (by assumption) | exact decide_eq_true (by omega) | exact one_shl33 (by omega) | exact pm_lt _ _ | exact rm_lt (by first | assumption | exact pm_lt _ _) | exact Nat.lt_of_le_of_lt (Nat.shiftRight_le _ _) (by assumption) | exact Nat.lt_of_le_of_lt Nat.and_le_right (by omega))) ml_X3_43 rfl ⟨Nat.le_of_ble_eq_true rfl, Nat.le_of_ble_eq_true rfl⟩ ⟨Nat.le_of_ble_eq_true rfl, Nat.le_of_ble_eq_true rfl⟩ hl (Nat.le_of_ble_eq_true rfl) rfl dX3_degree_2 (fun H locs B => ?_)
  have q2_0 := B.1.2.2.2 ((z)).toNat
  refine z_call C (c_X1_topPlace l ((c) (z).toNat) (by first | assumption | omega | rfl | exact decide_eq_false (by omega) | exact decide_eq_true (by assumption) | exact decide_eq_true (by omega) | exact one_shl33 (by omega) | exact pm_lt _ _ | exact rm_lt (by first | assumption | exact pm_lt _ _) | exact Nat.lt_of_le_of_lt (Nat.shiftRight_le _ _) (by assumption) | exact Nat.lt_of_le_of_lt Nat.and_le_right (by omega))) ml_X3_69 ⟨by decide, by decide⟩ ⟨Nat.le_of_ble_eq_true rfl, Nat.le_of_ble_eq_true rfl⟩ hl (Nat.le_of_ble_eq_true rfl) rfl dX3_degree_5 ?_
  have q5_0 := tp_rngE ((c) (z).toNat) (by first | assumption | omega)
  exact zo_iret C B hr hk (Nat.le_of_ble_eq_true rfl) (Nat.le_of_ble_eq_true rfl) dX3_degree_8 (by exact congrArg (fun z : Int => some (Value.int (iZ z))) (by rfl)) (by rfl) (by rfl)

set_option maxHeartbeats 4000000 in
set_option maxRecDepth 100000 in
theorem c_X3_low (l : Launch) (D : va_G) (cJ : ClassId) (o a : Nat) (c : Nat → Nat) (ac : Int32) (re : Int32) (kn : Int32) (z : Int) (hz : 0 ≤ z ∧ z ≤ 5) : zA l yX3_low 2 65 0 0 D 2 cJ o a [.int (iZ (z))] c [.int (ac), .int (re), .int (kn)] (fun v => v = some (.int (iZ (bp (c z.toNat))))) (c) [.int (ac), .int (re), .int (kn)] := by
  refine zA.intro (lo := 44) (nA := 1) (own := RX3) zi_X3_low (by decide) rfl rfl (by decide +kernel) rfl (Nat.le_of_ble_eq_true rfl) ?_
  intro p e s m below meth c0 ls C hr hk B hl
  have hl : lv_has ls 2 [(0, .ref o), (1, .int (iZ (z)))] := hl
  refine lv_aload_n C.1 C.2.1 dX3_low_0 rfl (lv_at hl 0 rfl) ?_
  refine lv_iload_n C.1 C.2.1 dX3_low_1 rfl (lv_at hl 1 rfl) ?_
  refine zo_callD C B (r := some (.long (lN ((c) (z).toNat)))) (c_X3_polyIn l D cJ o a (c) (ac) (re) (kn) (z) (by first | assumption | omega | rfl | exact decide_eq_false (by omega) | exact decide_eq_true (by assumption) | exact decide_eq_true (by omega) | exact one_shl33 (by omega) | exact pm_lt _ _ | exact rm_lt (by first | assumption | exact pm_lt _ _) | exact Nat.lt_of_le_of_lt (Nat.shiftRight_le _ _) (by assumption) | exact Nat.lt_of_le_of_lt Nat.and_le_right (by omega))) ml_X3_43 rfl ⟨Nat.le_of_ble_eq_true rfl, Nat.le_of_ble_eq_true rfl⟩ ⟨Nat.le_of_ble_eq_true rfl, Nat.le_of_ble_eq_true rfl⟩ hl (Nat.le_of_ble_eq_true rfl) rfl dX3_low_2 (fun H locs B => ?_)
  have q2_0 := B.1.2.2.2 ((z)).toNat
  refine z_call C (c_X1_bottomPlace l ((c) (z).toNat) (by first | assumption | omega | rfl | exact decide_eq_false (by omega) | exact decide_eq_true (by assumption) | exact decide_eq_true (by omega) | exact one_shl33 (by omega) | exact pm_lt _ _ | exact rm_lt (by first | assumption | exact pm_lt _ _) | exact Nat.lt_of_le_of_lt (Nat.shiftRight_le _ _) (by assumption) | exact Nat.lt_of_le_of_lt Nat.and_le_right (by omega))) ml_X3_122 ⟨by decide, by decide⟩ ⟨Nat.le_of_ble_eq_true rfl, Nat.le_of_ble_eq_true rfl⟩ hl (Nat.le_of_ble_eq_true rfl) rfl dX3_low_5 ?_
  have q5_0 := bp_rng ((c) (z).toNat)
  exact zo_iret C B hr hk (Nat.le_of_ble_eq_true rfl) (Nat.le_of_ble_eq_true rfl) dX3_low_8 (by exact congrArg (fun z : Int => some (Value.int (iZ z))) (by rfl)) (by rfl) (by rfl)

set_option maxHeartbeats 4000000 in
set_option maxRecDepth 100000 in
theorem c_X3_weight (l : Launch) (D : va_G) (cJ : ClassId) (o a : Nat) (c : Nat → Nat) (ac : Int32) (re : Int32) (kn : Int32) (z : Int) (hz : 0 ≤ z ∧ z ≤ 5) : zA l yX3_weight 2 63 0 0 D 2 cJ o a [.int (iZ (z))] c [.int (ac), .int (re), .int (kn)] (fun v => v = some (.int (iZ (bc (c z.toNat))))) (c) [.int (ac), .int (re), .int (kn)] := by
  refine zA.intro (lo := 42) (nA := 1) (own := RX3) zi_X3_weight (by decide) rfl rfl (by decide +kernel) rfl (Nat.le_of_ble_eq_true rfl) ?_
  intro p e s m below meth c0 ls C hr hk B hl
  have hl : lv_has ls 2 [(0, .ref o), (1, .int (iZ (z)))] := hl
  refine lv_aload_n C.1 C.2.1 dX3_weight_0 rfl (lv_at hl 0 rfl) ?_
  refine lv_iload_n C.1 C.2.1 dX3_weight_1 rfl (lv_at hl 1 rfl) ?_
  refine zo_callD C B (r := some (.long (lN ((c) (z).toNat)))) (c_X3_polyIn l D cJ o a (c) (ac) (re) (kn) (z) (by first | assumption | omega | rfl | exact decide_eq_false (by omega) | exact decide_eq_true (by assumption) | exact decide_eq_true (by omega) | exact one_shl33 (by omega) | exact pm_lt _ _ | exact rm_lt (by first | assumption | exact pm_lt _ _) | exact Nat.lt_of_le_of_lt (Nat.shiftRight_le _ _) (by assumption) | exact Nat.lt_of_le_of_lt Nat.and_le_right (by omega))) ml_X3_43 rfl ⟨Nat.le_of_ble_eq_true rfl, Nat.le_of_ble_eq_true rfl⟩ ⟨Nat.le_of_ble_eq_true rfl, Nat.le_of_ble_eq_true rfl⟩ hl (Nat.le_of_ble_eq_true rfl) rfl dX3_weight_2 (fun H locs B => ?_)
  have q2_0 := B.1.2.2.2 ((z)).toNat
  refine z_call C (c_J13_bitCount_95d88 l ((c) (z).toNat) (by first | assumption | omega | rfl | exact decide_eq_false (by omega) | exact decide_eq_true (by assumption) | exact decide_eq_true (by omega) | exact one_shl33 (by omega) | exact pm_lt _ _ | exact rm_lt (by first | assumption | exact pm_lt _ _) | exact Nat.lt_of_le_of_lt (Nat.shiftRight_le _ _) (by assumption) | exact Nat.lt_of_le_of_lt Nat.and_le_right (by omega))) ml_X3_125 ⟨by decide, by decide⟩ ⟨Nat.le_of_ble_eq_true rfl, Nat.le_of_ble_eq_true rfl⟩ hl (Nat.le_of_ble_eq_true rfl) rfl dX3_weight_5 ?_
  have q5_0 := bc_rngE ((c) (z).toNat)
  exact zo_iret C B hr hk (Nat.le_of_ble_eq_true rfl) (Nat.le_of_ble_eq_true rfl) dX3_weight_8 (by exact congrArg (fun z : Int => some (Value.int (iZ z))) (by rfl)) (by rfl) (by rfl)

set_option maxHeartbeats 4000000 in
set_option maxRecDepth 100000 in
theorem c_X3_at (l : Launch) (D : va_G) (cJ : ClassId) (o a : Nat) (c : Nat → Nat) (ac : Int32) (re : Int32) (kn : Int32) (z : Int) (g : Int) (hz : 0 ≤ z ∧ z ≤ 5) (hg : 0 ≤ g ∧ g ≤ 99) : zA l yX3_at 2 66 0 0 D 2 cJ o a [.int (iZ (z)), .int (iZ (g))] c [.int (ac), .int (re), .int (kn)] (fun v => v = some (.int (iZ (zB (tb (c z.toNat) g))))) (c) [.int (ac), .int (re), .int (kn)] := by
  refine zA.intro (lo := 42) (nA := 2) (own := RX3) zi_X3_at (by decide) rfl rfl (by decide +kernel) rfl (Nat.le_of_ble_eq_true rfl) ?_
  intro p e s m below meth c0 ls C hr hk B hl
  have hl : lv_has ls 5 [(0, .ref o), (1, .int (iZ (z))), (2, .int (iZ (g)))] := hl
  refine lv_aload_n C.1 C.2.1 dX3_at_0 rfl (lv_at hl 0 rfl) ?_
  refine lv_iload_n C.1 C.2.1 dX3_at_1 rfl (lv_at hl 1 rfl) ?_
  refine zo_callD C B (r := some (.long (lN ((c) (z).toNat)))) (c_X3_polyIn l D cJ o a (c) (ac) (re) (kn) (z) (by first | assumption | omega | rfl | exact decide_eq_false (by omega) | exact decide_eq_true (by assumption) | exact decide_eq_true (by omega) | exact one_shl33 (by omega) | exact pm_lt _ _ | exact rm_lt (by first | assumption | exact pm_lt _ _) | exact Nat.lt_of_le_of_lt (Nat.shiftRight_le _ _) (by assumption) | exact Nat.lt_of_le_of_lt Nat.and_le_right (by omega))) ml_X3_43 rfl ⟨Nat.le_of_ble_eq_true rfl, Nat.le_of_ble_eq_true rfl⟩ ⟨Nat.le_of_ble_eq_true rfl, Nat.le_of_ble_eq_true rfl⟩ hl (Nat.le_of_ble_eq_true rfl) rfl dX3_at_2 (fun H locs B => ?_)
  have q2_0 := B.1.2.2.2 ((z)).toNat
  refine lv_lstore_n (lv' := [(3, .long (lN ((c) (z).toNat))), (0, .ref o), (1, .int (iZ (z))), (2, .int (iZ (g)))]) C.1 C.2.1 dX3_at_5 rfl hl (by decide) rfl (fun ls hl => ?_)
  refine lv_iload_n C.1 C.2.1 dX3_at_6 rfl (lv_at hl 3 rfl) ?_
  refine z_iconst C dX3_at_7 ?_
  refine z_bipush C dX3_at_8 (by decide) ?_
  refine z_callv C (c_X3_checkRange l (g) (0 : Int) (99 : Int) (by first | assumption | omega | rfl | exact decide_eq_false (by omega) | exact decide_eq_true (by assumption) | exact decide_eq_true (by omega) | exact one_shl33 (by omega) | exact pm_lt _ _ | exact rm_lt (by first | assumption | exact pm_lt _ _) | exact Nat.lt_of_le_of_lt (Nat.shiftRight_le _ _) (by assumption) | exact Nat.lt_of_le_of_lt Nat.and_le_right (by omega))) ml_X3_33 ⟨by decide, by decide⟩ ⟨Nat.le_of_ble_eq_true rfl, Nat.le_of_ble_eq_true rfl⟩ hl (Nat.le_of_ble_eq_true rfl) rfl dX3_at_10 ?_
  refine lv_lload_n C.1 C.2.1 dX3_at_13 rfl (lv_at hl 0 rfl) ?_
  refine lv_iload_n C.1 C.2.1 dX3_at_14 rfl (lv_at hl 3 rfl) ?_
  refine z_call C (c_X1_hasOne l ((c) (z).toNat) (g) (by first | assumption | omega | rfl | exact decide_eq_false (by omega) | exact decide_eq_true (by assumption) | exact decide_eq_true (by omega) | exact one_shl33 (by omega) | exact pm_lt _ _ | exact rm_lt (by first | assumption | exact pm_lt _ _) | exact Nat.lt_of_le_of_lt (Nat.shiftRight_le _ _) (by assumption) | exact Nat.lt_of_le_of_lt Nat.and_le_right (by omega)) (by first | assumption | omega | rfl | exact decide_eq_false (by omega) | exact decide_eq_true (by assumption) | exact decide_eq_true (by omega) | exact one_shl33 (by omega) | exact pm_lt _ _ | exact rm_lt (by first | assumption | exact pm_lt _ _) | exact Nat.lt_of_le_of_lt (Nat.shiftRight_le _ _) (by assumption) | exact Nat.lt_of_le_of_lt Nat.and_le_right (by omega))) ml_X3_48 ⟨by decide, by decide⟩ ⟨Nat.le_of_ble_eq_true rfl, Nat.le_of_ble_eq_true rfl⟩ hl (Nat.le_of_ble_eq_true rfl) rfl dX3_at_15 ?_
  exact zo_zret C B hr hk (Nat.le_of_ble_eq_true rfl) (Nat.le_of_ble_eq_true rfl) dX3_at_18 (z_nB _) (by exact congrArg (fun z : Int => some (Value.int (iZ z))) (by rfl)) (by rfl) (by rfl)

set_option maxHeartbeats 4000000 in
set_option maxRecDepth 100000 in
theorem c_X3_digits (l : Launch) (D : va_G) (cJ : ClassId) (o a : Nat) (c : Nat → Nat) (ac : Int32) (re : Int32) (kn : Int32) (z : Int) (hz : 0 ≤ z ∧ z ≤ 5) : zA l yX3_digits 2 63 0 0 D 2 cJ o a [.int (iZ (z))] c [.int (ac), .int (re), .int (kn)] (fun v => v = some (.int (iZ (((c z.toNat : Nat) : Int))))) (c) [.int (ac), .int (re), .int (kn)] := by
  refine zA.intro (lo := 42) (nA := 1) (own := RX3) zi_X3_digits (by decide) rfl rfl (by decide +kernel) rfl (Nat.le_of_ble_eq_true rfl) ?_
  intro p e s m below meth c0 ls C hr hk B hl
  have hl : lv_has ls 2 [(0, .ref o), (1, .int (iZ (z)))] := hl
  refine lv_aload_n C.1 C.2.1 dX3_digits_0 rfl (lv_at hl 0 rfl) ?_
  refine lv_iload_n C.1 C.2.1 dX3_digits_1 rfl (lv_at hl 1 rfl) ?_
  refine zo_callD C B (r := some (.long (lN ((c) (z).toNat)))) (c_X3_polyIn l D cJ o a (c) (ac) (re) (kn) (z) (by first | assumption | omega | rfl | exact decide_eq_false (by omega) | exact decide_eq_true (by assumption) | exact decide_eq_true (by omega) | exact one_shl33 (by omega) | exact pm_lt _ _ | exact rm_lt (by first | assumption | exact pm_lt _ _) | exact Nat.lt_of_le_of_lt (Nat.shiftRight_le _ _) (by assumption) | exact Nat.lt_of_le_of_lt Nat.and_le_right (by omega))) ml_X3_43 rfl ⟨Nat.le_of_ble_eq_true rfl, Nat.le_of_ble_eq_true rfl⟩ ⟨Nat.le_of_ble_eq_true rfl, Nat.le_of_ble_eq_true rfl⟩ hl (Nat.le_of_ble_eq_true rfl) rfl dX3_digits_2 (fun H locs B => ?_)
  have q2_0 := B.1.2.2.2 ((z)).toNat
  refine z_l2i C dX3_digits_5 ?_
  exact zo_iret C B hr hk (Nat.le_of_ble_eq_true rfl) (Nat.le_of_ble_eq_true rfl) dX3_digits_6 (by exact congrArg (fun z : Int => some (Value.int (iZ z))) (by rfl)) (by rfl) (by rfl)

set_option maxHeartbeats 4000000 in
set_option maxRecDepth 100000 in
theorem c_X3_order (l : Launch) (D : va_G) (cJ : ClassId) (o a : Nat) (c : Nat → Nat) (ac : Int32) (re : Int32) (kn : Int32) (f : Int) (z : Int) (hf : 0 ≤ f ∧ f ≤ 5) (hz : 0 ≤ z ∧ z ≤ 5) : zA l yX3_order 2 68 0 0 D 2 cJ o a [.int (iZ (f)), .int (iZ (z))] c [.int (ac), .int (re), .int (kn)] (fun v => v = some (.int (iZ (od (c f.toNat) (c z.toNat))))) (c) [.int (ac), .int (re), .int (kn)] := by
  refine zA.intro (lo := 42) (nA := 2) (own := RX3) zi_X3_order (by decide) rfl rfl (by decide +kernel) rfl (Nat.le_of_ble_eq_true rfl) ?_
  intro p e s m below meth c0 ls C hr hk B hl
  have hl : lv_has ls 7 [(0, .ref o), (1, .int (iZ (f))), (2, .int (iZ (z)))] := hl
  refine lv_aload_n C.1 C.2.1 dX3_order_0 rfl (lv_at hl 0 rfl) ?_
  refine lv_iload_n C.1 C.2.1 dX3_order_1 rfl (lv_at hl 1 rfl) ?_
  refine zo_callD C B (r := some (.long (lN ((c) (f).toNat)))) (c_X3_polyIn l D cJ o a (c) (ac) (re) (kn) (f) (by first | assumption | omega | rfl | exact decide_eq_false (by omega) | exact decide_eq_true (by assumption) | exact decide_eq_true (by omega) | exact one_shl33 (by omega) | exact pm_lt _ _ | exact rm_lt (by first | assumption | exact pm_lt _ _) | exact Nat.lt_of_le_of_lt (Nat.shiftRight_le _ _) (by assumption) | exact Nat.lt_of_le_of_lt Nat.and_le_right (by omega))) ml_X3_43 rfl ⟨Nat.le_of_ble_eq_true rfl, Nat.le_of_ble_eq_true rfl⟩ ⟨Nat.le_of_ble_eq_true rfl, Nat.le_of_ble_eq_true rfl⟩ hl (Nat.le_of_ble_eq_true rfl) rfl dX3_order_2 (fun H locs B => ?_)
  have q2_0 := B.1.2.2.2 ((f)).toNat
  refine lv_lstore_n (lv' := [(3, .long (lN ((c) (f).toNat))), (0, .ref o), (1, .int (iZ (f))), (2, .int (iZ (z)))]) C.1 C.2.1 dX3_order_5 rfl hl (by decide) rfl (fun ls hl => ?_)
  refine lv_aload_n C.1 C.2.1 dX3_order_6 rfl (lv_at hl 1 rfl) ?_
  refine lv_iload_n C.1 C.2.1 dX3_order_7 rfl (lv_at hl 3 rfl) ?_
  refine zo_callD C B (r := some (.long (lN ((c) (z).toNat)))) (c_X3_polyIn l D cJ o a (c) ((ac)) ((re)) ((kn)) (z) (by first | assumption | omega | rfl | exact decide_eq_false (by omega) | exact decide_eq_true (by assumption) | exact decide_eq_true (by omega) | exact one_shl33 (by omega) | exact pm_lt _ _ | exact rm_lt (by first | assumption | exact pm_lt _ _) | exact Nat.lt_of_le_of_lt (Nat.shiftRight_le _ _) (by assumption) | exact Nat.lt_of_le_of_lt Nat.and_le_right (by omega))) ml_X3_43 rfl ⟨Nat.le_of_ble_eq_true rfl, Nat.le_of_ble_eq_true rfl⟩ ⟨Nat.le_of_ble_eq_true rfl, Nat.le_of_ble_eq_true rfl⟩ hl (Nat.le_of_ble_eq_true rfl) rfl dX3_order_8 (fun H locs B => ?_)
  have q8_0 := B.1.2.2.2 ((z)).toNat
  refine lv_lstore (lv' := [(5, .long (lN ((c) (z).toNat))), (3, .long (lN ((c) (f).toNat))), (0, .ref o), (1, .int (iZ (f))), (2, .int (iZ (z)))]) C.1 C.2.1 dX3_order_11 hl (by decide) rfl (fun ls hl => ?_)
  refine lv_lload_n C.1 C.2.1 dX3_order_13 rfl (lv_at hl 1 rfl) ?_
  refine lv_lload C.1 C.2.1 dX3_order_14 (lv_at hl 0 rfl) ?_
  refine z_lc_ge (tgt := 24) C (by first | assumption | omega | rfl | exact decide_eq_false (by omega) | exact decide_eq_true (by assumption) | exact decide_eq_true (by omega) | exact one_shl33 (by omega) | exact pm_lt _ _ | exact rm_lt (by first | assumption | exact pm_lt _ _) | exact Nat.lt_of_le_of_lt (Nat.shiftRight_le _ _) (by assumption) | exact Nat.lt_of_le_of_lt Nat.and_le_right (by omega)) (by first | assumption | omega | rfl | exact decide_eq_false (by omega) | exact decide_eq_true (by assumption) | exact decide_eq_true (by omega) | exact one_shl33 (by omega) | exact pm_lt _ _ | exact rm_lt (by first | assumption | exact pm_lt _ _) | exact Nat.lt_of_le_of_lt (Nat.shiftRight_le _ _) (by assumption) | exact Nat.lt_of_le_of_lt Nat.and_le_right (by omega)) dX3_order_16 dX3_order_17 (by decide) (fun h16 => ?_) (fun h16 => ?_)
  · refine lv_lload_n C.1 C.2.1 dX3_order_24 rfl (lv_at hl 1 rfl) ?_
    refine lv_lload C.1 C.2.1 dX3_order_25 (lv_at hl 0 rfl) ?_
    refine z_lc_le (tgt := 35) C (by first | assumption | omega | rfl | exact decide_eq_false (by omega) | exact decide_eq_true (by assumption) | exact decide_eq_true (by omega) | exact one_shl33 (by omega) | exact pm_lt _ _ | exact rm_lt (by first | assumption | exact pm_lt _ _) | exact Nat.lt_of_le_of_lt (Nat.shiftRight_le _ _) (by assumption) | exact Nat.lt_of_le_of_lt Nat.and_le_right (by omega)) (by first | assumption | omega | rfl | exact decide_eq_false (by omega) | exact decide_eq_true (by assumption) | exact decide_eq_true (by omega) | exact one_shl33 (by omega) | exact pm_lt _ _ | exact rm_lt (by first | assumption | exact pm_lt _ _) | exact Nat.lt_of_le_of_lt (Nat.shiftRight_le _ _) (by assumption) | exact Nat.lt_of_le_of_lt Nat.and_le_right (by omega)) dX3_order_27 dX3_order_28 (by decide) (fun h27 => ?_) (fun h27 => ?_)
    · refine z_iconst C dX3_order_35 ?_
      exact zo_iret C B hr hk (Nat.le_of_ble_eq_true rfl) (Nat.le_of_ble_eq_true rfl) dX3_order_36 (by exact congrArg (fun z : Int => some (Value.int (iZ z))) (by rw [od, if_neg (by omega), if_neg (by omega)])) (by rfl) (by rfl)
    · refine z_iconst C dX3_order_31 ?_
      refine lv_goto (tgt := 36) C.1 C.2.1 dX3_order_32 (by decide) ?_
      exact zo_iret C B hr hk (Nat.le_of_ble_eq_true rfl) (Nat.le_of_ble_eq_true rfl) dX3_order_36 (by exact congrArg (fun z : Int => some (Value.int (iZ z))) (by rw [od, if_neg (by omega), if_pos (by omega)])) (by rfl) (by rfl)
  · refine z_iconst C dX3_order_20 ?_
    refine lv_goto (tgt := 36) C.1 C.2.1 dX3_order_21 (by decide) ?_
    exact zo_iret C B hr hk (Nat.le_of_ble_eq_true rfl) (Nat.le_of_ble_eq_true rfl) dX3_order_36 (by exact congrArg (fun z : Int => some (Value.int (iZ z))) (by rw [od, if_pos (by omega)])) (by rfl) (by rfl)

set_option maxHeartbeats 4000000 in
set_option maxRecDepth 100000 in
theorem c_X3_isSame (l : Launch) (D : va_G) (cJ : ClassId) (o a : Nat) (c : Nat → Nat) (ac : Int32) (re : Int32) (kn : Int32) (f : Int) (z : Int) (hf : 0 ≤ f ∧ f ≤ 5) (hz : 0 ≤ z ∧ z ≤ 5) : zA l yX3_isSame 2 64 0 0 D 2 cJ o a [.int (iZ (f)), .int (iZ (z))] c [.int (ac), .int (re), .int (kn)] (fun v => v = some (.int (iZ (zB (decide (c f.toNat = c z.toNat)))))) (c) [.int (ac), .int (re), .int (kn)] := by
  refine zA.intro (lo := 42) (nA := 2) (own := RX3) zi_X3_isSame (by decide) rfl rfl (by decide +kernel) rfl (Nat.le_of_ble_eq_true rfl) ?_
  intro p e s m below meth c0 ls C hr hk B hl
  have hl : lv_has ls 3 [(0, .ref o), (1, .int (iZ (f))), (2, .int (iZ (z)))] := hl
  refine lv_aload_n C.1 C.2.1 dX3_isSame_0 rfl (lv_at hl 0 rfl) ?_
  refine lv_iload_n C.1 C.2.1 dX3_isSame_1 rfl (lv_at hl 1 rfl) ?_
  refine zo_callD C B (r := some (.long (lN ((c) (f).toNat)))) (c_X3_polyIn l D cJ o a (c) (ac) (re) (kn) (f) (by first | assumption | omega | rfl | exact decide_eq_false (by omega) | exact decide_eq_true (by assumption) | exact decide_eq_true (by omega) | exact one_shl33 (by omega) | exact pm_lt _ _ | exact rm_lt (by first | assumption | exact pm_lt _ _) | exact Nat.lt_of_le_of_lt (Nat.shiftRight_le _ _) (by assumption) | exact Nat.lt_of_le_of_lt Nat.and_le_right (by omega))) ml_X3_43 rfl ⟨Nat.le_of_ble_eq_true rfl, Nat.le_of_ble_eq_true rfl⟩ ⟨Nat.le_of_ble_eq_true rfl, Nat.le_of_ble_eq_true rfl⟩ hl (Nat.le_of_ble_eq_true rfl) rfl dX3_isSame_2 (fun H locs B => ?_)
  have q2_0 := B.1.2.2.2 ((f)).toNat
  refine lv_aload_n C.1 C.2.1 dX3_isSame_5 rfl (lv_at hl 0 rfl) ?_
  refine lv_iload_n C.1 C.2.1 dX3_isSame_6 rfl (lv_at hl 2 rfl) ?_
  refine zo_callD C B (r := some (.long (lN ((c) (z).toNat)))) (c_X3_polyIn l D cJ o a (c) ((ac)) ((re)) ((kn)) (z) (by first | assumption | omega | rfl | exact decide_eq_false (by omega) | exact decide_eq_true (by assumption) | exact decide_eq_true (by omega) | exact one_shl33 (by omega) | exact pm_lt _ _ | exact rm_lt (by first | assumption | exact pm_lt _ _) | exact Nat.lt_of_le_of_lt (Nat.shiftRight_le _ _) (by assumption) | exact Nat.lt_of_le_of_lt Nat.and_le_right (by omega))) ml_X3_43 rfl ⟨Nat.le_of_ble_eq_true rfl, Nat.le_of_ble_eq_true rfl⟩ ⟨Nat.le_of_ble_eq_true rfl, Nat.le_of_ble_eq_true rfl⟩ hl (Nat.le_of_ble_eq_true rfl) rfl dX3_isSame_7 (fun H locs B => ?_)
  have q7_0 := B.1.2.2.2 ((z)).toNat
  refine z_lc_ne (tgt := 18) C (by first | assumption | omega | rfl | exact decide_eq_false (by omega) | exact decide_eq_true (by assumption) | exact decide_eq_true (by omega) | exact one_shl33 (by omega) | exact pm_lt _ _ | exact rm_lt (by first | assumption | exact pm_lt _ _) | exact Nat.lt_of_le_of_lt (Nat.shiftRight_le _ _) (by assumption) | exact Nat.lt_of_le_of_lt Nat.and_le_right (by omega)) (by first | assumption | omega | rfl | exact decide_eq_false (by omega) | exact decide_eq_true (by assumption) | exact decide_eq_true (by omega) | exact one_shl33 (by omega) | exact pm_lt _ _ | exact rm_lt (by first | assumption | exact pm_lt _ _) | exact Nat.lt_of_le_of_lt (Nat.shiftRight_le _ _) (by assumption) | exact Nat.lt_of_le_of_lt Nat.and_le_right (by omega)) dX3_isSame_10 dX3_isSame_11 (by decide) (fun h10 => ?_) (fun h10 => ?_)
  · refine z_iconst C dX3_isSame_18 ?_
    exact zo_zret C B hr hk (Nat.le_of_ble_eq_true rfl) (Nat.le_of_ble_eq_true rfl) dX3_isSame_19 (by decide) (by exact congrArg (fun z : Int => some (Value.int (iZ z))) (by exact zB_f (decide_eq_false h10))) (by rfl) (by rfl)
  · refine z_iconst C dX3_isSame_14 ?_
    refine lv_goto (tgt := 19) C.1 C.2.1 dX3_isSame_15 (by decide) ?_
    exact zo_zret C B hr hk (Nat.le_of_ble_eq_true rfl) (Nat.le_of_ble_eq_true rfl) dX3_isSame_19 (by decide) (by exact congrArg (fun z : Int => some (Value.int (iZ z))) (by exact zB_t (decide_eq_true h10))) (by rfl) (by rfl)

set_option maxHeartbeats 4000000 in
set_option maxRecDepth 100000 in
theorem c_X3_value (l : Launch) (D : va_G) (cJ : ClassId) (o a : Nat) (c : Nat → Nat) (ac : Int32) (re : Int32) (kn : Int32) (z : Int) (b : Bool) (hz : 0 ≤ z ∧ z ≤ 5) : zA l yX3_value 2 66 0 0 D 2 cJ o a [.int (iZ (z)), .int (iZ (zB (b)))] c [.int (ac), .int (re), .int (kn)] (fun v => v = some (.int (iZ (if b = true then bc (c z.toNat) % 2 else ((c z.toNat &&& 1 : Nat) : Int))))) (c) [.int (ac), .int (re), .int (kn)] := by
  refine zA.intro (lo := 42) (nA := 2) (own := RX3) zi_X3_value (by decide) rfl rfl (by decide +kernel) rfl (Nat.le_of_ble_eq_true rfl) ?_
  intro p e s m below meth c0 ls C hr hk B hl
  have hl : lv_has ls 5 [(0, .ref o), (1, .int (iZ (z))), (2, .int (iZ (zB (b))))] := hl
  refine lv_aload_n C.1 C.2.1 dX3_value_0 rfl (lv_at hl 0 rfl) ?_
  refine lv_iload_n C.1 C.2.1 dX3_value_1 rfl (lv_at hl 1 rfl) ?_
  refine zo_callD C B (r := some (.long (lN ((c) (z).toNat)))) (c_X3_polyIn l D cJ o a (c) (ac) (re) (kn) (z) (by first | assumption | omega | rfl | exact decide_eq_false (by omega) | exact decide_eq_true (by assumption) | exact decide_eq_true (by omega) | exact one_shl33 (by omega) | exact pm_lt _ _ | exact rm_lt (by first | assumption | exact pm_lt _ _) | exact Nat.lt_of_le_of_lt (Nat.shiftRight_le _ _) (by assumption) | exact Nat.lt_of_le_of_lt Nat.and_le_right (by omega))) ml_X3_43 rfl ⟨Nat.le_of_ble_eq_true rfl, Nat.le_of_ble_eq_true rfl⟩ ⟨Nat.le_of_ble_eq_true rfl, Nat.le_of_ble_eq_true rfl⟩ hl (Nat.le_of_ble_eq_true rfl) rfl dX3_value_2 (fun H locs B => ?_)
  have q2_0 := B.1.2.2.2 ((z)).toNat
  refine lv_lstore_n (lv' := [(3, .long (lN ((c) (z).toNat))), (0, .ref o), (1, .int (iZ (z))), (2, .int (iZ (zB (b))))]) C.1 C.2.1 dX3_value_5 rfl hl (by decide) rfl (fun ls hl => ?_)
  refine lv_iload_n C.1 C.2.1 dX3_value_6 rfl (lv_at hl 3 rfl) ?_
  refine z_ifB_eq (tgt := 19) C dX3_value_7 (by decide) (fun h7 => ?_) (fun h7 => ?_)
  · refine lv_lload_n C.1 C.2.1 dX3_value_19 rfl (lv_at hl 0 rfl) ?_
    refine z_lconst (k0 := 1) C dX3_value_20 rfl ?_
    refine z_land C dX3_value_21 ?_
    refine z_l2i C dX3_value_22 ?_
    exact zo_iret C B hr hk (Nat.le_of_ble_eq_true rfl) (Nat.le_of_ble_eq_true rfl) dX3_value_23 (by exact congrArg (fun z : Int => some (Value.int (iZ z))) (by rw [if_neg (by rw [h7]; decide)])) (by rfl) (by rfl)
  · refine lv_lload_n C.1 C.2.1 dX3_value_10 rfl (lv_at hl 0 rfl) ?_
    refine z_call C (c_J13_bitCount_95d88 l ((c) (z).toNat) (by first | assumption | omega | rfl | exact decide_eq_false (by omega) | exact decide_eq_true (by assumption) | exact decide_eq_true (by omega) | exact one_shl33 (by omega) | exact pm_lt _ _ | exact rm_lt (by first | assumption | exact pm_lt _ _) | exact Nat.lt_of_le_of_lt (Nat.shiftRight_le _ _) (by assumption) | exact Nat.lt_of_le_of_lt Nat.and_le_right (by omega))) ml_X3_125 ⟨by decide, by decide⟩ ⟨Nat.le_of_ble_eq_true rfl, Nat.le_of_ble_eq_true rfl⟩ hl (Nat.le_of_ble_eq_true rfl) rfl dX3_value_11 ?_
    have q11_0 := bc_rngE ((c) (z).toNat)
    refine z_iconst C dX3_value_14 ?_
    refine z_iand1 C ((bc ((c) (z).toNat)).toNat) (by omega) (by omega) dX3_value_15 ?_
    refine lv_goto (tgt := 23) C.1 C.2.1 dX3_value_16 (by decide) ?_
    exact zo_iret C B hr hk (Nat.le_of_ble_eq_true rfl) (Nat.le_of_ble_eq_true rfl) dX3_value_23 (by exact congrArg (fun z : Int => some (Value.int (iZ z))) (by rw [if_pos h7]; omega)) (by rfl) (by rfl)

set_option maxHeartbeats 4000000 in
set_option maxRecDepth 100000 in
theorem c_X3_divides (l : Launch) (D : va_G) (cJ : ClassId) (o a : Nat) (c : Nat → Nat) (ac : Int32) (re : Int32) (kn : Int32) (f : Int) (z : Int) (hf : 0 ≤ f ∧ f ≤ 5) (hz : 0 ≤ z ∧ z ≤ 5) : zA l yX3_divides 4 120 0 0 D 2 cJ o a [.int (iZ (f)), .int (iZ (z))] c [.int (ac), .int (re), .int (kn)] (fun v => v = some (.int (iZ (zB (decide (rm (c z.toNat) (c f.toNat) = 0)))))) (c) [.int (ac), .int (re), .int (kn)] := by
  refine zA.intro (lo := 98) (nA := 2) (own := RX3) zi_X3_divides (by decide) rfl rfl (by decide +kernel) rfl (Nat.le_of_ble_eq_true rfl) ?_
  intro p e s m below meth c0 ls C hr hk B hl
  have hl : lv_has ls 3 [(0, .ref o), (1, .int (iZ (f))), (2, .int (iZ (z)))] := hl
  refine lv_aload_n C.1 C.2.1 dX3_divides_0 rfl (lv_at hl 0 rfl) ?_
  refine lv_iload_n C.1 C.2.1 dX3_divides_1 rfl (lv_at hl 1 rfl) ?_
  refine zo_callD C B (r := some (.long (lN ((c) (f).toNat)))) (c_X3_polyIn l D cJ o a (c) (ac) (re) (kn) (f) (by first | assumption | omega | rfl | exact decide_eq_false (by omega) | exact decide_eq_true (by assumption) | exact decide_eq_true (by omega) | exact one_shl33 (by omega) | exact pm_lt _ _ | exact rm_lt (by first | assumption | exact pm_lt _ _) | exact Nat.lt_of_le_of_lt (Nat.shiftRight_le _ _) (by assumption) | exact Nat.lt_of_le_of_lt Nat.and_le_right (by omega))) ml_X3_43 rfl ⟨Nat.le_of_ble_eq_true rfl, Nat.le_of_ble_eq_true rfl⟩ ⟨Nat.le_of_ble_eq_true rfl, Nat.le_of_ble_eq_true rfl⟩ hl (Nat.le_of_ble_eq_true rfl) rfl dX3_divides_2 (fun H locs B => ?_)
  have q2_0 := B.1.2.2.2 ((f)).toNat
  refine lv_aload_n C.1 C.2.1 dX3_divides_5 rfl (lv_at hl 0 rfl) ?_
  refine lv_iload_n C.1 C.2.1 dX3_divides_6 rfl (lv_at hl 2 rfl) ?_
  refine zo_callD C B (r := some (.long (lN ((c) (z).toNat)))) (c_X3_polyIn l D cJ o a (c) ((ac)) ((re)) ((kn)) (z) (by first | assumption | omega | rfl | exact decide_eq_false (by omega) | exact decide_eq_true (by assumption) | exact decide_eq_true (by omega) | exact one_shl33 (by omega) | exact pm_lt _ _ | exact rm_lt (by first | assumption | exact pm_lt _ _) | exact Nat.lt_of_le_of_lt (Nat.shiftRight_le _ _) (by assumption) | exact Nat.lt_of_le_of_lt Nat.and_le_right (by omega))) ml_X3_43 rfl ⟨Nat.le_of_ble_eq_true rfl, Nat.le_of_ble_eq_true rfl⟩ ⟨Nat.le_of_ble_eq_true rfl, Nat.le_of_ble_eq_true rfl⟩ hl (Nat.le_of_ble_eq_true rfl) rfl dX3_divides_7 (fun H locs B => ?_)
  have q7_0 := B.1.2.2.2 ((z)).toNat
  refine z_call C (c_X1_isDivisor l ((c) (f).toNat) ((c) (z).toNat) (by first | assumption | omega | rfl | exact decide_eq_false (by omega) | exact decide_eq_true (by assumption) | exact decide_eq_true (by omega) | exact one_shl33 (by omega) | exact pm_lt _ _ | exact rm_lt (by first | assumption | exact pm_lt _ _) | exact Nat.lt_of_le_of_lt (Nat.shiftRight_le _ _) (by assumption) | exact Nat.lt_of_le_of_lt Nat.and_le_right (by omega)) (by first | assumption | omega | rfl | exact decide_eq_false (by omega) | exact decide_eq_true (by assumption) | exact decide_eq_true (by omega) | exact one_shl33 (by omega) | exact pm_lt _ _ | exact rm_lt (by first | assumption | exact pm_lt _ _) | exact Nat.lt_of_le_of_lt (Nat.shiftRight_le _ _) (by assumption) | exact Nat.lt_of_le_of_lt Nat.and_le_right (by omega))) ml_X3_140 ⟨by decide, by decide⟩ ⟨Nat.le_of_ble_eq_true rfl, Nat.le_of_ble_eq_true rfl⟩ hl (Nat.le_of_ble_eq_true rfl) rfl dX3_divides_10 ?_
  exact zo_zret C B hr hk (Nat.le_of_ble_eq_true rfl) (Nat.le_of_ble_eq_true rfl) dX3_divides_13 (z_nB _) (by exact congrArg (fun z : Int => some (Value.int (iZ z))) (by rfl)) (by rfl) (by rfl)

set_option maxHeartbeats 4000000 in
set_option maxRecDepth 100000 in
theorem c_X3_isFree (l : Launch) (D : va_G) (cJ : ClassId) (o a : Nat) (c : Nat → Nat) (ac : Int32) (re : Int32) (kn : Int32) (z : Int) (hz : 0 ≤ z ∧ z ≤ 5) : zA l yX3_isFree 4 140 0 0 D 2 cJ o a [.int (iZ (z))] c [.int (ac), .int (re), .int (kn)] (fun v => v = some (.int (iZ (zB (decide (eu (c z.toNat) (dv (c z.toNat)) (c z.toNat) (dv (c z.toNat)) = 1)))))) (c) [.int (ac), .int (re), .int (kn)] := by
  refine zA.intro (lo := 117) (nA := 1) (own := RX3) zi_X3_isFree (by decide) rfl rfl (by decide +kernel) rfl (Nat.le_of_ble_eq_true rfl) ?_
  intro p e s m below meth c0 ls C hr hk B hl
  have hl : lv_has ls 4 [(0, .ref o), (1, .int (iZ (z)))] := hl
  refine lv_aload_n C.1 C.2.1 dX3_isFree_0 rfl (lv_at hl 0 rfl) ?_
  refine lv_iload_n C.1 C.2.1 dX3_isFree_1 rfl (lv_at hl 1 rfl) ?_
  refine zo_callD C B (r := some (.long (lN ((c) (z).toNat)))) (c_X3_polyIn l D cJ o a (c) (ac) (re) (kn) (z) (by first | assumption | omega | rfl | exact decide_eq_false (by omega) | exact decide_eq_true (by assumption) | exact decide_eq_true (by omega) | exact one_shl33 (by omega) | exact pm_lt _ _ | exact rm_lt (by first | assumption | exact pm_lt _ _) | exact Nat.lt_of_le_of_lt (Nat.shiftRight_le _ _) (by assumption) | exact Nat.lt_of_le_of_lt Nat.and_le_right (by omega))) ml_X3_43 rfl ⟨Nat.le_of_ble_eq_true rfl, Nat.le_of_ble_eq_true rfl⟩ ⟨Nat.le_of_ble_eq_true rfl, Nat.le_of_ble_eq_true rfl⟩ hl (Nat.le_of_ble_eq_true rfl) rfl dX3_isFree_2 (fun H locs B => ?_)
  have q2_0 := B.1.2.2.2 ((z)).toNat
  refine lv_lstore_n (lv' := [(2, .long (lN ((c) (z).toNat))), (0, .ref o), (1, .int (iZ (z)))]) C.1 C.2.1 dX3_isFree_5 rfl hl (by decide) rfl (fun ls hl => ?_)
  refine lv_lload_n C.1 C.2.1 dX3_isFree_6 rfl (lv_at hl 0 rfl) ?_
  refine lv_lload_n C.1 C.2.1 dX3_isFree_7 rfl (lv_at hl 0 rfl) ?_
  refine z_call C (c_X1_derived l ((c) (z).toNat) (by first | assumption | omega | rfl | exact decide_eq_false (by omega) | exact decide_eq_true (by assumption) | exact decide_eq_true (by omega) | exact one_shl33 (by omega) | exact pm_lt _ _ | exact rm_lt (by first | assumption | exact pm_lt _ _) | exact Nat.lt_of_le_of_lt (Nat.shiftRight_le _ _) (by assumption) | exact Nat.lt_of_le_of_lt Nat.and_le_right (by omega))) ml_X3_92 ⟨by decide, by decide⟩ ⟨Nat.le_of_ble_eq_true rfl, Nat.le_of_ble_eq_true rfl⟩ hl (Nat.le_of_ble_eq_true rfl) rfl dX3_isFree_8 ?_
  refine z_call C (c_X1_gcdOf l ((c) (z).toNat) (dv ((c) (z).toNat)) (by omega) (by exact dv_lt _)) ml_X3_83 ⟨by decide, by decide⟩ ⟨Nat.le_of_ble_eq_true rfl, Nat.le_of_ble_eq_true rfl⟩ hl (Nat.le_of_ble_eq_true rfl) rfl dX3_isFree_11 ?_
  have q11_0 := eu_ltE ((c) (z).toNat) (dv ((c) (z).toNat)) ((c) (z).toNat) (dv ((c) (z).toNat)) (by first | assumption | omega | exact dv_lt _) (by first | assumption | omega | exact dv_lt _)
  refine z_lconst (k0 := 1) C dX3_isFree_14 rfl ?_
  refine z_lc_ne (tgt := 23) C (by exact eu_ltE _ _ _ _ (by omega) (dv_lt _)) (by omega) dX3_isFree_15 dX3_isFree_16 (by decide) (fun h15 => ?_) (fun h15 => ?_)
  · refine z_iconst C dX3_isFree_23 ?_
    exact zo_zret C B hr hk (Nat.le_of_ble_eq_true rfl) (Nat.le_of_ble_eq_true rfl) dX3_isFree_24 (by decide) (by exact congrArg (fun z : Int => some (Value.int (iZ z))) (by exact zB_f (decide_eq_false h15))) (by rfl) (by rfl)
  · refine z_iconst C dX3_isFree_19 ?_
    refine lv_goto (tgt := 24) C.1 C.2.1 dX3_isFree_20 (by decide) ?_
    exact zo_zret C B hr hk (Nat.le_of_ble_eq_true rfl) (Nat.le_of_ble_eq_true rfl) dX3_isFree_24 (by decide) (by exact congrArg (fun z : Int => some (Value.int (iZ z))) (by exact zB_t (decide_eq_true h15))) (by rfl) (by rfl)

set_option maxHeartbeats 4000000 in
set_option maxRecDepth 100000 in
theorem c_X3_irreducible (l : Launch) (D : va_G) (cJ : ClassId) (o a : Nat) (c : Nat → Nat) (ac : Int32) (re : Int32) (kn : Int32) (z : Int) (hz : 0 ≤ z ∧ z ≤ 5) : zA l yX3_irreducible 5 147 0 0 D 2 cJ o a [.int (iZ (z))] c [.int (ac), .int (re), .int (kn)] (fun v => v = some (.int (iZ (qR (wI (c z.toNat)))))) (c) [.int (ac), .int (qF re (wI (c z.toNat))), .int (kn)] := by
  refine zA.intro (lo := 124) (nA := 1) (own := RX3) zi_X3_irreducible (by decide) rfl rfl (by decide +kernel) rfl (Nat.le_of_ble_eq_true rfl) ?_
  intro p e s m below meth c0 ls C hr hk B hl
  have hl : lv_has ls 4 [(0, .ref o), (1, .int (iZ (z)))] := hl
  refine lv_aload_n C.1 C.2.1 dX3_irreducible_0 rfl (lv_at hl 0 rfl) ?_
  refine lv_iload_n C.1 C.2.1 dX3_irreducible_1 rfl (lv_at hl 1 rfl) ?_
  refine zo_callD C B (r := some (.long (lN ((c) (z).toNat)))) (c_X3_polyIn l D cJ o a (c) (ac) (re) (kn) (z) (by first | assumption | omega | rfl | exact decide_eq_false (by omega) | exact decide_eq_true (by assumption) | exact decide_eq_true (by omega) | exact one_shl33 (by omega) | exact pm_lt _ _ | exact rm_lt (by first | assumption | exact pm_lt _ _) | exact Nat.lt_of_le_of_lt (Nat.shiftRight_le _ _) (by assumption) | exact Nat.lt_of_le_of_lt Nat.and_le_right (by omega))) ml_X3_43 rfl ⟨Nat.le_of_ble_eq_true rfl, Nat.le_of_ble_eq_true rfl⟩ ⟨Nat.le_of_ble_eq_true rfl, Nat.le_of_ble_eq_true rfl⟩ hl (Nat.le_of_ble_eq_true rfl) rfl dX3_irreducible_2 (fun H locs B => ?_)
  have q2_0 := B.1.2.2.2 ((z)).toNat
  refine lv_lstore_n (lv' := [(2, .long (lN ((c) (z).toNat))), (0, .ref o), (1, .int (iZ (z)))]) C.1 C.2.1 dX3_irreducible_5 rfl hl (by decide) rfl (fun ls hl => ?_)
  refine lv_lload_n C.1 C.2.1 dX3_irreducible_6 rfl (lv_at hl 0 rfl) ?_
  refine z_call C (c_X1_topPlace l ((c) (z).toNat) (by first | assumption | omega | rfl | exact decide_eq_false (by omega) | exact decide_eq_true (by assumption) | exact decide_eq_true (by omega) | exact one_shl33 (by omega) | exact pm_lt _ _ | exact rm_lt (by first | assumption | exact pm_lt _ _) | exact Nat.lt_of_le_of_lt (Nat.shiftRight_le _ _) (by assumption) | exact Nat.lt_of_le_of_lt Nat.and_le_right (by omega))) ml_X3_69 ⟨by decide, by decide⟩ ⟨Nat.le_of_ble_eq_true rfl, Nat.le_of_ble_eq_true rfl⟩ hl (Nat.le_of_ble_eq_true rfl) rfl dX3_irreducible_7 ?_
  have q7_0 := tp_rngE ((c) (z).toNat) (by first | assumption | omega)
  refine z_bipush C dX3_irreducible_10 (by decide) ?_
  refine z_icmp_le (tgt := 20) C (by omega) (by omega) dX3_irreducible_12 (by decide) (fun h12 => ?_) (fun h12 => ?_)
  · refine lv_lload_n C.1 C.2.1 dX3_irreducible_20 rfl (lv_at hl 0 rfl) ?_
    refine z_call C (c_X0_isOne l ((c) (z).toNat) (by first | assumption | omega | rfl | exact decide_eq_false (by omega) | exact decide_eq_true (by assumption) | exact decide_eq_true (by omega) | exact one_shl33 (by omega) | exact pm_lt _ _ | exact rm_lt (by first | assumption | exact pm_lt _ _) | exact Nat.lt_of_le_of_lt (Nat.shiftRight_le _ _) (by assumption) | exact Nat.lt_of_le_of_lt Nat.and_le_right (by omega))) ml_X3_144 ⟨by decide, by decide⟩ ⟨Nat.le_of_ble_eq_true rfl, Nat.le_of_ble_eq_true rfl⟩ hl (Nat.le_of_ble_eq_true rfl) rfl dX3_irreducible_21 ?_
    refine z_ifB_eq (tgt := 31) C dX3_irreducible_24 (by decide) (fun h24 => ?_) (fun h24 => ?_)
    · refine z_iconst C dX3_irreducible_31 ?_
      exact zo_iret C B hr hk (Nat.le_of_ble_eq_true rfl) (Nat.le_of_ble_eq_true rfl) dX3_irreducible_32 (by show some _ = some _; rw [show wI (c z.toNat) = _ from (if_neg (by omega)).trans (by rw [h24])] <;> rfl) (by rfl) (by rw [show wI (c z.toNat) = _ from (if_neg (by omega)).trans (by rw [h24])] <;> rfl)
    · refine z_iconst C dX3_irreducible_27 ?_
      refine lv_goto (tgt := 32) C.1 C.2.1 dX3_irreducible_28 (by decide) ?_
      exact zo_iret C B hr hk (Nat.le_of_ble_eq_true rfl) (Nat.le_of_ble_eq_true rfl) dX3_irreducible_32 (by show some _ = some _; rw [show wI (c z.toNat) = _ from (if_neg (by omega)).trans (by rw [h24])] <;> rfl) (by rfl) (by rw [show wI (c z.toNat) = _ from (if_neg (by omega)).trans (by rw [h24])] <;> rfl)
  · refine lv_aload_n C.1 C.2.1 dX3_irreducible_15 rfl (lv_at hl 1 rfl) ?_
    refine zo_callD C B (r := some (.int (iZ (-9)))) (c_X3_refuse l D cJ o a (c) ((ac)) ((re)) ((kn))  ) ml_X3_73 rfl ⟨Nat.le_of_ble_eq_true rfl, Nat.le_of_ble_eq_true rfl⟩ ⟨Nat.le_of_ble_eq_true rfl, Nat.le_of_ble_eq_true rfl⟩ hl (Nat.le_of_ble_eq_true rfl) rfl dX3_irreducible_16 (fun H locs B => ?_)
    exact zo_iret C B hr hk (Nat.le_of_ble_eq_true rfl) (Nat.le_of_ble_eq_true rfl) dX3_irreducible_19 (by show some _ = some _; rw [show wI (c z.toNat) = _ from if_pos (by omega)] <;> rfl) (by rfl) (by rw [show wI (c z.toNat) = _ from if_pos (by omega)] <;> rfl)

set_option maxHeartbeats 4000000 in
set_option maxRecDepth 100000 in
theorem c_X3_rank (l : Launch) (D : va_G) (cJ : ClassId) (o a : Nat) (c : Nat → Nat) (ac : Int32) (re : Int32) (kn : Int32) (z : Int) (hz : 0 ≤ z ∧ z ≤ 5) : zA l yX3_rank 6 172 0 0 D 2 cJ o a [.int (iZ (z))] c [.int (ac), .int (re), .int (kn)] (fun v => v = some (.int (iZ (qR (wK (c z.toNat)))))) (c) [.int (ac), .int (qF re (wK (c z.toNat))), .int (kn)] := by
  refine zA.intro (lo := 149) (nA := 1) (own := RX3) zi_X3_rank (by decide) rfl rfl (by decide +kernel) rfl (Nat.le_of_ble_eq_true rfl) ?_
  intro p e s m below meth c0 ls C hr hk B hl
  have hl : lv_has ls 4 [(0, .ref o), (1, .int (iZ (z)))] := hl
  refine lv_aload_n C.1 C.2.1 dX3_rank_0 rfl (lv_at hl 0 rfl) ?_
  refine lv_iload_n C.1 C.2.1 dX3_rank_1 rfl (lv_at hl 1 rfl) ?_
  refine zo_callD C B (r := some (.long (lN ((c) (z).toNat)))) (c_X3_polyIn l D cJ o a (c) (ac) (re) (kn) (z) (by first | assumption | omega | rfl | exact decide_eq_false (by omega) | exact decide_eq_true (by assumption) | exact decide_eq_true (by omega) | exact one_shl33 (by omega) | exact pm_lt _ _ | exact rm_lt (by first | assumption | exact pm_lt _ _) | exact Nat.lt_of_le_of_lt (Nat.shiftRight_le _ _) (by assumption) | exact Nat.lt_of_le_of_lt Nat.and_le_right (by omega))) ml_X3_43 rfl ⟨Nat.le_of_ble_eq_true rfl, Nat.le_of_ble_eq_true rfl⟩ ⟨Nat.le_of_ble_eq_true rfl, Nat.le_of_ble_eq_true rfl⟩ hl (Nat.le_of_ble_eq_true rfl) rfl dX3_rank_2 (fun H locs B => ?_)
  have q2_0 := B.1.2.2.2 ((z)).toNat
  refine lv_lstore_n (lv' := [(2, .long (lN ((c) (z).toNat))), (0, .ref o), (1, .int (iZ (z)))]) C.1 C.2.1 dX3_rank_5 rfl hl (by decide) rfl (fun ls hl => ?_)
  refine lv_lload_n C.1 C.2.1 dX3_rank_6 rfl (lv_at hl 0 rfl) ?_
  refine z_call C (c_X1_topPlace l ((c) (z).toNat) (by first | assumption | omega | rfl | exact decide_eq_false (by omega) | exact decide_eq_true (by assumption) | exact decide_eq_true (by omega) | exact one_shl33 (by omega) | exact pm_lt _ _ | exact rm_lt (by first | assumption | exact pm_lt _ _) | exact Nat.lt_of_le_of_lt (Nat.shiftRight_le _ _) (by assumption) | exact Nat.lt_of_le_of_lt Nat.and_le_right (by omega))) ml_X3_69 ⟨by decide, by decide⟩ ⟨Nat.le_of_ble_eq_true rfl, Nat.le_of_ble_eq_true rfl⟩ hl (Nat.le_of_ble_eq_true rfl) rfl dX3_rank_7 ?_
  have q7_0 := tp_rngE ((c) (z).toNat) (by first | assumption | omega)
  refine z_bipush C dX3_rank_10 (by decide) ?_
  refine z_icmp_le (tgt := 20) C (by omega) (by omega) dX3_rank_12 (by decide) (fun h12 => ?_) (fun h12 => ?_)
  · refine lv_lload_n C.1 C.2.1 dX3_rank_20 rfl (lv_at hl 0 rfl) ?_
    refine z_call C (c_X0_isOne l ((c) (z).toNat) (by first | assumption | omega | rfl | exact decide_eq_false (by omega) | exact decide_eq_true (by assumption) | exact decide_eq_true (by omega) | exact one_shl33 (by omega) | exact pm_lt _ _ | exact rm_lt (by first | assumption | exact pm_lt _ _) | exact Nat.lt_of_le_of_lt (Nat.shiftRight_le _ _) (by assumption) | exact Nat.lt_of_le_of_lt Nat.and_le_right (by omega))) ml_X3_144 ⟨by decide, by decide⟩ ⟨Nat.le_of_ble_eq_true rfl, Nat.le_of_ble_eq_true rfl⟩ hl (Nat.le_of_ble_eq_true rfl) rfl dX3_rank_21 ?_
    refine z_ifB_eq (tgt := 38) C dX3_rank_24 (by decide) (fun h24 => ?_) (fun h24 => ?_)
    · refine z_iconst C dX3_rank_38 ?_
      exact zo_iret C B hr hk (Nat.le_of_ble_eq_true rfl) (Nat.le_of_ble_eq_true rfl) dX3_rank_39 (by show some _ = some _; rw [show wK (c z.toNat) = _ from (if_neg (by omega)).trans (by rw [rk, h24])] <;> rfl) (by rfl) (by rw [show wK (c z.toNat) = _ from (if_neg (by omega)).trans (by rw [rk, h24])] <;> rfl)
    · refine lv_lload_n C.1 C.2.1 dX3_rank_27 rfl (lv_at hl 0 rfl) ?_
      refine z_call C (c_X1_topPlace l ((c) (z).toNat) (by first | assumption | omega | rfl | exact decide_eq_false (by omega) | exact decide_eq_true (by assumption) | exact decide_eq_true (by omega) | exact one_shl33 (by omega) | exact pm_lt _ _ | exact rm_lt (by first | assumption | exact pm_lt _ _) | exact Nat.lt_of_le_of_lt (Nat.shiftRight_le _ _) (by assumption) | exact Nat.lt_of_le_of_lt Nat.and_le_right (by omega))) ml_X3_69 ⟨by decide, by decide⟩ ⟨Nat.le_of_ble_eq_true rfl, Nat.le_of_ble_eq_true rfl⟩ hl (Nat.le_of_ble_eq_true rfl) rfl dX3_rank_28 ?_
      have q28_0 := tp_rngE ((c) (z).toNat) (by first | assumption | omega)
      refine lv_lload_n C.1 C.2.1 dX3_rank_31 rfl (lv_at hl 0 rfl) ?_
      refine z_call C (c_X0_countBelow l (tp ((c) (z).toNat)) ((c) (z).toNat) (by have := ir_tp h24; omega) (by have := (tp_le (n := c z.toNat) (k := 8)).mp (by omega); omega)) ml_X3_148 ⟨by decide, by decide⟩ ⟨Nat.le_of_ble_eq_true rfl, Nat.le_of_ble_eq_true rfl⟩ hl (Nat.le_of_ble_eq_true rfl) rfl dX3_rank_32 ?_
      have q32_0 := cb_rngE (2 ^ (tp ((c) (z).toNat)).toNat) ((c) (z).toNat)
      refine lv_goto (tgt := 39) C.1 C.2.1 dX3_rank_35 (by decide) ?_
      exact zo_iret C B hr hk (Nat.le_of_ble_eq_true rfl) (Nat.le_of_ble_eq_true rfl) dX3_rank_39 (by show some _ = some _; rw [show wK (c z.toNat) = _ from (if_neg (by omega)).trans (by rw [rk, if_pos h24])] <;> rfl) (by rfl) (by rw [show wK (c z.toNat) = _ from (if_neg (by omega)).trans (by rw [rk, if_pos h24])] <;> rfl)
  · refine lv_aload_n C.1 C.2.1 dX3_rank_15 rfl (lv_at hl 1 rfl) ?_
    refine zo_callD C B (r := some (.int (iZ (-9)))) (c_X3_refuse l D cJ o a (c) ((ac)) ((re)) ((kn))  ) ml_X3_73 rfl ⟨Nat.le_of_ble_eq_true rfl, Nat.le_of_ble_eq_true rfl⟩ ⟨Nat.le_of_ble_eq_true rfl, Nat.le_of_ble_eq_true rfl⟩ hl (Nat.le_of_ble_eq_true rfl) rfl dX3_rank_16 (fun H locs B => ?_)
    exact zo_iret C B hr hk (Nat.le_of_ble_eq_true rfl) (Nat.le_of_ble_eq_true rfl) dX3_rank_19 (by show some _ = some _; rw [show wK (c z.toNat) = _ from if_pos (by omega)] <;> rfl) (by rfl) (by rw [show wK (c z.toNat) = _ from if_pos (by omega)] <;> rfl)

set_option maxHeartbeats 4000000 in
set_option maxRecDepth 100000 in
theorem c_X3_period (l : Launch) (D : va_G) (cJ : ClassId) (o a : Nat) (c : Nat → Nat) (ac : Int32) (re : Int32) (kn : Int32) (z : Int) (hz : 0 ≤ z ∧ z ≤ 5) : zA l yX3_period 4 122 0 0 D 2 cJ o a [.int (iZ (z))] c [.int (ac), .int (re), .int (kn)] (fun v => v = some (.int (iZ (qR (wD (c z.toNat)))))) (c) [.int (ac), .int (qF re (wD (c z.toNat))), .int (kn)] := by
  refine zA.intro (lo := 99) (nA := 1) (own := RX3) zi_X3_period (by decide) rfl rfl (by decide +kernel) rfl (Nat.le_of_ble_eq_true rfl) ?_
  intro p e s m below meth c0 ls C hr hk B hl
  have hl : lv_has ls 4 [(0, .ref o), (1, .int (iZ (z)))] := hl
  refine lv_aload_n C.1 C.2.1 dX3_period_0 rfl (lv_at hl 0 rfl) ?_
  refine lv_iload_n C.1 C.2.1 dX3_period_1 rfl (lv_at hl 1 rfl) ?_
  refine zo_callD C B (r := some (.long (lN ((c) (z).toNat)))) (c_X3_polyIn l D cJ o a (c) (ac) (re) (kn) (z) (by first | assumption | omega | rfl | exact decide_eq_false (by omega) | exact decide_eq_true (by assumption) | exact decide_eq_true (by omega) | exact one_shl33 (by omega) | exact pm_lt _ _ | exact rm_lt (by first | assumption | exact pm_lt _ _) | exact Nat.lt_of_le_of_lt (Nat.shiftRight_le _ _) (by assumption) | exact Nat.lt_of_le_of_lt Nat.and_le_right (by omega))) ml_X3_43 rfl ⟨Nat.le_of_ble_eq_true rfl, Nat.le_of_ble_eq_true rfl⟩ ⟨Nat.le_of_ble_eq_true rfl, Nat.le_of_ble_eq_true rfl⟩ hl (Nat.le_of_ble_eq_true rfl) rfl dX3_period_2 (fun H locs B => ?_)
  have q2_0 := B.1.2.2.2 ((z)).toNat
  refine lv_lstore_n (lv' := [(2, .long (lN ((c) (z).toNat))), (0, .ref o), (1, .int (iZ (z)))]) C.1 C.2.1 dX3_period_5 rfl hl (by decide) rfl (fun ls hl => ?_)
  refine lv_lload_n C.1 C.2.1 dX3_period_6 rfl (lv_at hl 0 rfl) ?_
  refine z_iconst C dX3_period_7 ?_
  refine z_bipush C dX3_period_8 (by decide) ?_
  refine z_call C (c_X3_hasDegreeIn l ((c) (z).toNat) (1 : Int) (8 : Int) (by first | assumption | omega | rfl | exact decide_eq_false (by omega) | exact decide_eq_true (by assumption) | exact decide_eq_true (by omega) | exact one_shl33 (by omega) | exact pm_lt _ _ | exact rm_lt (by first | assumption | exact pm_lt _ _) | exact Nat.lt_of_le_of_lt (Nat.shiftRight_le _ _) (by assumption) | exact Nat.lt_of_le_of_lt Nat.and_le_right (by omega)) (by first | assumption | omega | rfl | exact decide_eq_false (by omega) | exact decide_eq_true (by assumption) | exact decide_eq_true (by omega) | exact one_shl33 (by omega) | exact pm_lt _ _ | exact rm_lt (by first | assumption | exact pm_lt _ _) | exact Nat.lt_of_le_of_lt (Nat.shiftRight_le _ _) (by assumption) | exact Nat.lt_of_le_of_lt Nat.and_le_right (by omega))) ml_X3_105 ⟨by decide, by decide⟩ ⟨Nat.le_of_ble_eq_true rfl, Nat.le_of_ble_eq_true rfl⟩ hl (Nat.le_of_ble_eq_true rfl) rfl dX3_period_10 ?_
  refine z_ifB_eq (tgt := 24) C dX3_period_13 (by decide) (fun h13 => ?_) (fun h13 => ?_)
  · refine lv_aload_n C.1 C.2.1 dX3_period_24 rfl (lv_at hl 1 rfl) ?_
    refine zo_callD C B (r := some (.int (iZ (-9)))) (c_X3_refuse l D cJ o a (c) ((ac)) ((re)) ((kn))  ) ml_X3_73 rfl ⟨Nat.le_of_ble_eq_true rfl, Nat.le_of_ble_eq_true rfl⟩ ⟨Nat.le_of_ble_eq_true rfl, Nat.le_of_ble_eq_true rfl⟩ hl (Nat.le_of_ble_eq_true rfl) rfl dX3_period_25 (fun H locs B => ?_)
    exact zo_iret C B hr hk (Nat.le_of_ble_eq_true rfl) (Nat.le_of_ble_eq_true rfl) dX3_period_28 (by show some _ = some _; rw [show wD (c z.toNat) = _ from if_neg (fun h => absurd ⟨h.1, h.2.1⟩ (of_decide_eq_false h13))] <;> rfl) (by rfl) (by rw [show wD (c z.toNat) = _ from if_neg (fun h => absurd ⟨h.1, h.2.1⟩ (of_decide_eq_false h13))] <;> rfl)
  · refine lv_lload_n C.1 C.2.1 dX3_period_16 rfl (lv_at hl 0 rfl) ?_
    refine z_iconst C dX3_period_17 ?_
    refine z_call C (c_X1_hasOne l ((c) (z).toNat) (0 : Int) (by first | assumption | omega | rfl | exact decide_eq_false (by omega) | exact decide_eq_true (by assumption) | exact decide_eq_true (by omega) | exact one_shl33 (by omega) | exact pm_lt _ _ | exact rm_lt (by first | assumption | exact pm_lt _ _) | exact Nat.lt_of_le_of_lt (Nat.shiftRight_le _ _) (by assumption) | exact Nat.lt_of_le_of_lt Nat.and_le_right (by omega)) (by first | assumption | omega | rfl | exact decide_eq_false (by omega) | exact decide_eq_true (by assumption) | exact decide_eq_true (by omega) | exact one_shl33 (by omega) | exact pm_lt _ _ | exact rm_lt (by first | assumption | exact pm_lt _ _) | exact Nat.lt_of_le_of_lt (Nat.shiftRight_le _ _) (by assumption) | exact Nat.lt_of_le_of_lt Nat.and_le_right (by omega))) ml_X3_48 ⟨by decide, by decide⟩ ⟨Nat.le_of_ble_eq_true rfl, Nat.le_of_ble_eq_true rfl⟩ hl (Nat.le_of_ble_eq_true rfl) rfl dX3_period_18 ?_
    refine z_ifB_ne (tgt := 29) C dX3_period_21 (by decide) (fun h21 => ?_) (fun h21 => ?_)
    · refine lv_lload_n C.1 C.2.1 dX3_period_29 rfl (lv_at hl 0 rfl) ?_
      refine z_call C (c_X0_periodOf l ((c) (z).toNat) (by have h13b := of_decide_eq_true h13; have := (tp_le (n := c z.toNat) (k := 8)).mp (by omega); omega) (by have h13b := of_decide_eq_true h13; exact mt tp_neg.mpr (by omega))) ml_X3_156 ⟨by decide, by decide⟩ ⟨Nat.le_of_ble_eq_true rfl, Nat.le_of_ble_eq_true rfl⟩ hl (Nat.le_of_ble_eq_true rfl) rfl dX3_period_30 ?_
      have q30_0 := pe_rngE ((c) (z).toNat)
      exact zo_iret C B hr hk (Nat.le_of_ble_eq_true rfl) (Nat.le_of_ble_eq_true rfl) dX3_period_33 (by show some _ = some _; rw [show wD (c z.toNat) = _ from if_pos ⟨(of_decide_eq_true h13).1, (of_decide_eq_true h13).2, (tb_0 _).symm.trans h21⟩] <;> rfl) (by rfl) (by rw [show wD (c z.toNat) = _ from if_pos ⟨(of_decide_eq_true h13).1, (of_decide_eq_true h13).2, (tb_0 _).symm.trans h21⟩] <;> rfl)
    · refine lv_aload_n C.1 C.2.1 dX3_period_24 rfl (lv_at hl 1 rfl) ?_
      refine zo_callD C B (r := some (.int (iZ (-9)))) (c_X3_refuse l D cJ o a (c) ((ac)) ((re)) ((kn))  ) ml_X3_73 rfl ⟨Nat.le_of_ble_eq_true rfl, Nat.le_of_ble_eq_true rfl⟩ ⟨Nat.le_of_ble_eq_true rfl, Nat.le_of_ble_eq_true rfl⟩ hl (Nat.le_of_ble_eq_true rfl) rfl dX3_period_25 (fun H locs B => ?_)
      exact zo_iret C B hr hk (Nat.le_of_ble_eq_true rfl) (Nat.le_of_ble_eq_true rfl) dX3_period_28 (by show some _ = some _; rw [show wD (c z.toNat) = _ from if_neg (fun h => absurd ((tb_0 (c z.toNat)).trans h.2.2) (by rw [h21]; decide))] <;> rfl) (by rfl) (by rw [show wD (c z.toNat) = _ from if_neg (fun h => absurd ((tb_0 (c z.toNat)).trans h.2.2) (by rw [h21]; decide))] <;> rfl)

set_option maxHeartbeats 4000000 in
set_option maxRecDepth 100000 in
theorem c_X3_many (l : Launch) (D : va_G) (cJ : ClassId) (o a : Nat) (c : Nat → Nat) (ac : Int32) (re : Int32) (kn : Int32) (d : Int) (hd : 1 ≤ d ∧ d ≤ 8) : zA l yX3_many 6 170 0 0 D 2 cJ o a [.int (iZ (d))] c [.int (ac), .int (re), .int (kn)] (fun v => v = some (.int (iZ (cb (2 ^ d.toNat) (2 ^ (d.toNat + 1)))))) (c) [.int (ac), .int (re), .int (kn)] := by
  refine zA.intro (lo := 149) (nA := 1) (own := RX3) zi_X3_many (by decide) rfl rfl (by decide +kernel) rfl (Nat.le_of_ble_eq_true rfl) ?_
  intro p e s m below meth c0 ls C hr hk B hl
  have hl : lv_has ls 2 [(0, .ref o), (1, .int (iZ (d)))] := hl
  have hp := pow_8 (d := d.toNat) (by omega)
  have hps := pow_s d.toNat
  have e2 : 1 <<< (d + 1).toNat = 2 ^ (d.toNat + 1) := by rw [Nat.shiftLeft_eq, Nat.one_mul]; congr 1; omega
  refine lv_iload_n C.1 C.2.1 dX3_many_0 rfl (lv_at hl 1 rfl) ?_
  refine z_iconst C dX3_many_1 ?_
  refine z_bipush C dX3_many_2 (by decide) ?_
  refine z_callv C (c_X3_checkRange l (d) (1 : Int) (8 : Int) (by first | assumption | omega | rfl | exact decide_eq_false (by omega) | exact decide_eq_true (by assumption) | exact decide_eq_true (by omega) | exact one_shl33 (by omega) | exact pm_lt _ _ | exact rm_lt (by first | assumption | exact pm_lt _ _) | exact Nat.lt_of_le_of_lt (Nat.shiftRight_le _ _) (by assumption) | exact Nat.lt_of_le_of_lt Nat.and_le_right (by omega))) ml_X3_33 ⟨by decide, by decide⟩ ⟨Nat.le_of_ble_eq_true rfl, Nat.le_of_ble_eq_true rfl⟩ hl (Nat.le_of_ble_eq_true rfl) rfl dX3_many_4 ?_
  refine lv_iload_n C.1 C.2.1 dX3_many_7 rfl (lv_at hl 1 rfl) ?_
  refine lv_iload_n C.1 C.2.1 dX3_many_8 rfl (lv_at hl 1 rfl) ?_
  refine z_iconst C dX3_many_9 ?_
  refine z_iadd C dX3_many_10 ?_
  refine z_call C (c_X1_single l ((d) + (1)) (by first | assumption | omega | rfl | exact decide_eq_false (by omega) | exact decide_eq_true (by assumption) | exact decide_eq_true (by omega) | exact one_shl33 (by omega) | exact pm_lt _ _ | exact rm_lt (by first | assumption | exact pm_lt _ _) | exact Nat.lt_of_le_of_lt (Nat.shiftRight_le _ _) (by assumption) | exact Nat.lt_of_le_of_lt Nat.and_le_right (by omega))) ml_X3_37 ⟨by decide, by decide⟩ ⟨Nat.le_of_ble_eq_true rfl, Nat.le_of_ble_eq_true rfl⟩ hl (Nat.le_of_ble_eq_true rfl) rfl dX3_many_11 ?_
  refine z_call C (c_X0_countBelow l (d) (1 <<< ((d) + (1)).toNat) (by omega) (by rw [e2]; omega)) ml_X3_148 ⟨by decide, by decide⟩ ⟨Nat.le_of_ble_eq_true rfl, Nat.le_of_ble_eq_true rfl⟩ hl (Nat.le_of_ble_eq_true rfl) rfl dX3_many_14 ?_
  have q14_0 := cb_rngE (2 ^ (d).toNat) (1 <<< ((d) + (1)).toNat)
  exact zo_iret C B hr hk (Nat.le_of_ble_eq_true rfl) (Nat.le_of_ble_eq_true rfl) dX3_many_17 (by exact congrArg (fun z : Int => some (Value.int (iZ z))) (by rw [e2])) (by rfl) (by rfl)

set_option maxHeartbeats 4000000 in
set_option maxRecDepth 100000 in
theorem c_X3_formula (l : Launch) (D : va_G) (cJ : ClassId) (o a : Nat) (c : Nat → Nat) (ac : Int32) (re : Int32) (kn : Int32) (d : Int) (hd : 1 ≤ d ∧ d ≤ 8) : zA l yX3_formula 2 63 0 0 D 2 cJ o a [.int (iZ (d))] c [.int (ac), .int (re), .int (kn)] (fun v => v = some (.int (iZ (fo d)))) (c) [.int (ac), .int (re), .int (kn)] := by
  refine zA.intro (lo := 42) (nA := 1) (own := RX3) zi_X3_formula (by decide) rfl rfl (by decide +kernel) rfl (Nat.le_of_ble_eq_true rfl) ?_
  intro p e s m below meth c0 ls C hr hk B hl
  have hl : lv_has ls 2 [(0, .ref o), (1, .int (iZ (d)))] := hl
  refine lv_iload_n C.1 C.2.1 dX3_formula_0 rfl (lv_at hl 1 rfl) ?_
  refine z_iconst C dX3_formula_1 ?_
  refine z_bipush C dX3_formula_2 (by decide) ?_
  refine z_callv C (c_X3_checkRange l (d) (1 : Int) (8 : Int) (by first | assumption | omega | rfl | exact decide_eq_false (by omega) | exact decide_eq_true (by assumption) | exact decide_eq_true (by omega) | exact one_shl33 (by omega) | exact pm_lt _ _ | exact rm_lt (by first | assumption | exact pm_lt _ _) | exact Nat.lt_of_le_of_lt (Nat.shiftRight_le _ _) (by assumption) | exact Nat.lt_of_le_of_lt Nat.and_le_right (by omega))) ml_X3_33 ⟨by decide, by decide⟩ ⟨Nat.le_of_ble_eq_true rfl, Nat.le_of_ble_eq_true rfl⟩ hl (Nat.le_of_ble_eq_true rfl) rfl dX3_formula_4 ?_
  refine lv_iload_n C.1 C.2.1 dX3_formula_7 rfl (lv_at hl 1 rfl) ?_
  refine z_call C (c_X0_formulaFor l (d) (by first | assumption | omega | rfl | exact decide_eq_false (by omega) | exact decide_eq_true (by assumption) | exact decide_eq_true (by omega) | exact one_shl33 (by omega) | exact pm_lt _ _ | exact rm_lt (by first | assumption | exact pm_lt _ _) | exact Nat.lt_of_le_of_lt (Nat.shiftRight_le _ _) (by assumption) | exact Nat.lt_of_le_of_lt Nat.and_le_right (by omega))) ml_X3_159 ⟨by decide, by decide⟩ ⟨Nat.le_of_ble_eq_true rfl, Nat.le_of_ble_eq_true rfl⟩ hl (Nat.le_of_ble_eq_true rfl) rfl dX3_formula_8 ?_
  have q8_0 := (fo_rngE (d) (by omega)).2
  exact zo_iret C B hr hk (Nat.le_of_ble_eq_true rfl) (Nat.le_of_ble_eq_true rfl) dX3_formula_11 (by exact congrArg (fun z : Int => some (Value.int (iZ z))) (by rfl)) (by rfl) (by rfl)

set_option maxHeartbeats 4000000 in
set_option maxRecDepth 100000 in
theorem c_X3_find (l : Launch) (D : va_G) (cJ : ClassId) (o a : Nat) (c : Nat → Nat) (ac : Int32) (re : Int32) (kn : Int32) (z : Int) (b : Bool) (hz : 0 ≤ z ∧ z ≤ 5) : zA l yX3_find 2 68 0 0 D 2 cJ o a [.int (iZ (z)), .int (iZ (zB (b)))] c [.int (ac), .int (re), .int (kn)] (fun v => v = some (.int (iZ (fdF c (c z.toNat) b z 6)))) (c) [.int (ac), .int (re), .int (kn)] := by
  refine zA.intro (lo := 42) (nA := 2) (own := RX3) zi_X3_find (by decide) rfl rfl (by decide +kernel) rfl (Nat.le_of_ble_eq_true rfl) ?_
  intro p e s m below meth c0 ls C hr hk B hl
  have hl : lv_has ls 7 [(0, .ref o), (1, .int (iZ (z))), (2, .int (iZ (zB (b))))] := hl
  refine lv_aload_n C.1 C.2.1 dX3_find_0 rfl (lv_at hl 0 rfl) ?_
  refine lv_iload_n C.1 C.2.1 dX3_find_1 rfl (lv_at hl 1 rfl) ?_
  refine zo_callD C B (r := some (.long (lN ((c) (z).toNat)))) (c_X3_polyIn l D cJ o a (c) (ac) (re) (kn) (z) (by first | assumption | omega | rfl | exact decide_eq_false (by omega) | exact decide_eq_true (by assumption) | exact decide_eq_true (by omega) | exact one_shl33 (by omega) | exact pm_lt _ _ | exact rm_lt (by first | assumption | exact pm_lt _ _) | exact Nat.lt_of_le_of_lt (Nat.shiftRight_le _ _) (by assumption) | exact Nat.lt_of_le_of_lt Nat.and_le_right (by omega))) ml_X3_43 rfl ⟨Nat.le_of_ble_eq_true rfl, Nat.le_of_ble_eq_true rfl⟩ ⟨Nat.le_of_ble_eq_true rfl, Nat.le_of_ble_eq_true rfl⟩ hl (Nat.le_of_ble_eq_true rfl) rfl dX3_find_2 (fun H locs B => ?_)
  have q2_0 := B.1.2.2.2 ((z)).toNat
  refine lv_lstore_n (lv' := [(3, .long (lN ((c) (z).toNat))), (0, .ref o), (1, .int (iZ (z))), (2, .int (iZ (zB (b))))]) C.1 C.2.1 dX3_find_5 rfl hl (by decide) rfl (fun ls hl => ?_)
  refine lv_iload_n C.1 C.2.1 dX3_find_6 rfl (lv_at hl 2 rfl) ?_
  refine lv_istore (lv' := [(5, .int (iZ (z))), (3, .long (lN ((c) (z).toNat))), (0, .ref o), (1, .int (iZ (z))), (2, .int (iZ (zB (b))))]) C.1 C.2.1 dX3_find_7 hl (by decide) rfl (fun ls hl => ?_)
  refine z_iconst C dX3_find_9 ?_
  refine lv_istore (lv' := [(6, .int (iZ (0))), (5, .int (iZ (z))), (3, .long (lN ((c) (z).toNat))), (0, .ref o), (1, .int (iZ (z))), (2, .int (iZ (zB (b))))]) C.1 C.2.1 dX3_find_10 hl (by decide) rfl (fun ls hl => ?_)
  have L12 : ∀ (j : Nat) (k : Nat) (x5 : Int) (x6 : Int) (ls : Array Slot), 6 - k < j → (x6 = (k : Int)) → (k ≤ 6) → (x5 = fdF c (c z.toNat) b z k) → lv_has ls 7 [(0, .ref o), (1, .int (iZ (z))), (2, .int (iZ (zB (b)))), (3, .long (lN ((c) (z).toNat))), (5, .int (iZ (x5))), (6, .int (iZ (x6)))] → W p l e { frames := 2, cells := 0, slots := 0, locals := 42 } s m (Value.ref o :: ([.int (iZ (z)), .int (iZ (zB (b)))] : List Value)).toArray below meth c0 H locs (0 + 0) (0 + 0) (zE1 below D 2 cJ o a (Value.ref o :: ([.int (iZ (z)), .int (iZ (zB (b)))] : List Value)).toArray s 0 0 (fun v => v = some (.int (iZ (fdF c (c z.toNat) b z 6)))) (c) [.int (ac), .int (re), .int (kn)]) (F0 m 12 ls []) := by
    intro j
    induction j with
    | zero => intro k x5 x6 ls hmu; exact absurd hmu (Nat.not_lt_zero _)
    | succ j ih12 =>
      intro k x5 x6 ls hmu i12_0 i12_1 i12_2 hl
      have hf := fdF_rng c (c z.toNat) b z hz k (by omega)
      refine lv_iload C.1 C.2.1 dX3_find_12 (lv_at hl 5 rfl) ?_
      refine lv_aload_n C.1 C.2.1 dX3_find_14 rfl (lv_at hl 0 rfl) ?_
      refine zo_get C B (Cn := RX3) (T := TX3) (N := 4) (v := .ref a) rfl inX3 0 (by decide) fl_X3_9 rfl rfl dX3_find_15 ?_
      refine zo_alen C B dX3_find_18 ?_
      refine z_icmp_ge (tgt := 65) C (by omega) (by omega) dX3_find_19 (by decide) (fun h19 => ?_) (fun h19 => ?_)
      · refine lv_iload C.1 C.2.1 dX3_find_65 (lv_at hl 4 rfl) ?_
        exact zo_iret C B hr hk (Nat.le_of_ble_eq_true rfl) (Nat.le_of_ble_eq_true rfl) dX3_find_67 (by exact congrArg (fun z : Int => some (Value.int (iZ z))) (by rw [i12_2, show k = 6 by omega])) (by rfl) (by rfl)
      · refine lv_aload_n C.1 C.2.1 dX3_find_22 rfl (lv_at hl 0 rfl) ?_
        refine zo_get C B (Cn := RX3) (T := TX3) (N := 4) (v := .ref a) rfl inX3 0 (by decide) fl_X3_9 rfl rfl dX3_find_23 ?_
        refine lv_iload C.1 C.2.1 dX3_find_26 (lv_at hl 5 rfl) ?_
        refine zo_lald C B (k) (by omega) (by omega) dX3_find_28 ?_
        have q28 := B.1.2.2.2 (k)
        refine lv_lload_n C.1 C.2.1 dX3_find_29 rfl (lv_at hl 3 rfl) ?_
        refine z_lc_ne (tgt := 59) C (by first | assumption | omega | rfl | exact decide_eq_false (by omega) | exact decide_eq_true (by assumption) | exact decide_eq_true (by omega) | exact one_shl33 (by omega) | exact pm_lt _ _ | exact rm_lt (by first | assumption | exact pm_lt _ _) | exact Nat.lt_of_le_of_lt (Nat.shiftRight_le _ _) (by assumption) | exact Nat.lt_of_le_of_lt Nat.and_le_right (by omega)) (by first | assumption | omega | rfl | exact decide_eq_false (by omega) | exact decide_eq_true (by assumption) | exact decide_eq_true (by omega) | exact one_shl33 (by omega) | exact pm_lt _ _ | exact rm_lt (by first | assumption | exact pm_lt _ _) | exact Nat.lt_of_le_of_lt (Nat.shiftRight_le _ _) (by assumption) | exact Nat.lt_of_le_of_lt Nat.and_le_right (by omega)) dX3_find_30 dX3_find_31 (by decide) (fun h30 => ?_) (fun h30 => ?_)
        · refine z_iinc (j := 5) (lv' := [(6, .int (iZ (x6 + 1))), (0, .ref o), (1, .int (iZ (z))), (2, .int (iZ (zB (b)))), (3, .long (lN ((c) (z).toNat))), (5, .int (iZ (x5)))]) C dX3_find_59 hl rfl (by decide) rfl (fun ls hl => ?_)
          refine lv_goto (tgt := 12) C.1 C.2.1 dX3_find_62 (by decide) ?_
          exact ih12 (k + 1) _ _ _ (by omega) (by omega) (by omega) (by rw [fdF, fdS, if_neg (fun h => h30 h.1)]; exact i12_2) (lv_sub hl [1, 2, 3, 4, 5, 0] rfl)
        · refine lv_iload_n C.1 C.2.1 dX3_find_34 rfl (lv_at hl 2 rfl) ?_
          refine z_ifB_eq (tgt := 48) C dX3_find_35 (by decide) (fun h35 => ?_) (fun h35 => ?_)
          · refine lv_iload C.1 C.2.1 dX3_find_48 (lv_at hl 5 rfl) ?_
            refine lv_iload C.1 C.2.1 dX3_find_50 (lv_at hl 4 rfl) ?_
            refine z_icmp_ge (tgt := 59) C (by omega) (by omega) dX3_find_52 (by decide) (fun h52 => ?_) (fun h52 => ?_)
            · refine z_iinc (j := 5) (lv' := [(6, .int (iZ (x6 + 1))), (0, .ref o), (1, .int (iZ (z))), (2, .int (iZ (zB (b)))), (3, .long (lN ((c) (z).toNat))), (5, .int (iZ (x5)))]) C dX3_find_59 hl rfl (by decide) rfl (fun ls hl => ?_)
              refine lv_goto (tgt := 12) C.1 C.2.1 dX3_find_62 (by decide) ?_
              exact ih12 (k + 1) _ _ _ (by omega) (by omega) (by omega) (by rw [fdF, fdS, if_neg (fun h => absurd h.2 (by rw [if_neg (by rw [h35]; decide)]; omega))]; exact i12_2) (lv_sub hl [1, 2, 3, 4, 5, 0] rfl)
            · refine lv_iload C.1 C.2.1 dX3_find_55 (lv_at hl 5 rfl) ?_
              refine lv_istore (lv' := [(5, .int (iZ (x6))), (0, .ref o), (1, .int (iZ (z))), (2, .int (iZ (zB (b)))), (3, .long (lN ((c) (z).toNat))), (6, .int (iZ (x6)))]) C.1 C.2.1 dX3_find_57 hl (by decide) rfl (fun ls hl => ?_)
              refine z_iinc (j := 5) (lv' := [(6, .int (iZ (x6 + 1))), (5, .int (iZ (x6))), (0, .ref o), (1, .int (iZ (z))), (2, .int (iZ (zB (b)))), (3, .long (lN ((c) (z).toNat)))]) C dX3_find_59 hl rfl (by decide) rfl (fun ls hl => ?_)
              refine lv_goto (tgt := 12) C.1 C.2.1 dX3_find_62 (by decide) ?_
              exact ih12 (k + 1) _ _ _ (by omega) (by omega) (by omega) (by rw [fdF, fdS, if_pos ⟨h30, by rw [if_neg (by rw [h35]; decide)]; omega⟩]; exact i12_0) (lv_sub hl [2, 3, 4, 5, 1, 0] rfl)
          · refine lv_iload C.1 C.2.1 dX3_find_38 (lv_at hl 5 rfl) ?_
            refine lv_iload C.1 C.2.1 dX3_find_40 (lv_at hl 4 rfl) ?_
            refine z_icmp_le (tgt := 59) C (by omega) (by omega) dX3_find_42 (by decide) (fun h42 => ?_) (fun h42 => ?_)
            · refine z_iinc (j := 5) (lv' := [(6, .int (iZ (x6 + 1))), (0, .ref o), (1, .int (iZ (z))), (2, .int (iZ (zB (b)))), (3, .long (lN ((c) (z).toNat))), (5, .int (iZ (x5)))]) C dX3_find_59 hl rfl (by decide) rfl (fun ls hl => ?_)
              refine lv_goto (tgt := 12) C.1 C.2.1 dX3_find_62 (by decide) ?_
              exact ih12 (k + 1) _ _ _ (by omega) (by omega) (by omega) (by rw [fdF, fdS, if_neg (fun h => absurd h.2 (by rw [if_pos h35]; omega))]; exact i12_2) (lv_sub hl [1, 2, 3, 4, 5, 0] rfl)
            · refine lv_goto (tgt := 55) C.1 C.2.1 dX3_find_45 (by decide) ?_
              refine lv_iload C.1 C.2.1 dX3_find_55 (lv_at hl 5 rfl) ?_
              refine lv_istore (lv' := [(5, .int (iZ (x6))), (0, .ref o), (1, .int (iZ (z))), (2, .int (iZ (zB (b)))), (3, .long (lN ((c) (z).toNat))), (6, .int (iZ (x6)))]) C.1 C.2.1 dX3_find_57 hl (by decide) rfl (fun ls hl => ?_)
              refine z_iinc (j := 5) (lv' := [(6, .int (iZ (x6 + 1))), (5, .int (iZ (x6))), (0, .ref o), (1, .int (iZ (z))), (2, .int (iZ (zB (b)))), (3, .long (lN ((c) (z).toNat)))]) C dX3_find_59 hl rfl (by decide) rfl (fun ls hl => ?_)
              refine lv_goto (tgt := 12) C.1 C.2.1 dX3_find_62 (by decide) ?_
              exact ih12 (k + 1) _ _ _ (by omega) (by omega) (by omega) (by rw [fdF, fdS, if_pos ⟨h30, by rw [if_pos h35]; omega⟩]; exact i12_0) (lv_sub hl [2, 3, 4, 5, 1, 0] rfl)
  exact L12 _ (0) _ _ _ (by exact Nat.lt_succ_self _) (by rfl) (by omega) (by rfl) (lv_sub hl [3, 4, 5, 2, 1, 0] rfl)

set_option maxHeartbeats 4000000 in
set_option maxRecDepth 100000 in
theorem c_X3_cellsWithZero (l : Launch) (D : va_G) (cJ : ClassId) (o a : Nat) (c : Nat → Nat) (ac : Int32) (re : Int32) (kn : Int32)  : zA l yX3_cellsWithZero 0 22 0 0 D 2 cJ o a [] c [.int (ac), .int (re), .int (kn)] (fun v => v = some (.int (iZ (czF c 6)))) (c) [.int (ac), .int (re), .int (kn)] := by
  refine zA.intro (lo := 0) (nA := 0) (own := RX3) zi_X3_cellsWithZero (by decide) rfl rfl (by decide +kernel) rfl (Nat.le_of_ble_eq_true rfl) ?_
  intro p e s m below meth c0 ls C hr hk B hl
  have hl : lv_has ls 3 [(0, .ref o)] := hl
  refine z_iconst C dX3_cellsWithZero_0 ?_
  refine lv_istore_n (lv' := [(1, .int (iZ (0))), (0, .ref o)]) C.1 C.2.1 dX3_cellsWithZero_1 rfl hl (by decide) rfl (fun ls hl => ?_)
  refine z_iconst C dX3_cellsWithZero_2 ?_
  refine lv_istore_n (lv' := [(2, .int (iZ (0))), (1, .int (iZ (0))), (0, .ref o)]) C.1 C.2.1 dX3_cellsWithZero_3 rfl hl (by decide) rfl (fun ls hl => ?_)
  have L4 : ∀ (j : Nat) (k : Nat) (x1 : Int) (x2 : Int) (ls : Array Slot), 6 - k < j → (x2 = (k : Int)) → (k ≤ 6) → (x1 = czF c k) → lv_has ls 3 [(0, .ref o), (1, .int (iZ (x1))), (2, .int (iZ (x2)))] → W p l e { frames := 0, cells := 0, slots := 0, locals := 0 } s m (Value.ref o :: ([] : List Value)).toArray below meth c0 s.heap [] 0 0 (zE1 below D 2 cJ o a (Value.ref o :: ([] : List Value)).toArray s 0 0 (fun v => v = some (.int (iZ (czF c 6)))) (c) [.int (ac), .int (re), .int (kn)]) (F0 m 4 ls []) := by
    intro j
    induction j with
    | zero => intro k x1 x2 ls hmu; exact absurd hmu (Nat.not_lt_zero _)
    | succ j ih4 =>
      intro k x1 x2 ls hmu i4_0 i4_1 i4_2 hl
      have hf := czF_rng c k
      refine lv_iload_n C.1 C.2.1 dX3_cellsWithZero_4 rfl (lv_at hl 2 rfl) ?_
      refine lv_aload_n C.1 C.2.1 dX3_cellsWithZero_5 rfl (lv_at hl 0 rfl) ?_
      refine zo_get C B (Cn := RX3) (T := TX3) (N := 4) (v := .ref a) rfl inX3 0 (by decide) fl_X3_9 rfl rfl dX3_cellsWithZero_6 ?_
      refine zo_alen C B dX3_cellsWithZero_9 ?_
      refine z_icmp_ge (tgt := 33) C (by omega) (by omega) dX3_cellsWithZero_10 (by decide) (fun h10 => ?_) (fun h10 => ?_)
      · refine lv_iload_n C.1 C.2.1 dX3_cellsWithZero_33 rfl (lv_at hl 1 rfl) ?_
        exact zo_iret C B hr hk (Nat.le_of_ble_eq_true rfl) (Nat.le_of_ble_eq_true rfl) dX3_cellsWithZero_34 (by exact congrArg (fun z : Int => some (Value.int (iZ z))) (by rw [i4_2, show k = 6 by omega])) (by rfl) (by rfl)
      · refine lv_aload_n C.1 C.2.1 dX3_cellsWithZero_13 rfl (lv_at hl 0 rfl) ?_
        refine zo_get C B (Cn := RX3) (T := TX3) (N := 4) (v := .ref a) rfl inX3 0 (by decide) fl_X3_9 rfl rfl dX3_cellsWithZero_14 ?_
        refine lv_iload_n C.1 C.2.1 dX3_cellsWithZero_17 rfl (lv_at hl 2 rfl) ?_
        refine zo_lald C B (k) (by omega) (by omega) dX3_cellsWithZero_18 ?_
        have q18 := B.1.2.2.2 (k)
        refine z_lconst (k0 := 0) C dX3_cellsWithZero_19 rfl ?_
        refine z_lc_ne (tgt := 27) C (by first | assumption | omega | rfl | exact decide_eq_false (by omega) | exact decide_eq_true (by assumption) | exact decide_eq_true (by omega) | exact one_shl33 (by omega) | exact pm_lt _ _ | exact rm_lt (by first | assumption | exact pm_lt _ _) | exact Nat.lt_of_le_of_lt (Nat.shiftRight_le _ _) (by assumption) | exact Nat.lt_of_le_of_lt Nat.and_le_right (by omega)) (by first | assumption | omega | rfl | exact decide_eq_false (by omega) | exact decide_eq_true (by assumption) | exact decide_eq_true (by omega) | exact one_shl33 (by omega) | exact pm_lt _ _ | exact rm_lt (by first | assumption | exact pm_lt _ _) | exact Nat.lt_of_le_of_lt (Nat.shiftRight_le _ _) (by assumption) | exact Nat.lt_of_le_of_lt Nat.and_le_right (by omega)) dX3_cellsWithZero_20 dX3_cellsWithZero_21 (by decide) (fun h20 => ?_) (fun h20 => ?_)
        · refine z_iinc (j := 2) (lv' := [(2, .int (iZ (x2 + 1))), (0, .ref o), (1, .int (iZ (x1)))]) C dX3_cellsWithZero_27 hl rfl (by decide) rfl (fun ls hl => ?_)
          refine lv_goto (tgt := 4) C.1 C.2.1 dX3_cellsWithZero_30 (by decide) ?_
          exact ih4 (k + 1) _ _ _ (by omega) (by omega) (by omega) (by rw [czF, if_neg h20]; exact i4_2) (lv_sub hl [1, 2, 0] rfl)
        · refine z_iinc (j := 1) (lv' := [(1, .int (iZ (x1 + 1))), (0, .ref o), (2, .int (iZ (x2)))]) C dX3_cellsWithZero_24 hl rfl (by decide) rfl (fun ls hl => ?_)
          refine z_iinc (j := 2) (lv' := [(2, .int (iZ (x2 + 1))), (1, .int (iZ (x1 + 1))), (0, .ref o)]) C dX3_cellsWithZero_27 hl rfl (by decide) rfl (fun ls hl => ?_)
          refine lv_goto (tgt := 4) C.1 C.2.1 dX3_cellsWithZero_30 (by decide) ?_
          exact ih4 (k + 1) _ _ _ (by omega) (by omega) (by omega) (by rw [czF, if_pos h20, i4_2]) (lv_sub hl [2, 1, 0] rfl)
  exact L4 _ (0) _ _ _ (by exact Nat.lt_succ_self _) (by rfl) (by omega) (by rfl) (lv_sub hl [2, 1, 0] rfl)

set_option maxHeartbeats 4000000 in
set_option maxRecDepth 100000 in
theorem c_X3_allWeights (l : Launch) (D : va_G) (cJ : ClassId) (o a : Nat) (c : Nat → Nat) (ac : Int32) (re : Int32) (kn : Int32)  : zA l yX3_allWeights 1 43 0 0 D 2 cJ o a [] c [.int (ac), .int (re), .int (kn)] (fun v => v = some (.int (iZ (awF c 6)))) (c) [.int (ac), .int (re), .int (kn)] := by
  refine zA.intro (lo := 21) (nA := 0) (own := RX3) zi_X3_allWeights (by decide) rfl rfl (by decide +kernel) rfl (Nat.le_of_ble_eq_true rfl) ?_
  intro p e s m below meth c0 ls C hr hk B hl
  have hl : lv_has ls 3 [(0, .ref o)] := hl
  refine z_iconst C dX3_allWeights_0 ?_
  refine lv_istore_n (lv' := [(1, .int (iZ (0))), (0, .ref o)]) C.1 C.2.1 dX3_allWeights_1 rfl hl (by decide) rfl (fun ls hl => ?_)
  refine z_iconst C dX3_allWeights_2 ?_
  refine lv_istore_n (lv' := [(2, .int (iZ (0))), (1, .int (iZ (0))), (0, .ref o)]) C.1 C.2.1 dX3_allWeights_3 rfl hl (by decide) rfl (fun ls hl => ?_)
  have L4 : ∀ (j : Nat) (k : Nat) (x1 : Int) (x2 : Int) (ls : Array Slot), 6 - k < j → (x2 = (k : Int)) → (k ≤ 6) → (x1 = awF c k) → lv_has ls 3 [(0, .ref o), (1, .int (iZ (x1))), (2, .int (iZ (x2)))] → W p l e { frames := 1, cells := 0, slots := 0, locals := 21 } s m (Value.ref o :: ([] : List Value)).toArray below meth c0 s.heap [] 0 0 (zE1 below D 2 cJ o a (Value.ref o :: ([] : List Value)).toArray s 0 0 (fun v => v = some (.int (iZ (awF c 6)))) (c) [.int (ac), .int (re), .int (kn)]) (F0 m 4 ls []) := by
    intro j
    induction j with
    | zero => intro k x1 x2 ls hmu; exact absurd hmu (Nat.not_lt_zero _)
    | succ j ih4 =>
      intro k x1 x2 ls hmu i4_0 i4_1 i4_2 hl
      have hf := awF_rng c k
      refine lv_iload_n C.1 C.2.1 dX3_allWeights_4 rfl (lv_at hl 2 rfl) ?_
      refine lv_aload_n C.1 C.2.1 dX3_allWeights_5 rfl (lv_at hl 0 rfl) ?_
      refine zo_get C B (Cn := RX3) (T := TX3) (N := 4) (v := .ref a) rfl inX3 0 (by decide) fl_X3_9 rfl rfl dX3_allWeights_6 ?_
      refine zo_alen C B dX3_allWeights_9 ?_
      refine z_icmp_ge (tgt := 31) C (by omega) (by omega) dX3_allWeights_10 (by decide) (fun h10 => ?_) (fun h10 => ?_)
      · refine lv_iload_n C.1 C.2.1 dX3_allWeights_31 rfl (lv_at hl 1 rfl) ?_
        exact zo_iret C B hr hk (Nat.le_of_ble_eq_true rfl) (Nat.le_of_ble_eq_true rfl) dX3_allWeights_32 (by exact congrArg (fun z : Int => some (Value.int (iZ z))) (by rw [i4_2, show k = 6 by omega])) (by rfl) (by rfl)
      · refine lv_iload_n C.1 C.2.1 dX3_allWeights_13 rfl (lv_at hl 1 rfl) ?_
        refine lv_aload_n C.1 C.2.1 dX3_allWeights_14 rfl (lv_at hl 0 rfl) ?_
        refine zo_get C B (Cn := RX3) (T := TX3) (N := 4) (v := .ref a) rfl inX3 0 (by decide) fl_X3_9 rfl rfl dX3_allWeights_15 ?_
        refine lv_iload_n C.1 C.2.1 dX3_allWeights_18 rfl (lv_at hl 2 rfl) ?_
        refine zo_lald C B (k) (by omega) (by omega) dX3_allWeights_19 ?_
        have q19 := B.1.2.2.2 (k)
        refine z_call C (c_J13_bitCount_95d88 l (c (k)) (by first | assumption | omega | rfl | exact decide_eq_false (by omega) | exact decide_eq_true (by assumption) | exact decide_eq_true (by omega) | exact one_shl33 (by omega) | exact pm_lt _ _ | exact rm_lt (by first | assumption | exact pm_lt _ _) | exact Nat.lt_of_le_of_lt (Nat.shiftRight_le _ _) (by assumption) | exact Nat.lt_of_le_of_lt Nat.and_le_right (by omega))) ml_X3_125 ⟨by decide, by decide⟩ ⟨Nat.le_of_ble_eq_true rfl, Nat.le_of_ble_eq_true rfl⟩ hl (Nat.le_of_ble_eq_true rfl) rfl dX3_allWeights_20 ?_
        have q20_0 := bc_rngE (c (k))
        refine z_iadd C dX3_allWeights_23 ?_
        refine lv_istore_n (lv' := [(1, .int (iZ ((x1) + (bc (c (k)))))), (0, .ref o), (2, .int (iZ (x2)))]) C.1 C.2.1 dX3_allWeights_24 rfl hl (by decide) rfl (fun ls hl => ?_)
        refine z_iinc (j := 2) (lv' := [(2, .int (iZ (x2 + 1))), (1, .int (iZ ((x1) + (bc (c (k)))))), (0, .ref o)]) C dX3_allWeights_25 hl rfl (by decide) rfl (fun ls hl => ?_)
        refine lv_goto (tgt := 4) C.1 C.2.1 dX3_allWeights_28 (by decide) ?_
        exact ih4 (k + 1) _ _ _ (by omega) (by omega) (by omega) (by rw [awF, i4_2]) (lv_sub hl [2, 1, 0] rfl)
  exact L4 _ (0) _ _ _ (by exact Nat.lt_succ_self _) (by rfl) (by omega) (by rfl) (lv_sub hl [2, 1, 0] rfl)

set_option maxHeartbeats 4000000 in
set_option maxRecDepth 100000 in
theorem c_X3_house (l : Launch) (D : va_G) (cJ : ClassId) (o a : Nat) (c : Nat → Nat) (ac : Int32) (re : Int32) (kn : Int32) (z : Int) (hz : 0 ≤ z ∧ z ≤ 4) : zA l yX3_house 2 64 0 0 D 2 cJ o a [.int (iZ (z))] c [.int (ac), .int (re), .int (kn)] (fun v => v = some (.int (hs3 c ac re kn z))) (c) [.int (ac), .int (re), .int (kn)] := by
  refine zA.intro (lo := 43) (nA := 1) (own := RX3) zi_X3_house (by decide) rfl rfl (by decide +kernel) rfl (Nat.le_of_ble_eq_true rfl) ?_
  intro p e s m below meth c0 ls C hr hk B hl
  have hl : lv_has ls 2 [(0, .ref o), (1, .int (iZ (z)))] := hl
  refine lv_iload_n C.1 C.2.1 dX3_house_0 rfl (lv_at hl 1 rfl) ?_
  refine z_iconst C dX3_house_1 ?_
  refine z_iconst C dX3_house_2 ?_
  refine z_callv C (c_X3_checkRange l (z) (0 : Int) (4 : Int) (by first | assumption | omega | rfl | exact decide_eq_false (by omega) | exact decide_eq_true (by assumption) | exact decide_eq_true (by omega) | exact one_shl33 (by omega) | exact pm_lt _ _ | exact rm_lt (by first | assumption | exact pm_lt _ _) | exact Nat.lt_of_le_of_lt (Nat.shiftRight_le _ _) (by assumption) | exact Nat.lt_of_le_of_lt Nat.and_le_right (by omega))) ml_X3_33 ⟨by decide, by decide⟩ ⟨Nat.le_of_ble_eq_true rfl, Nat.le_of_ble_eq_true rfl⟩ hl (Nat.le_of_ble_eq_true rfl) rfl dX3_house_3 ?_
  refine lv_iload_n C.1 C.2.1 dX3_house_6 rfl (lv_at hl 1 rfl) ?_
  by_cases hs : (z) = 0
  · refine z_tableIn (off := 29) (tgt := 36) C dX3_house_7 (by omega) (by omega) (by omega) (by rw [hs]; rfl) (by decide) ?_
    refine lv_aload_n C.1 C.2.1 dX3_house_36 rfl (lv_at hl 0 rfl) ?_
    refine zo_get C B (Cn := RX3) (T := TX3) (N := 4) (v := .int (ac)) rfl inX3 1 (by decide) fl_X3_13 rfl rfl dX3_house_37 ?_
    exact zo_iret C B hr hk (Nat.le_of_ble_eq_true rfl) (Nat.le_of_ble_eq_true rfl) dX3_house_40 (by rw [hs, hs3, if_pos rfl]) (by rfl) (by rfl)
  · skip
    by_cases hs : (z) = 1
    · refine z_tableIn (off := 34) (tgt := 41) C dX3_house_7 (by omega) (by omega) (by omega) (by rw [hs]; rfl) (by decide) ?_
      refine lv_aload_n C.1 C.2.1 dX3_house_41 rfl (lv_at hl 0 rfl) ?_
      refine zo_get C B (Cn := RX3) (T := TX3) (N := 4) (v := .int (re)) rfl inX3 2 (by decide) fl_X3_17 rfl rfl dX3_house_42 ?_
      exact zo_iret C B hr hk (Nat.le_of_ble_eq_true rfl) (Nat.le_of_ble_eq_true rfl) dX3_house_45 (by rw [hs, hs3, if_neg (by decide), if_pos rfl]) (by rfl) (by rfl)
    · skip
      by_cases hs : (z) = 2
      · refine z_tableIn (off := 39) (tgt := 46) C dX3_house_7 (by omega) (by omega) (by omega) (by rw [hs]; rfl) (by decide) ?_
        refine lv_aload_n C.1 C.2.1 dX3_house_46 rfl (lv_at hl 0 rfl) ?_
        refine zo_get C B (Cn := RX3) (T := TX3) (N := 4) (v := .int (kn)) rfl inX3 3 (by decide) fl_X3_20 rfl rfl dX3_house_47 ?_
        exact zo_iret C B hr hk (Nat.le_of_ble_eq_true rfl) (Nat.le_of_ble_eq_true rfl) dX3_house_50 (by rw [hs, hs3, if_neg (by decide), if_neg (by decide), if_pos rfl]) (by rfl) (by rfl)
      · skip
        by_cases hs : (z) = 3
        · refine z_tableIn (off := 44) (tgt := 51) C dX3_house_7 (by omega) (by omega) (by omega) (by rw [hs]; rfl) (by decide) ?_
          refine lv_aload_n C.1 C.2.1 dX3_house_51 rfl (lv_at hl 0 rfl) ?_
          refine zo_callD C B (r := some (.int (iZ (czF (c) 6)))) (c_X3_cellsWithZero l D cJ o a (c) (ac) (re) (kn)  ) ml_X3_163 rfl ⟨Nat.le_of_ble_eq_true rfl, Nat.le_of_ble_eq_true rfl⟩ ⟨Nat.le_of_ble_eq_true rfl, Nat.le_of_ble_eq_true rfl⟩ hl (Nat.le_of_ble_eq_true rfl) rfl dX3_house_52 (fun H locs B => ?_)
          exact zo_iret C B hr hk (Nat.le_of_ble_eq_true rfl) (Nat.le_of_ble_eq_true rfl) dX3_house_55 (by rw [hs, hs3, if_neg (by decide), if_neg (by decide), if_neg (by decide), if_pos rfl]) (by rfl) (by rfl)
        · skip
          refine z_tableOut (tgt := 56) C dX3_house_7 (by omega) (by omega) (by decide) ?_
          refine lv_aload_n C.1 C.2.1 dX3_house_56 rfl (lv_at hl 0 rfl) ?_
          refine zo_callD C B (r := some (.int (iZ (awF (c) 6)))) (c_X3_allWeights l D cJ o a (c) (ac) (re) (kn)  ) ml_X3_166 rfl ⟨Nat.le_of_ble_eq_true rfl, Nat.le_of_ble_eq_true rfl⟩ ⟨Nat.le_of_ble_eq_true rfl, Nat.le_of_ble_eq_true rfl⟩ hl (Nat.le_of_ble_eq_true rfl) rfl dX3_house_57 (fun H locs B => ?_)
          exact zo_iret C B hr hk (Nat.le_of_ble_eq_true rfl) (Nat.le_of_ble_eq_true rfl) dX3_house_60 (by rw [show z = 4 by omega, hs3, if_neg (by decide), if_neg (by decide), if_neg (by decide), if_neg (by decide)]) (by rfl) (by rfl)

set_option maxHeartbeats 4000000 in
set_option maxRecDepth 100000 in
theorem c_X3_knock (l : Launch) (D : va_G) (cJ : ClassId) (o a : Nat) (c : Nat → Nat) (ac : Int32) (re : Int32) (kn : Int32)  : zA l yX3_knock 0 20 0 0 D 2 cJ o a [] c [.int (ac), .int (re), .int (kn)] (fun v => v = some (.int (kn + iZ 1))) (c) [.int (ac), .int (re), .int (kn + iZ 1)] := by
  refine zA.intro (lo := 0) (nA := 0) (own := RX3) zi_X3_knock (by decide) rfl rfl (by decide +kernel) rfl (Nat.le_of_ble_eq_true rfl) ?_
  intro p e s m below meth c0 ls C hr hk B hl
  have hl : lv_has ls 1 [(0, .ref o)] := hl
  refine lv_aload_n C.1 C.2.1 dX3_knock_0 rfl (lv_at hl 0 rfl) ?_
  refine lv_dup C.1 C.2.1 dX3_knock_1 rfl ?_
  refine zo_get C B (Cn := RX3) (T := TX3) (N := 4) (v := .int (kn)) rfl inX3 3 (by decide) fl_X3_20 rfl rfl dX3_knock_2 ?_
  refine z_iconst C dX3_knock_5 ?_
  refine lv_iadd C.1 C.2.1 dX3_knock_6 ?_
  refine zo_put C B (Cn := RX3) (T := TX3) (N := 4) (fs2 := [.int (ac), .int (re), .int ((kn) + iZ (1))]) rfl inX3 tyX3 tyX3_ok nmX3 2 (by decide) fl_X3_20 rfl rfl (by decide +kernel) (Nat.le_of_ble_eq_true rfl) rfl dX3_knock_7 (fun H locs B => ?_)
  refine lv_aload_n C.1 C.2.1 dX3_knock_10 rfl (lv_at hl 0 rfl) ?_
  refine zo_get C B (Cn := RX3) (T := TX3) (N := 4) (v := .int ((kn) + iZ (1))) rfl inX3 3 (by decide) fl_X3_20 rfl rfl dX3_knock_11 ?_
  exact zo_iret C B hr hk (Nat.le_of_ble_eq_true rfl) (Nat.le_of_ble_eq_true rfl) dX3_knock_14 (by rfl) (by rfl) (by rfl)

set_option maxHeartbeats 4000000 in
set_option maxRecDepth 100000 in
theorem c_X3_isSound (l : Launch) (D : va_G) (cJ : ClassId) (o a : Nat) (c : Nat → Nat) (ac : Int32) (re : Int32) (kn : Int32)  : zA l yX3_isSound 4 143 0 0 D 2 cJ o a [] c [.int (ac), .int (re), .int (kn)] (fun v => v = some (.int (iZ (zB (so c))))) (c) [.int (ac), .int (re), .int (kn)] := by
  refine zA.intro (lo := 117) (nA := 0) (own := RX3) zi_X3_isSound (by decide) rfl rfl (by decide +kernel) rfl (Nat.le_of_ble_eq_true rfl) ?_
  intro p e s m below meth c0 ls C hr hk B hl
  have hl : lv_has ls 7 [(0, .ref o)] := hl
  refine z_iconst C dX3_isSound_0 ?_
  refine lv_istore_n (lv' := [(1, .int (iZ (0))), (0, .ref o)]) C.1 C.2.1 dX3_isSound_1 rfl hl (by decide) rfl (fun ls hl => ?_)
  have L2 : ∀ (j : Nat) (k : Nat) (x1 : Int) (ls : Array Slot), 6 - k < j → (x1 = (k : Int)) → (k ≤ 6) → (sdF c k = true) → lv_has ls 7 [(0, .ref o), (1, .int (iZ (x1)))] → W p l e { frames := 4, cells := 0, slots := 0, locals := 117 } s m (Value.ref o :: ([] : List Value)).toArray below meth c0 s.heap [] 0 0 (zE1 below D 2 cJ o a (Value.ref o :: ([] : List Value)).toArray s 0 0 (fun v => v = some (.int (iZ (zB (so c))))) (c) [.int (ac), .int (re), .int (kn)]) (F0 m 2 ls []) := by
    intro j
    induction j with
    | zero => intro k x1 ls hmu; exact absurd hmu (Nat.not_lt_zero _)
    | succ j ih2 =>
      intro k x1 ls hmu i2_0 i2_1 i2_2 hl
      refine lv_iload_n C.1 C.2.1 dX3_isSound_2 rfl (lv_at hl 1 rfl) ?_
      refine lv_aload_n C.1 C.2.1 dX3_isSound_3 rfl (lv_at hl 0 rfl) ?_
      refine zo_get C B (Cn := RX3) (T := TX3) (N := 4) (v := .ref a) rfl inX3 0 (by decide) fl_X3_9 rfl rfl dX3_isSound_4 ?_
      refine zo_alen C B dX3_isSound_7 ?_
      refine z_icmp_ge (tgt := 48) C (by omega) (by omega) dX3_isSound_8 (by decide) (fun h8 => ?_) (fun h8 => ?_)
      · refine lv_aload_n C.1 C.2.1 dX3_isSound_48 rfl (lv_at hl 0 rfl) ?_
        refine z_iconst C dX3_isSound_49 ?_
        refine zo_callD C B (r := some (.long (lN ((c) 0)))) (c_X3_polyIn l D cJ o a (c) (ac) (re) (kn) (0 : Int) (by first | assumption | omega | rfl | exact decide_eq_false (by omega) | exact decide_eq_true (by assumption) | exact decide_eq_true (by omega) | exact one_shl33 (by omega) | exact pm_lt _ _ | exact rm_lt (by first | assumption | exact pm_lt _ _) | exact Nat.lt_of_le_of_lt (Nat.shiftRight_le _ _) (by assumption) | exact Nat.lt_of_le_of_lt Nat.and_le_right (by omega))) ml_X3_43 rfl ⟨Nat.le_of_ble_eq_true rfl, Nat.le_of_ble_eq_true rfl⟩ ⟨Nat.le_of_ble_eq_true rfl, Nat.le_of_ble_eq_true rfl⟩ hl (Nat.le_of_ble_eq_true rfl) rfl dX3_isSound_50 (fun H locs B => ?_)
        have q50_0 := B.1.2.2.2 ((0 : Int)).toNat
        refine lv_lstore_n (lv' := [(1, .long (lN ((c) 0))), (0, .ref o)]) C.1 C.2.1 dX3_isSound_53 rfl hl (by decide) rfl (fun ls hl => ?_)
        refine lv_aload_n C.1 C.2.1 dX3_isSound_54 rfl (lv_at hl 1 rfl) ?_
        refine z_iconst C dX3_isSound_55 ?_
        refine zo_callD C B (r := some (.long (lN ((c) 1)))) (c_X3_polyIn l D cJ o a (c) ((ac)) ((re)) ((kn)) (1 : Int) (by first | assumption | omega | rfl | exact decide_eq_false (by omega) | exact decide_eq_true (by assumption) | exact decide_eq_true (by omega) | exact one_shl33 (by omega) | exact pm_lt _ _ | exact rm_lt (by first | assumption | exact pm_lt _ _) | exact Nat.lt_of_le_of_lt (Nat.shiftRight_le _ _) (by assumption) | exact Nat.lt_of_le_of_lt Nat.and_le_right (by omega))) ml_X3_43 rfl ⟨Nat.le_of_ble_eq_true rfl, Nat.le_of_ble_eq_true rfl⟩ ⟨Nat.le_of_ble_eq_true rfl, Nat.le_of_ble_eq_true rfl⟩ hl (Nat.le_of_ble_eq_true rfl) rfl dX3_isSound_56 (fun H locs B => ?_)
        have q56_0 := B.1.2.2.2 ((1 : Int)).toNat
        refine lv_lstore_n (lv' := [(3, .long (lN ((c) 1))), (1, .long (lN ((c) 0))), (0, .ref o)]) C.1 C.2.1 dX3_isSound_59 rfl hl (by decide) rfl (fun ls hl => ?_)
        have g0 : c 0 < 8589934592 := B.1.2.2.2 0
        have g1 : c 1 < 8589934592 := B.1.2.2.2 1
        refine lv_lload_n C.1 C.2.1 dX3_isSound_60 rfl (lv_at hl 1 rfl) ?_
        refine lv_lload_n C.1 C.2.1 dX3_isSound_61 rfl (lv_at hl 1 rfl) ?_
        refine lv_lload_n C.1 C.2.1 dX3_isSound_62 rfl (lv_at hl 0 rfl) ?_
        refine z_call C (c_X1_firstBezout l ((c) 0) ((c) 1) (by first | assumption | omega | rfl | exact decide_eq_false (by omega) | exact decide_eq_true (by assumption) | exact decide_eq_true (by omega) | exact one_shl33 (by omega) | exact pm_lt _ _ | exact rm_lt (by first | assumption | exact pm_lt _ _) | exact Nat.lt_of_le_of_lt (Nat.shiftRight_le _ _) (by assumption) | exact Nat.lt_of_le_of_lt Nat.and_le_right (by omega)) (by first | assumption | omega | rfl | exact decide_eq_false (by omega) | exact decide_eq_true (by assumption) | exact decide_eq_true (by omega) | exact one_shl33 (by omega) | exact pm_lt _ _ | exact rm_lt (by first | assumption | exact pm_lt _ _) | exact Nat.lt_of_le_of_lt (Nat.shiftRight_le _ _) (by assumption) | exact Nat.lt_of_le_of_lt Nat.and_le_right (by omega))) ml_X3_86 ⟨by decide, by decide⟩ ⟨Nat.le_of_ble_eq_true rfl, Nat.le_of_ble_eq_true rfl⟩ hl (Nat.le_of_ble_eq_true rfl) rfl dX3_isSound_63 ?_
        have q63_0 := eu_ltE ((c) 0) ((c) 1) 1 0 (by first | assumption | omega | exact dv_lt _) (by first | assumption | omega | exact dv_lt _)
        refine z_call C (c_X1_product l ((c) 0) (eu ((c) 0) ((c) 1) 1 0) (by exact eu_ltE _ _ _ _ (by omega) (by omega))) ml_X3_169 ⟨by decide, by decide⟩ ⟨Nat.le_of_ble_eq_true rfl, Nat.le_of_ble_eq_true rfl⟩ hl (Nat.le_of_ble_eq_true rfl) rfl dX3_isSound_66 ?_
        refine lv_lload_n C.1 C.2.1 dX3_isSound_69 rfl (lv_at hl 0 rfl) ?_
        refine lv_lload_n C.1 C.2.1 dX3_isSound_70 rfl (lv_at hl 1 rfl) ?_
        refine lv_lload_n C.1 C.2.1 dX3_isSound_71 rfl (lv_at hl 0 rfl) ?_
        refine z_call C (c_X1_secondBezout l ((c) 0) ((c) 1) (by first | assumption | omega | rfl | exact decide_eq_false (by omega) | exact decide_eq_true (by assumption) | exact decide_eq_true (by omega) | exact one_shl33 (by omega) | exact pm_lt _ _ | exact rm_lt (by first | assumption | exact pm_lt _ _) | exact Nat.lt_of_le_of_lt (Nat.shiftRight_le _ _) (by assumption) | exact Nat.lt_of_le_of_lt Nat.and_le_right (by omega)) (by first | assumption | omega | rfl | exact decide_eq_false (by omega) | exact decide_eq_true (by assumption) | exact decide_eq_true (by omega) | exact one_shl33 (by omega) | exact pm_lt _ _ | exact rm_lt (by first | assumption | exact pm_lt _ _) | exact Nat.lt_of_le_of_lt (Nat.shiftRight_le _ _) (by assumption) | exact Nat.lt_of_le_of_lt Nat.and_le_right (by omega))) ml_X3_89 ⟨by decide, by decide⟩ ⟨Nat.le_of_ble_eq_true rfl, Nat.le_of_ble_eq_true rfl⟩ hl (Nat.le_of_ble_eq_true rfl) rfl dX3_isSound_72 ?_
        have q72_0 := eu_ltE ((c) 0) ((c) 1) 0 1 (by first | assumption | omega | exact dv_lt _) (by first | assumption | omega | exact dv_lt _)
        refine z_call C (c_X1_product l ((c) 1) (eu ((c) 0) ((c) 1) 0 1) (by exact eu_ltE _ _ _ _ (by omega) (by omega))) ml_X3_169 ⟨by decide, by decide⟩ ⟨Nat.le_of_ble_eq_true rfl, Nat.le_of_ble_eq_true rfl⟩ hl (Nat.le_of_ble_eq_true rfl) rfl dX3_isSound_75 ?_
        refine z_lxor C dX3_isSound_78 ?_
        refine lv_lstore (lv' := [(5, .long (lN ((pm ((c) 0) (eu ((c) 0) ((c) 1) 1 0)) ^^^ (pm ((c) 1) (eu ((c) 0) ((c) 1) 0 1))))), (3, .long (lN ((c) 1))), (1, .long (lN ((c) 0))), (0, .ref o)]) C.1 C.2.1 dX3_isSound_79 hl (by decide) rfl (fun ls hl => ?_)
        refine lv_lload_n C.1 C.2.1 dX3_isSound_81 rfl (lv_at hl 2 rfl) ?_
        refine lv_lload_n C.1 C.2.1 dX3_isSound_82 rfl (lv_at hl 1 rfl) ?_
        refine z_call C (c_X1_gcdOf l ((c) 0) ((c) 1) (by first | assumption | omega | rfl | exact decide_eq_false (by omega) | exact decide_eq_true (by assumption) | exact decide_eq_true (by omega) | exact one_shl33 (by omega) | exact pm_lt _ _ | exact rm_lt (by first | assumption | exact pm_lt _ _) | exact Nat.lt_of_le_of_lt (Nat.shiftRight_le _ _) (by assumption) | exact Nat.lt_of_le_of_lt Nat.and_le_right (by omega)) (by first | assumption | omega | rfl | exact decide_eq_false (by omega) | exact decide_eq_true (by assumption) | exact decide_eq_true (by omega) | exact one_shl33 (by omega) | exact pm_lt _ _ | exact rm_lt (by first | assumption | exact pm_lt _ _) | exact Nat.lt_of_le_of_lt (Nat.shiftRight_le _ _) (by assumption) | exact Nat.lt_of_le_of_lt Nat.and_le_right (by omega))) ml_X3_83 ⟨by decide, by decide⟩ ⟨Nat.le_of_ble_eq_true rfl, Nat.le_of_ble_eq_true rfl⟩ hl (Nat.le_of_ble_eq_true rfl) rfl dX3_isSound_83 ?_
        have q83_0 := eu_ltE ((c) 0) ((c) 1) ((c) 0) ((c) 1) (by first | assumption | omega | exact dv_lt _) (by first | assumption | omega | exact dv_lt _)
        refine lv_lload C.1 C.2.1 dX3_isSound_86 (lv_at hl 0 rfl) ?_
        refine z_lc_ne (tgt := 96) C (by exact eu_ltE _ _ _ _ (by omega) (by omega)) (by exact xor64 (pm_lt _ _) (pm_lt _ _)) dX3_isSound_88 dX3_isSound_89 (by decide) (fun h88 => ?_) (fun h88 => ?_)
        · refine z_iconst C dX3_isSound_96 ?_
          exact zo_zret C B hr hk (Nat.le_of_ble_eq_true rfl) (Nat.le_of_ble_eq_true rfl) dX3_isSound_97 (by decide) (by exact congrArg (fun z : Int => some (Value.int (iZ z))) (by exact zB_f (by rw [so, decide_eq_false h88, Bool.and_false]))) (by rfl) (by rfl)
        · refine z_iconst C dX3_isSound_92 ?_
          refine lv_goto (tgt := 97) C.1 C.2.1 dX3_isSound_93 (by decide) ?_
          exact zo_zret C B hr hk (Nat.le_of_ble_eq_true rfl) (Nat.le_of_ble_eq_true rfl) dX3_isSound_97 (by decide) (by exact congrArg (fun z : Int => some (Value.int (iZ z))) (by exact zB_t (by rw [so, decide_eq_true h88, show 6 = k by omega, i2_2]; rfl))) (by rfl) (by rfl)
      · refine lv_aload_n C.1 C.2.1 dX3_isSound_11 rfl (lv_at hl 0 rfl) ?_
        refine zo_get C B (Cn := RX3) (T := TX3) (N := 4) (v := .ref a) rfl inX3 0 (by decide) fl_X3_9 rfl rfl dX3_isSound_12 ?_
        refine lv_iload_n C.1 C.2.1 dX3_isSound_15 rfl (lv_at hl 1 rfl) ?_
        refine zo_lald C B (k) (by omega) (by omega) dX3_isSound_16 ?_
        have q16 := B.1.2.2.2 (k)
        refine z_call C (c_X1_topPlace l (c (k)) (by first | assumption | omega | rfl | exact decide_eq_false (by omega) | exact decide_eq_true (by assumption) | exact decide_eq_true (by omega) | exact one_shl33 (by omega) | exact pm_lt _ _ | exact rm_lt (by first | assumption | exact pm_lt _ _) | exact Nat.lt_of_le_of_lt (Nat.shiftRight_le _ _) (by assumption) | exact Nat.lt_of_le_of_lt Nat.and_le_right (by omega))) ml_X3_69 ⟨by decide, by decide⟩ ⟨Nat.le_of_ble_eq_true rfl, Nat.le_of_ble_eq_true rfl⟩ hl (Nat.le_of_ble_eq_true rfl) rfl dX3_isSound_17 ?_
        have q17_0 := tp_rngE (c (k)) (by first | assumption | omega)
        refine lv_istore_n (lv' := [(2, .int (iZ (tp (c (k))))), (0, .ref o), (1, .int (iZ (x1)))]) C.1 C.2.1 dX3_isSound_20 rfl hl (by decide) rfl (fun ls hl => ?_)
        refine lv_iload_n C.1 C.2.1 dX3_isSound_21 rfl (lv_at hl 0 rfl) ?_
        refine z_bipush C dX3_isSound_22 (by decide) ?_
        refine z_icmp_gt (tgt := 40) C (by omega) (by omega) dX3_isSound_24 (by decide) (fun h24 => ?_) (fun h24 => ?_)
        · refine z_iconst C dX3_isSound_40 ?_
          exact zo_zret C B hr hk (Nat.le_of_ble_eq_true rfl) (Nat.le_of_ble_eq_true rfl) dX3_isSound_41 (by decide) (by exact congrArg (fun z : Int => some (Value.int (iZ z))) (by exact zB_f (by rw [so]; rw [show 6 = (k + 1) + (5 - k) by omega, sdF_f (by rw [sdF, i2_2, decide_eq_false (by omega)]; rfl)]; rfl))) (by rfl) (by rfl)
        · refine lv_aload_n C.1 C.2.1 dX3_isSound_27 rfl (lv_at hl 1 rfl) ?_
          refine zo_get C B (Cn := RX3) (T := TX3) (N := 4) (v := .ref a) rfl inX3 0 (by decide) fl_X3_9 rfl rfl dX3_isSound_28 ?_
          refine lv_iload_n C.1 C.2.1 dX3_isSound_31 rfl (lv_at hl 2 rfl) ?_
          refine zo_lald C B (k) (by omega) (by omega) dX3_isSound_32 ?_
          have q32 := B.1.2.2.2 (k)
          refine z_call C (c_X1_bottomPlace l (c (k)) (by first | assumption | omega | rfl | exact decide_eq_false (by omega) | exact decide_eq_true (by assumption) | exact decide_eq_true (by omega) | exact one_shl33 (by omega) | exact pm_lt _ _ | exact rm_lt (by first | assumption | exact pm_lt _ _) | exact Nat.lt_of_le_of_lt (Nat.shiftRight_le _ _) (by assumption) | exact Nat.lt_of_le_of_lt Nat.and_le_right (by omega))) ml_X3_122 ⟨by decide, by decide⟩ ⟨Nat.le_of_ble_eq_true rfl, Nat.le_of_ble_eq_true rfl⟩ hl (Nat.le_of_ble_eq_true rfl) rfl dX3_isSound_33 ?_
          have q33_0 := bp_rng (c (k))
          refine lv_iload_n C.1 C.2.1 dX3_isSound_36 rfl (lv_at hl 0 rfl) ?_
          refine z_icmp_le (tgt := 42) C (by omega) (by omega) dX3_isSound_37 (by decide) (fun h37 => ?_) (fun h37 => ?_)
          · refine z_iinc (j := 2) (lv' := [(1, .int (iZ (x1 + 1))), (2, .int (iZ (tp (c (k))))), (0, .ref o)]) C dX3_isSound_42 hl rfl (by decide) rfl (fun ls hl => ?_)
            refine lv_goto (tgt := 2) C.1 C.2.1 dX3_isSound_45 (by decide) ?_
            exact ih2 (k + 1) _ _ (by omega) (by omega) (by omega) (by rw [sdF, i2_2, decide_eq_true (by omega)]; rfl) (lv_sub hl [2, 0] rfl)
          · refine z_iconst C dX3_isSound_40 ?_
            exact zo_zret C B hr hk (Nat.le_of_ble_eq_true rfl) (Nat.le_of_ble_eq_true rfl) dX3_isSound_41 (by decide) (by exact congrArg (fun z : Int => some (Value.int (iZ z))) (by exact zB_f (by rw [so]; rw [show 6 = (k + 1) + (5 - k) by omega, sdF_f (by rw [sdF, i2_2, decide_eq_false (by omega)]; rfl)]; rfl))) (by rfl) (by rfl)
  exact L2 _ (0) _ _ (by exact Nat.lt_succ_self _) (by rfl) (by omega) (by rfl) (lv_sub hl [1, 0] rfl)

set_option maxHeartbeats 4000000 in
set_option maxRecDepth 100000 in
theorem c_X3_digest (l : Launch) (D : va_G) (cJ : ClassId) (o a : Nat) (c : Nat → Nat) (ac : Int32) (re : Int32) (kn : Int32)  : zA l yX3_digest 5 166 0 0 D 2 cJ o a [] c [.int (ac), .int (re), .int (kn)] (fun v => v = some (.long (dgs c ac re kn))) (c) [.int (ac), .int (re), .int (kn)] := by
  refine zA.intro (lo := 143) (nA := 0) (own := RX3) zi_X3_digest (by decide) rfl rfl (by decide +kernel) rfl (Nat.le_of_ble_eq_true rfl) ?_
  intro p e s m below meth c0 ls C hr hk B hl
  have hl : lv_has ls 4 [(0, .ref o)] := hl
  refine z_ldc2 C 7686 (T0_of kl_X3_172 rfl) (by decide) dX3_digest_0 ?_
  refine lv_lstore_n (lv' := [(1, .long (lN (7686))), (0, .ref o)]) C.1 C.2.1 dX3_digest_3 rfl hl (by decide) rfl (fun ls hl => ?_)
  refine z_iconst C dX3_digest_4 ?_
  refine lv_istore_n (lv' := [(3, .int (iZ (0))), (1, .long (lN (7686))), (0, .ref o)]) C.1 C.2.1 dX3_digest_5 rfl hl (by decide) rfl (fun ls hl => ?_)
  have L6 : ∀ (j : Nat) (k : Nat) (x1 : Int64) (x3 : Int) (H : Heap) (locs : List Loc) (ls : Array Slot), 6 - k < j → (x3 = (k : Int)) → (k ≤ 6) → (x1 = dcF c k) → zIn D 2 cJ o a c [.int (ac), .int (re), .int (kn)] s H locs → lv_has ls 4 [(0, .ref o), (1, .long (x1)), (3, .int (iZ (x3)))] → W p l e { frames := 5, cells := 0, slots := 0, locals := 143 } s m (Value.ref o :: ([] : List Value)).toArray below meth c0 H locs 0 0 (zE1 below D 2 cJ o a (Value.ref o :: ([] : List Value)).toArray s 0 0 (fun v => v = some (.long (dgs c ac re kn))) (c) [.int (ac), .int (re), .int (kn)]) (F0 m 6 ls []) := by
    intro j
    induction j with
    | zero => intro k x1 x3 H locs ls hmu; exact absurd hmu (Nat.not_lt_zero _)
    | succ j ih6 =>
      intro k x1 x3 H locs ls hmu i6_0 i6_1 i6_2 B hl
      refine lv_iload_n C.1 C.2.1 dX3_digest_6 rfl (lv_at hl 2 rfl) ?_
      refine z_bipush C dX3_digest_7 (by decide) ?_
      refine z_icmp_ge (tgt := 84) C (by omega) (by omega) dX3_digest_9 (by decide) (fun h9 => ?_) (fun h9 => ?_)
      · refine z_iconst C dX3_digest_84 ?_
        refine lv_istore_n (lv' := [(3, .int (iZ (0))), (0, .ref o), (1, .long (x1))]) C.1 C.2.1 dX3_digest_85 rfl hl (by decide) rfl (fun ls hl => ?_)
        have L86 : ∀ (j : Nat) (k : Nat) (x1 : Int64) (x3 : Int) (H : Heap) (locs : List Loc) (ls : Array Slot), 5 - k < j → (x3 = (k : Int)) → (k ≤ 5) → (x1 = doF c k) → zIn D 2 cJ o a c [.int (ac), .int (re), .int (kn)] s H locs → lv_has ls 4 [(0, .ref o), (1, .long (x1)), (3, .int (iZ (x3)))] → W p l e { frames := 5, cells := 0, slots := 0, locals := 143 } s m (Value.ref o :: ([] : List Value)).toArray below meth c0 H locs 0 0 (zE1 below D 2 cJ o a (Value.ref o :: ([] : List Value)).toArray s 0 0 (fun v => v = some (.long (dgs c ac re kn))) (c) [.int (ac), .int (re), .int (kn)]) (F0 m 86 ls []) := by
          intro j
          induction j with
          | zero => intro k x1 x3 H locs ls hmu; exact absurd hmu (Nat.not_lt_zero _)
          | succ j ih86 =>
            intro k x1 x3 H locs ls hmu i86_0 i86_1 i86_2 B hl
            refine lv_iload_n C.1 C.2.1 dX3_digest_86 rfl (lv_at hl 2 rfl) ?_
            refine z_iconst C dX3_digest_87 ?_
            refine z_iadd C dX3_digest_88 ?_
            refine z_bipush C dX3_digest_89 (by decide) ?_
            refine z_icmp_ge (tgt := 116) C (by omega) (by omega) dX3_digest_91 (by decide) (fun h91 => ?_) (fun h91 => ?_)
            · refine z_iconst C dX3_digest_116 ?_
              refine lv_istore_n (lv' := [(3, .int (iZ (0))), (0, .ref o), (1, .long (x1))]) C.1 C.2.1 dX3_digest_117 rfl hl (by decide) rfl (fun ls hl => ?_)
              have L118 : ∀ (j : Nat) (k : Nat) (x1 : Int64) (x3 : Int) (H : Heap) (locs : List Loc) (ls : Array Slot), 5 - k < j → (x3 = (k : Int)) → (k ≤ 5) → (x1 = dhF c ac re kn k) → zIn D 2 cJ o a c [.int (ac), .int (re), .int (kn)] s H locs → lv_has ls 4 [(0, .ref o), (1, .long (x1)), (3, .int (iZ (x3)))] → W p l e { frames := 5, cells := 0, slots := 0, locals := 143 } s m (Value.ref o :: ([] : List Value)).toArray below meth c0 H locs 0 0 (zE1 below D 2 cJ o a (Value.ref o :: ([] : List Value)).toArray s 0 0 (fun v => v = some (.long (dgs c ac re kn))) (c) [.int (ac), .int (re), .int (kn)]) (F0 m 118 ls []) := by
                intro j
                induction j with
                | zero => intro k x1 x3 H locs ls hmu; exact absurd hmu (Nat.not_lt_zero _)
                | succ j ih118 =>
                  intro k x1 x3 H locs ls hmu i118_0 i118_1 i118_2 B hl
                  refine lv_iload_n C.1 C.2.1 dX3_digest_118 rfl (lv_at hl 2 rfl) ?_
                  refine z_iconst C dX3_digest_119 ?_
                  refine z_icmp_gt (tgt := 142) C (by omega) (by omega) dX3_digest_120 (by decide) (fun h120 => ?_) (fun h120 => ?_)
                  · refine lv_lload_n C.1 C.2.1 dX3_digest_142 rfl (lv_at hl 1 rfl) ?_
                    refine z_ldc2 C 31 (T0_of kl_X3_174 rfl) (by decide) dX3_digest_143 ?_
                    refine lv_lmul C.1 C.2.1 dX3_digest_146 ?_
                    refine lv_aload_n C.1 C.2.1 dX3_digest_147 rfl (lv_at hl 0 rfl) ?_
                    refine zo_callD C B (r := some (.int (iZ (zB (so (c)))))) (c_X3_isSound l D cJ o a (c) (ac) (re) (kn)  ) ml_X3_199 rfl ⟨Nat.le_of_ble_eq_true rfl, Nat.le_of_ble_eq_true rfl⟩ ⟨Nat.le_of_ble_eq_true rfl, Nat.le_of_ble_eq_true rfl⟩ hl (Nat.le_of_ble_eq_true rfl) rfl dX3_digest_148 (fun H locs B => ?_)
                    refine z_ifB_eq (tgt := 158) C dX3_digest_151 (by decide) (fun h151 => ?_) (fun h151 => ?_)
                    · refine z_iconst C dX3_digest_158 ?_
                      refine lv_i2l C.1 C.2.1 dX3_digest_159 rfl ?_
                      refine lv_ladd C.1 C.2.1 dX3_digest_160 ?_
                      exact zo_lret C B hr hk (Nat.le_of_ble_eq_true rfl) (Nat.le_of_ble_eq_true rfl) dX3_digest_161 (by subst i118_2; rw [dgs, h151, show k = 5 by omega]; rfl) (by rfl) (by rfl)
                    · refine z_iconst C dX3_digest_154 ?_
                      refine lv_goto (tgt := 159) C.1 C.2.1 dX3_digest_155 (by decide) ?_
                      refine lv_i2l C.1 C.2.1 dX3_digest_159 rfl ?_
                      refine lv_ladd C.1 C.2.1 dX3_digest_160 ?_
                      exact zo_lret C B hr hk (Nat.le_of_ble_eq_true rfl) (Nat.le_of_ble_eq_true rfl) dX3_digest_161 (by subst i118_2; rw [dgs, h151, show k = 5 by omega]; rfl) (by rfl) (by rfl)
                  · refine lv_lload_n C.1 C.2.1 dX3_digest_123 rfl (lv_at hl 1 rfl) ?_
                    refine z_ldc2 C 31 (T0_of kl_X3_174 rfl) (by decide) dX3_digest_124 ?_
                    refine lv_lmul C.1 C.2.1 dX3_digest_127 ?_
                    refine lv_aload_n C.1 C.2.1 dX3_digest_128 rfl (lv_at hl 0 rfl) ?_
                    refine lv_iload_n C.1 C.2.1 dX3_digest_129 rfl (lv_at hl 2 rfl) ?_
                    refine zo_callD C B (r := some (.int (hs3 (c) (ac) (re) (kn) (x3)))) (c_X3_house l D cJ o a (c) (ac) (re) (kn) (x3) (by first | assumption | omega | rfl | exact decide_eq_false (by omega) | exact decide_eq_true (by assumption) | exact decide_eq_true (by omega) | exact one_shl33 (by omega) | exact pm_lt _ _ | exact rm_lt (by first | assumption | exact pm_lt _ _) | exact Nat.lt_of_le_of_lt (Nat.shiftRight_le _ _) (by assumption) | exact Nat.lt_of_le_of_lt Nat.and_le_right (by omega))) ml_X3_196 rfl ⟨Nat.le_of_ble_eq_true rfl, Nat.le_of_ble_eq_true rfl⟩ ⟨Nat.le_of_ble_eq_true rfl, Nat.le_of_ble_eq_true rfl⟩ hl (Nat.le_of_ble_eq_true rfl) rfl dX3_digest_130 (fun H locs B => ?_)
                    refine lv_i2l C.1 C.2.1 dX3_digest_133 rfl ?_
                    refine lv_ladd C.1 C.2.1 dX3_digest_134 ?_
                    refine lv_lstore_n (lv' := [(1, .long (((x1) * lN (31)) + (hs3 (c) (ac) (re) (kn) (x3)).toInt64)), (0, .ref o), (3, .int (iZ (x3)))]) C.1 C.2.1 dX3_digest_135 rfl hl (by decide) rfl (fun ls hl => ?_)
                    refine z_iinc (j := 2) (lv' := [(3, .int (iZ (x3 + 1))), (1, .long (((x1) * lN (31)) + (hs3 (c) (ac) (re) (kn) (x3)).toInt64)), (0, .ref o)]) C dX3_digest_136 hl rfl (by decide) rfl (fun ls hl => ?_)
                    refine lv_goto (tgt := 118) C.1 C.2.1 dX3_digest_139 (by decide) ?_
                    exact ih118 (k + 1) _ _ _ _ _ (by omega) (by omega) (by omega) (by subst i118_0 i118_2; rfl) B (lv_sub hl [2, 1, 0] rfl)
              exact L118 _ (0) _ _ _ _ _ (by exact Nat.lt_succ_self _) (by rfl) (by omega) (by subst i86_2; rw [show k = 5 by omega]; rfl) B (lv_sub hl [1, 2, 0] rfl)
            · refine lv_lload_n C.1 C.2.1 dX3_digest_94 rfl (lv_at hl 1 rfl) ?_
              refine z_ldc2 C 31 (T0_of kl_X3_174 rfl) (by decide) dX3_digest_95 ?_
              refine lv_lmul C.1 C.2.1 dX3_digest_98 ?_
              refine lv_aload_n C.1 C.2.1 dX3_digest_99 rfl (lv_at hl 0 rfl) ?_
              refine lv_iload_n C.1 C.2.1 dX3_digest_100 rfl (lv_at hl 2 rfl) ?_
              refine lv_iload_n C.1 C.2.1 dX3_digest_101 rfl (lv_at hl 2 rfl) ?_
              refine z_iconst C dX3_digest_102 ?_
              refine z_iadd C dX3_digest_103 ?_
              refine zo_callD C B (r := some (.int (iZ (od ((c) (x3).toNat) ((c) ((x3) + (1)).toNat))))) (c_X3_order l D cJ o a (c) (ac) (re) (kn) (x3) ((x3) + (1)) (by first | assumption | omega | rfl | exact decide_eq_false (by omega) | exact decide_eq_true (by assumption) | exact decide_eq_true (by omega) | exact one_shl33 (by omega) | exact pm_lt _ _ | exact rm_lt (by first | assumption | exact pm_lt _ _) | exact Nat.lt_of_le_of_lt (Nat.shiftRight_le _ _) (by assumption) | exact Nat.lt_of_le_of_lt Nat.and_le_right (by omega)) (by first | assumption | omega | rfl | exact decide_eq_false (by omega) | exact decide_eq_true (by assumption) | exact decide_eq_true (by omega) | exact one_shl33 (by omega) | exact pm_lt _ _ | exact rm_lt (by first | assumption | exact pm_lt _ _) | exact Nat.lt_of_le_of_lt (Nat.shiftRight_le _ _) (by assumption) | exact Nat.lt_of_le_of_lt Nat.and_le_right (by omega))) ml_X3_192 rfl ⟨Nat.le_of_ble_eq_true rfl, Nat.le_of_ble_eq_true rfl⟩ ⟨Nat.le_of_ble_eq_true rfl, Nat.le_of_ble_eq_true rfl⟩ hl (Nat.le_of_ble_eq_true rfl) rfl dX3_digest_104 (fun H locs B => ?_)
              refine lv_i2l C.1 C.2.1 dX3_digest_107 rfl ?_
              refine lv_ladd C.1 C.2.1 dX3_digest_108 ?_
              refine lv_lstore_n (lv' := [(1, .long (((x1) * lN (31)) + (iZ (od ((c) (x3).toNat) ((c) ((x3) + (1)).toNat))).toInt64)), (0, .ref o), (3, .int (iZ (x3)))]) C.1 C.2.1 dX3_digest_109 rfl hl (by decide) rfl (fun ls hl => ?_)
              refine z_iinc (j := 2) (lv' := [(3, .int (iZ (x3 + 1))), (1, .long (((x1) * lN (31)) + (iZ (od ((c) (x3).toNat) ((c) ((x3) + (1)).toNat))).toInt64)), (0, .ref o)]) C dX3_digest_110 hl rfl (by decide) rfl (fun ls hl => ?_)
              refine lv_goto (tgt := 86) C.1 C.2.1 dX3_digest_113 (by decide) ?_
              exact ih86 (k + 1) _ _ _ _ _ (by omega) (by omega) (by omega) (by subst i86_0 i86_2; rfl) B (lv_sub hl [2, 1, 0] rfl)
        exact L86 _ (0) _ _ _ _ _ (by exact Nat.lt_succ_self _) (by rfl) (by omega) (by subst i6_2; rw [show k = 6 by omega]; rfl) B (lv_sub hl [1, 2, 0] rfl)
      · refine lv_lload_n C.1 C.2.1 dX3_digest_12 rfl (lv_at hl 1 rfl) ?_
        refine z_ldc2 C 31 (T0_of kl_X3_174 rfl) (by decide) dX3_digest_13 ?_
        refine lv_lmul C.1 C.2.1 dX3_digest_16 ?_
        refine lv_aload_n C.1 C.2.1 dX3_digest_17 rfl (lv_at hl 0 rfl) ?_
        refine lv_iload_n C.1 C.2.1 dX3_digest_18 rfl (lv_at hl 2 rfl) ?_
        refine zo_callD C B (r := some (.int (iZ ((((c) (x3).toNat : Nat) : Int))))) (c_X3_digits l D cJ o a (c) (ac) (re) (kn) (x3) (by first | assumption | omega | rfl | exact decide_eq_false (by omega) | exact decide_eq_true (by assumption) | exact decide_eq_true (by omega) | exact one_shl33 (by omega) | exact pm_lt _ _ | exact rm_lt (by first | assumption | exact pm_lt _ _) | exact Nat.lt_of_le_of_lt (Nat.shiftRight_le _ _) (by assumption) | exact Nat.lt_of_le_of_lt Nat.and_le_right (by omega))) ml_X3_176 rfl ⟨Nat.le_of_ble_eq_true rfl, Nat.le_of_ble_eq_true rfl⟩ ⟨Nat.le_of_ble_eq_true rfl, Nat.le_of_ble_eq_true rfl⟩ hl (Nat.le_of_ble_eq_true rfl) rfl dX3_digest_19 (fun H locs B => ?_)
        refine lv_i2l C.1 C.2.1 dX3_digest_22 rfl ?_
        refine lv_ladd C.1 C.2.1 dX3_digest_23 ?_
        refine lv_lstore_n (lv' := [(1, .long (((x1) * lN (31)) + (iZ ((((c) (x3).toNat : Nat) : Int))).toInt64)), (0, .ref o), (3, .int (iZ (x3)))]) C.1 C.2.1 dX3_digest_24 rfl hl (by decide) rfl (fun ls hl => ?_)
        refine lv_lload_n C.1 C.2.1 dX3_digest_25 rfl (lv_at hl 0 rfl) ?_
        refine z_ldc2 C 31 (T0_of kl_X3_174 rfl) (by decide) dX3_digest_26 ?_
        refine lv_lmul C.1 C.2.1 dX3_digest_29 ?_
        refine lv_aload_n C.1 C.2.1 dX3_digest_30 rfl (lv_at hl 1 rfl) ?_
        refine lv_iload_n C.1 C.2.1 dX3_digest_31 rfl (lv_at hl 2 rfl) ?_
        refine zo_callD C B (r := some (.int (iZ (tp ((c) (x3).toNat))))) (c_X3_degree l D cJ o a (c) ((ac)) ((re)) ((kn)) (x3) (by first | assumption | omega | rfl | exact decide_eq_false (by omega) | exact decide_eq_true (by assumption) | exact decide_eq_true (by omega) | exact one_shl33 (by omega) | exact pm_lt _ _ | exact rm_lt (by first | assumption | exact pm_lt _ _) | exact Nat.lt_of_le_of_lt (Nat.shiftRight_le _ _) (by assumption) | exact Nat.lt_of_le_of_lt Nat.and_le_right (by omega))) ml_X3_179 rfl ⟨Nat.le_of_ble_eq_true rfl, Nat.le_of_ble_eq_true rfl⟩ ⟨Nat.le_of_ble_eq_true rfl, Nat.le_of_ble_eq_true rfl⟩ hl (Nat.le_of_ble_eq_true rfl) rfl dX3_digest_32 (fun H locs B => ?_)
        refine lv_i2l C.1 C.2.1 dX3_digest_35 rfl ?_
        refine lv_ladd C.1 C.2.1 dX3_digest_36 ?_
        refine lv_lstore_n (lv' := [(1, .long (((((x1) * lN (31)) + (iZ ((((c) (x3).toNat : Nat) : Int))).toInt64) * lN (31)) + (iZ (tp ((c) (x3).toNat))).toInt64)), (0, .ref o), (3, .int (iZ (x3)))]) C.1 C.2.1 dX3_digest_37 rfl hl (by decide) rfl (fun ls hl => ?_)
        refine lv_lload_n C.1 C.2.1 dX3_digest_38 rfl (lv_at hl 0 rfl) ?_
        refine z_ldc2 C 31 (T0_of kl_X3_174 rfl) (by decide) dX3_digest_39 ?_
        refine lv_lmul C.1 C.2.1 dX3_digest_42 ?_
        refine lv_aload_n C.1 C.2.1 dX3_digest_43 rfl (lv_at hl 1 rfl) ?_
        refine lv_iload_n C.1 C.2.1 dX3_digest_44 rfl (lv_at hl 2 rfl) ?_
        refine zo_callD C B (r := some (.int (iZ (bp ((c) (x3).toNat))))) (c_X3_low l D cJ o a (c) (((ac))) (((re))) (((kn))) (x3) (by first | assumption | omega | rfl | exact decide_eq_false (by omega) | exact decide_eq_true (by assumption) | exact decide_eq_true (by omega) | exact one_shl33 (by omega) | exact pm_lt _ _ | exact rm_lt (by first | assumption | exact pm_lt _ _) | exact Nat.lt_of_le_of_lt (Nat.shiftRight_le _ _) (by assumption) | exact Nat.lt_of_le_of_lt Nat.and_le_right (by omega))) ml_X3_182 rfl ⟨Nat.le_of_ble_eq_true rfl, Nat.le_of_ble_eq_true rfl⟩ ⟨Nat.le_of_ble_eq_true rfl, Nat.le_of_ble_eq_true rfl⟩ hl (Nat.le_of_ble_eq_true rfl) rfl dX3_digest_45 (fun H locs B => ?_)
        refine lv_i2l C.1 C.2.1 dX3_digest_48 rfl ?_
        refine lv_ladd C.1 C.2.1 dX3_digest_49 ?_
        refine lv_lstore_n (lv' := [(1, .long (((((((x1) * lN (31)) + (iZ ((((c) (x3).toNat : Nat) : Int))).toInt64) * lN (31)) + (iZ (tp ((c) (x3).toNat))).toInt64) * lN (31)) + (iZ (bp ((c) (x3).toNat))).toInt64)), (0, .ref o), (3, .int (iZ (x3)))]) C.1 C.2.1 dX3_digest_50 rfl hl (by decide) rfl (fun ls hl => ?_)
        refine lv_lload_n C.1 C.2.1 dX3_digest_51 rfl (lv_at hl 0 rfl) ?_
        refine z_ldc2 C 31 (T0_of kl_X3_174 rfl) (by decide) dX3_digest_52 ?_
        refine lv_lmul C.1 C.2.1 dX3_digest_55 ?_
        refine lv_aload_n C.1 C.2.1 dX3_digest_56 rfl (lv_at hl 1 rfl) ?_
        refine lv_iload_n C.1 C.2.1 dX3_digest_57 rfl (lv_at hl 2 rfl) ?_
        refine zo_callD C B (r := some (.int (iZ (bc ((c) (x3).toNat))))) (c_X3_weight l D cJ o a (c) ((((ac)))) ((((re)))) ((((kn)))) (x3) (by first | assumption | omega | rfl | exact decide_eq_false (by omega) | exact decide_eq_true (by assumption) | exact decide_eq_true (by omega) | exact one_shl33 (by omega) | exact pm_lt _ _ | exact rm_lt (by first | assumption | exact pm_lt _ _) | exact Nat.lt_of_le_of_lt (Nat.shiftRight_le _ _) (by assumption) | exact Nat.lt_of_le_of_lt Nat.and_le_right (by omega))) ml_X3_185 rfl ⟨Nat.le_of_ble_eq_true rfl, Nat.le_of_ble_eq_true rfl⟩ ⟨Nat.le_of_ble_eq_true rfl, Nat.le_of_ble_eq_true rfl⟩ hl (Nat.le_of_ble_eq_true rfl) rfl dX3_digest_58 (fun H locs B => ?_)
        refine lv_i2l C.1 C.2.1 dX3_digest_61 rfl ?_
        refine lv_ladd C.1 C.2.1 dX3_digest_62 ?_
        refine lv_lstore_n (lv' := [(1, .long (((((((((x1) * lN (31)) + (iZ ((((c) (x3).toNat : Nat) : Int))).toInt64) * lN (31)) + (iZ (tp ((c) (x3).toNat))).toInt64) * lN (31)) + (iZ (bp ((c) (x3).toNat))).toInt64) * lN (31)) + (iZ (bc ((c) (x3).toNat))).toInt64)), (0, .ref o), (3, .int (iZ (x3)))]) C.1 C.2.1 dX3_digest_63 rfl hl (by decide) rfl (fun ls hl => ?_)
        refine lv_lload_n C.1 C.2.1 dX3_digest_64 rfl (lv_at hl 0 rfl) ?_
        refine z_ldc2 C 31 (T0_of kl_X3_174 rfl) (by decide) dX3_digest_65 ?_
        refine lv_lmul C.1 C.2.1 dX3_digest_68 ?_
        refine lv_aload_n C.1 C.2.1 dX3_digest_69 rfl (lv_at hl 1 rfl) ?_
        refine lv_iload_n C.1 C.2.1 dX3_digest_70 rfl (lv_at hl 2 rfl) ?_
        refine z_iconst C dX3_digest_71 ?_
        refine zo_callD C B (r := some (.int (iZ (fdF (c) ((c) (x3).toNat) (true) (x3) 6)))) (c_X3_find l D cJ o a (c) (((((ac))))) (((((re))))) (((((kn))))) (x3) (true) (by first | assumption | omega | rfl | exact decide_eq_false (by omega) | exact decide_eq_true (by assumption) | exact decide_eq_true (by omega) | exact one_shl33 (by omega) | exact pm_lt _ _ | exact rm_lt (by first | assumption | exact pm_lt _ _) | exact Nat.lt_of_le_of_lt (Nat.shiftRight_le _ _) (by assumption) | exact Nat.lt_of_le_of_lt Nat.and_le_right (by omega))) ml_X3_188 rfl ⟨Nat.le_of_ble_eq_true rfl, Nat.le_of_ble_eq_true rfl⟩ ⟨Nat.le_of_ble_eq_true rfl, Nat.le_of_ble_eq_true rfl⟩ hl (Nat.le_of_ble_eq_true rfl) rfl dX3_digest_72 (fun H locs B => ?_)
        have q72_0 := fd_rngE ((c)) (true) (x3) (by omega)
        refine lv_i2l C.1 C.2.1 dX3_digest_75 rfl ?_
        refine lv_ladd C.1 C.2.1 dX3_digest_76 ?_
        refine lv_lstore_n (lv' := [(1, .long (((((((((((x1) * lN (31)) + (iZ ((((c) (x3).toNat : Nat) : Int))).toInt64) * lN (31)) + (iZ (tp ((c) (x3).toNat))).toInt64) * lN (31)) + (iZ (bp ((c) (x3).toNat))).toInt64) * lN (31)) + (iZ (bc ((c) (x3).toNat))).toInt64) * lN (31)) + (iZ (fdF (c) ((c) (x3).toNat) (true) (x3) 6)).toInt64)), (0, .ref o), (3, .int (iZ (x3)))]) C.1 C.2.1 dX3_digest_77 rfl hl (by decide) rfl (fun ls hl => ?_)
        refine z_iinc (j := 2) (lv' := [(3, .int (iZ (x3 + 1))), (1, .long (((((((((((x1) * lN (31)) + (iZ ((((c) (x3).toNat : Nat) : Int))).toInt64) * lN (31)) + (iZ (tp ((c) (x3).toNat))).toInt64) * lN (31)) + (iZ (bp ((c) (x3).toNat))).toInt64) * lN (31)) + (iZ (bc ((c) (x3).toNat))).toInt64) * lN (31)) + (iZ (fdF (c) ((c) (x3).toNat) (true) (x3) 6)).toInt64)), (0, .ref o)]) C dX3_digest_78 hl rfl (by decide) rfl (fun ls hl => ?_)
        refine lv_goto (tgt := 6) C.1 C.2.1 dX3_digest_81 (by decide) ?_
        exact ih6 (k + 1) _ _ _ _ _ (by omega) (by omega) (by omega) (by subst i6_0 i6_2; rfl) B (lv_sub hl [2, 1, 0] rfl)
  exact L6 _ (0) _ _ _ _ _ (by exact Nat.lt_succ_self _) (by rfl) (by omega) (by rfl) B (lv_sub hl [2, 1, 0] rfl)
