set_option maxHeartbeats 4000000 in
set_option maxRecDepth 100000 in
theorem c_X3_checkCell (l : Launch) (D : va_G) (cJ : ClassId) (o a : Nat) (c : Nat → Nat) (ac : Int32) (re : Int32) (kn : Int32) (z : Int) (hz : 0 ≤ z ∧ z ≤ 5) : zA l yX3_checkCell 0 21 0 0 D 2 cJ o a [.int (iZ (z))] c [.int (ac), .int (re), .int (kn)] (fun v => v = none) (c) [.int (ac), .int (re), .int (kn)] := by
  refine zA.intro (lo := 0) (nA := 1) (own := RX3) zi_X3_checkCell (by decide) rfl rfl (by decide +kernel) rfl (Nat.le_of_ble_eq_true rfl) ?_
  intro p e s m below meth c0 ls C hr hk B hl
  have hl : lv_has ls 2 [(0, .ref o), (1, .int (iZ (z)))] := hl
  refine lv_iload_n C.1 C.2.1 dX3_checkCell_0 rfl (lv_at hl 1 rfl) ?_
  refine z_if_lt (tgt := 13) C (by omega) dX3_checkCell_1 (by decide) (fun h1 => ?_) (fun h1 => ?_)
  · exact absurd h1 (by omega)
  · refine lv_iload_n C.1 C.2.1 dX3_checkCell_4 rfl (lv_at hl 1 rfl) ?_
    refine lv_aload_n C.1 C.2.1 dX3_checkCell_5 rfl (lv_at hl 0 rfl) ?_
    refine zo_get C B (Cn := RX3) (T := TX3) (N := 4) (v := .ref a) rfl inX3 0 (by decide) fl_X3_9 rfl rfl dX3_checkCell_6 ?_
    refine zo_alen C B dX3_checkCell_9 ?_
    refine z_icmp_lt (tgt := 23) C (by omega) (by omega) dX3_checkCell_10 (by decide) (fun h10 => ?_) (fun h10 => ?_)
    · exact zo_vret C B hr hk (Nat.le_of_ble_eq_true rfl) (Nat.le_of_ble_eq_true rfl) dX3_checkCell_23 (by rfl) (by rfl) (by rfl)
    · exact absurd h10 (by omega)

set_option maxHeartbeats 4000000 in
set_option maxRecDepth 100000 in
theorem c_X3_checkRange (l : Launch) (v : Int) (a : Int) (b : Int) (hv : (-2147483648 ≤ a ∧ a ≤ v) ∧ v ≤ b ∧ b ≤ 2147483647) : zPv l yX3_checkRange 0 22 [.int (iZ (v)), .int (iZ (a)), .int (iZ (b))]  := by
  refine zPv.intro (lo := 0) (nA := 3) (own := RX3) zs_X3_checkRange (by decide) rfl rfl (by decide +kernel) rfl (Nat.le_of_ble_eq_true rfl) ?_
  intro p e s m below meth c ls C hr hk hl
  have hl : lv_has ls 3 [(0, .int (iZ (v))), (1, .int (iZ (a))), (2, .int (iZ (b)))] := hl
  refine lv_iload_n C.1 C.2.1 dX3_checkRange_0 rfl (lv_at hl 0 rfl) ?_
  refine lv_iload_n C.1 C.2.1 dX3_checkRange_1 rfl (lv_at hl 1 rfl) ?_
  refine z_icmp_lt (tgt := 10) C (by omega) (by omega) dX3_checkRange_2 (by decide) (fun h2 => ?_) (fun h2 => ?_)
  · exact absurd h2 (by omega)
  · refine lv_iload_n C.1 C.2.1 dX3_checkRange_5 rfl (lv_at hl 0 rfl) ?_
    refine lv_iload_n C.1 C.2.1 dX3_checkRange_6 rfl (lv_at hl 2 rfl) ?_
    refine z_icmp_le (tgt := 20) C (by omega) (by omega) dX3_checkRange_7 (by decide) (fun h7 => ?_) (fun h7 => ?_)
    · exact z_vret C hr hk dX3_checkRange_20
    · exact absurd h7 (by omega)

set_option maxHeartbeats 4000000 in
set_option maxRecDepth 100000 in
theorem c_X3_polyIn (l : Launch) (D : va_G) (cJ : ClassId) (o a : Nat) (c : Nat → Nat) (ac : Int32) (re : Int32) (kn : Int32) (z : Int) (hz : 0 ≤ z ∧ z ≤ 5) : zA l yX3_polyIn 1 42 0 0 D 2 cJ o a [.int (iZ (z))] c [.int (ac), .int (re), .int (kn)] (fun v => v = some (.long (lN (c z.toNat)))) (c) [.int (ac), .int (re), .int (kn)] := by
  refine zA.intro (lo := 21) (nA := 1) (own := RX3) zi_X3_polyIn (by decide) rfl rfl (by decide +kernel) rfl (Nat.le_of_ble_eq_true rfl) ?_
  intro p e s m below meth c0 ls C hr hk B hl
  have hl : lv_has ls 2 [(0, .ref o), (1, .int (iZ (z)))] := hl
  refine lv_aload_n C.1 C.2.1 dX3_polyIn_0 rfl (lv_at hl 0 rfl) ?_
  refine lv_iload_n C.1 C.2.1 dX3_polyIn_1 rfl (lv_at hl 1 rfl) ?_
  refine zo_callD C B (r := none) (c_X3_checkCell l D cJ o a (c) (ac) (re) (kn) (z) (by first | assumption | omega | exact pm_lt _ _ | exact rm_lt (by first | assumption | exact pm_lt _ _) | exact Nat.lt_of_le_of_lt (Nat.shiftRight_le _ _) (by assumption) | exact Nat.lt_of_le_of_lt Nat.and_le_right (by omega))) ml_X3_23 rfl ⟨Nat.le_of_ble_eq_true rfl, Nat.le_of_ble_eq_true rfl⟩ ⟨Nat.le_of_ble_eq_true rfl, Nat.le_of_ble_eq_true rfl⟩ hl (Nat.le_of_ble_eq_true rfl) rfl dX3_polyIn_2 (fun H locs B => ?_)
  refine lv_aload_n C.1 C.2.1 dX3_polyIn_5 rfl (lv_at hl 0 rfl) ?_
  refine zo_get C B (Cn := RX3) (T := TX3) (N := 4) (v := .ref a) rfl inX3 0 (by decide) fl_X3_9 rfl rfl dX3_polyIn_6 ?_
  refine lv_iload_n C.1 C.2.1 dX3_polyIn_9 rfl (lv_at hl 1 rfl) ?_
  refine zo_lald C B ((z).toNat) (by omega) (by omega) dX3_polyIn_10 ?_
  have q10 := B.1.2.2.2 ((z).toNat)
  exact zo_lret C B hr hk (Nat.le_of_ble_eq_true rfl) (Nat.le_of_ble_eq_true rfl) dX3_polyIn_11 (by exact congrArg (fun z : Nat => some (Value.long (lN z))) (by rfl)) (by rfl) (by rfl)

set_option maxHeartbeats 4000000 in
set_option maxRecDepth 100000 in
theorem c_X3_fill (l : Launch) (D : va_G) (cJ : ClassId) (o a : Nat) (c : Nat → Nat) (ac : Int32) (re : Int32) (kn : Int32) (z : Int) (x : Nat) (hz : 0 ≤ z ∧ z ≤ 5) (hx : x < 18446744073709551616) : zA l yX3_fill 2 66 0 0 D 2 cJ o a [.int (iZ (z)), .long (lN (x))] c [.int (ac), .int (re), .int (kn)] (fun v => v = some (.int (iZ (aR c z.toNat (some x))))) (aC c z.toNat (some x)) [.int (aA ac (some x)), .int (aF re (some x)), .int (kn)] := by
  refine zA.intro (lo := 42) (nA := 2) (own := RX3) zi_X3_fill (by decide) rfl rfl (by decide +kernel) rfl (Nat.le_of_ble_eq_true rfl) ?_
  intro p e s m below meth c0 ls C hr hk B hl
  have hl : lv_has ls 5 [(0, .ref o), (1, .int (iZ (z))), (2, .long (lN (x)))] := hl
  refine lv_aload_n C.1 C.2.1 dX3_fill_0 rfl (lv_at hl 0 rfl) ?_
  refine lv_iload_n C.1 C.2.1 dX3_fill_1 rfl (lv_at hl 1 rfl) ?_
  refine zo_callD C B (r := some (.long (lN ((c) (z).toNat)))) (c_X3_polyIn l D cJ o a (c) (ac) (re) (kn) (z) (by first | assumption | omega | exact pm_lt _ _ | exact rm_lt (by first | assumption | exact pm_lt _ _) | exact Nat.lt_of_le_of_lt (Nat.shiftRight_le _ _) (by assumption) | exact Nat.lt_of_le_of_lt Nat.and_le_right (by omega))) ml_X3_43 rfl ⟨Nat.le_of_ble_eq_true rfl, Nat.le_of_ble_eq_true rfl⟩ ⟨Nat.le_of_ble_eq_true rfl, Nat.le_of_ble_eq_true rfl⟩ hl (Nat.le_of_ble_eq_true rfl) rfl dX3_fill_2 (fun H locs B => ?_)
  have q2_0 := B.1.2.2.2 ((z)).toNat
  refine lv_lload_n C.1 C.2.1 dX3_fill_5 rfl (lv_at hl 2 rfl) ?_
  refine z_lc_eq (tgt := 14) C (by first | assumption | omega | exact pm_lt _ _ | exact rm_lt (by first | assumption | exact pm_lt _ _) | exact Nat.lt_of_le_of_lt (Nat.shiftRight_le _ _) (by assumption) | exact Nat.lt_of_le_of_lt Nat.and_le_right (by omega)) (by first | assumption | omega | exact pm_lt _ _ | exact rm_lt (by first | assumption | exact pm_lt _ _) | exact Nat.lt_of_le_of_lt (Nat.shiftRight_le _ _) (by assumption) | exact Nat.lt_of_le_of_lt Nat.and_le_right (by omega)) dX3_fill_6 dX3_fill_7 (by decide) (fun h6 => ?_) (fun h6 => ?_)
  · refine z_iconst C dX3_fill_14 ?_
    refine lv_istore (lv' := [(4, .int (iZ (0))), (0, .ref o), (1, .int (iZ (z))), (2, .long (lN (x)))]) C.1 C.2.1 dX3_fill_15 hl (by decide) rfl (fun ls hl => ?_)
    refine lv_aload_n C.1 C.2.1 dX3_fill_17 rfl (lv_at hl 1 rfl) ?_
    refine zo_get C B (Cn := RX3) (T := TX3) (N := 4) (v := .ref a) rfl inX3 0 (by decide) fl_X3_9 rfl rfl dX3_fill_18 ?_
    refine lv_iload_n C.1 C.2.1 dX3_fill_21 rfl (lv_at hl 2 rfl) ?_
    refine lv_lload_n C.1 C.2.1 dX3_fill_22 rfl (lv_at hl 3 rfl) ?_
    refine zo_last C B ((z).toNat) (by omega) (by omega) (by first | assumption | omega | exact pm_lt _ _ | exact rm_lt (by first | assumption | exact pm_lt _ _) | exact Nat.lt_of_le_of_lt (Nat.shiftRight_le _ _) (by assumption) | exact Nat.lt_of_le_of_lt Nat.and_le_right (by omega)) dX3_fill_23 (fun H locs B => ?_)
    refine lv_aload_n C.1 C.2.1 dX3_fill_24 rfl (lv_at hl 1 rfl) ?_
    refine lv_dup C.1 C.2.1 dX3_fill_25 rfl ?_
    refine zo_get C B (Cn := RX3) (T := TX3) (N := 4) (v := .int ((ac))) rfl inX3 1 (by decide) fl_X3_13 rfl rfl dX3_fill_26 ?_
    refine z_iconst C dX3_fill_29 ?_
    refine lv_iadd C.1 C.2.1 dX3_fill_30 ?_
    refine zo_put C B (Cn := RX3) (T := TX3) (N := 4) (fs2 := [.int (((ac)) + iZ (1)), .int ((re)), .int ((kn))]) rfl inX3 tyX3 tyX3_ok nmX3 0 (by decide) fl_X3_13 rfl rfl (by decide +kernel) (Nat.le_of_ble_eq_true rfl) rfl dX3_fill_31 (fun H locs B => ?_)
    refine lv_iload C.1 C.2.1 dX3_fill_34 (lv_at hl 0 rfl) ?_
    refine z_if_eq (tgt := 43) C (by omega) dX3_fill_36 (by decide) (fun h36 => ?_) (fun h36 => ?_)
    · refine z_iconst C dX3_fill_43 ?_
      exact zo_iret C B hr hk (Nat.le_of_ble_eq_true rfl) (Nat.le_of_ble_eq_true rfl) dX3_fill_44 (by exact congrArg (fun z : Int => some (Value.int (iZ z))) (by exact (if_pos h6).symm)) (by rfl) (by rfl)
    · refine z_iconst C dX3_fill_39 ?_
      refine lv_goto (tgt := 44) C.1 C.2.1 dX3_fill_40 (by decide) ?_
      exact zo_iret C B hr hk (Nat.le_of_ble_eq_true rfl) (Nat.le_of_ble_eq_true rfl) dX3_fill_44 (by exact congrArg (fun z : Int => some (Value.int (iZ z))) (by exact absurd h36 (by decide))) (by rfl) (by rfl)
  · refine z_iconst C dX3_fill_10 ?_
    refine lv_goto (tgt := 15) C.1 C.2.1 dX3_fill_11 (by decide) ?_
    refine lv_istore (lv' := [(4, .int (iZ (1))), (0, .ref o), (1, .int (iZ (z))), (2, .long (lN (x)))]) C.1 C.2.1 dX3_fill_15 hl (by decide) rfl (fun ls hl => ?_)
    refine lv_aload_n C.1 C.2.1 dX3_fill_17 rfl (lv_at hl 1 rfl) ?_
    refine zo_get C B (Cn := RX3) (T := TX3) (N := 4) (v := .ref a) rfl inX3 0 (by decide) fl_X3_9 rfl rfl dX3_fill_18 ?_
    refine lv_iload_n C.1 C.2.1 dX3_fill_21 rfl (lv_at hl 2 rfl) ?_
    refine lv_lload_n C.1 C.2.1 dX3_fill_22 rfl (lv_at hl 3 rfl) ?_
    refine zo_last C B ((z).toNat) (by omega) (by omega) (by first | assumption | omega | exact pm_lt _ _ | exact rm_lt (by first | assumption | exact pm_lt _ _) | exact Nat.lt_of_le_of_lt (Nat.shiftRight_le _ _) (by assumption) | exact Nat.lt_of_le_of_lt Nat.and_le_right (by omega)) dX3_fill_23 (fun H locs B => ?_)
    refine lv_aload_n C.1 C.2.1 dX3_fill_24 rfl (lv_at hl 1 rfl) ?_
    refine lv_dup C.1 C.2.1 dX3_fill_25 rfl ?_
    refine zo_get C B (Cn := RX3) (T := TX3) (N := 4) (v := .int ((ac))) rfl inX3 1 (by decide) fl_X3_13 rfl rfl dX3_fill_26 ?_
    refine z_iconst C dX3_fill_29 ?_
    refine lv_iadd C.1 C.2.1 dX3_fill_30 ?_
    refine zo_put C B (Cn := RX3) (T := TX3) (N := 4) (fs2 := [.int (((ac)) + iZ (1)), .int ((re)), .int ((kn))]) rfl inX3 tyX3 tyX3_ok nmX3 0 (by decide) fl_X3_13 rfl rfl (by decide +kernel) (Nat.le_of_ble_eq_true rfl) rfl dX3_fill_31 (fun H locs B => ?_)
    refine lv_iload C.1 C.2.1 dX3_fill_34 (lv_at hl 0 rfl) ?_
    refine z_if_eq (tgt := 43) C (by omega) dX3_fill_36 (by decide) (fun h36 => ?_) (fun h36 => ?_)
    · refine z_iconst C dX3_fill_43 ?_
      exact zo_iret C B hr hk (Nat.le_of_ble_eq_true rfl) (Nat.le_of_ble_eq_true rfl) dX3_fill_44 (by exact congrArg (fun z : Int => some (Value.int (iZ z))) (by exact absurd h36 (by decide))) (by rfl) (by rfl)
    · refine z_iconst C dX3_fill_39 ?_
      refine lv_goto (tgt := 44) C.1 C.2.1 dX3_fill_40 (by decide) ?_
      exact zo_iret C B hr hk (Nat.le_of_ble_eq_true rfl) (Nat.le_of_ble_eq_true rfl) dX3_fill_44 (by exact congrArg (fun z : Int => some (Value.int (iZ z))) (by exact (if_neg h6).symm)) (by rfl) (by rfl)

set_option maxHeartbeats 4000000 in
set_option maxRecDepth 100000 in
theorem c_X3_refuse (l : Launch) (D : va_G) (cJ : ClassId) (o a : Nat) (c : Nat → Nat) (ac : Int32) (re : Int32) (kn : Int32)  : zA l yX3_refuse 0 20 0 0 D 2 cJ o a [] c [.int (ac), .int (re), .int (kn)] (fun v => v = some (.int (iZ (-9)))) (c) [.int (ac), .int (aF re none), .int (kn)] := by
  refine zA.intro (lo := 0) (nA := 0) (own := RX3) zi_X3_refuse (by decide) rfl rfl (by decide +kernel) rfl (Nat.le_of_ble_eq_true rfl) ?_
  intro p e s m below meth c0 ls C hr hk B hl
  have hl : lv_has ls 1 [(0, .ref o)] := hl
  refine lv_aload_n C.1 C.2.1 dX3_refuse_0 rfl (lv_at hl 0 rfl) ?_
  refine lv_dup C.1 C.2.1 dX3_refuse_1 rfl ?_
  refine zo_get C B (Cn := RX3) (T := TX3) (N := 4) (v := .int (re)) rfl inX3 2 (by decide) fl_X3_17 rfl rfl dX3_refuse_2 ?_
  refine z_iconst C dX3_refuse_5 ?_
  refine lv_iadd C.1 C.2.1 dX3_refuse_6 ?_
  refine zo_put C B (Cn := RX3) (T := TX3) (N := 4) (fs2 := [.int (ac), .int ((re) + iZ (1)), .int (kn)]) rfl inX3 tyX3 tyX3_ok nmX3 1 (by decide) fl_X3_17 rfl rfl (by decide +kernel) (Nat.le_of_ble_eq_true rfl) rfl dX3_refuse_7 (fun H locs B => ?_)
  refine z_bipush C dX3_refuse_10 (by decide) ?_
  exact zo_iret C B hr hk (Nat.le_of_ble_eq_true rfl) (Nat.le_of_ble_eq_true rfl) dX3_refuse_12 (by exact congrArg (fun z : Int => some (Value.int (iZ z))) (by rfl)) (by rfl) (by rfl)
