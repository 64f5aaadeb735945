set_option maxHeartbeats 4000000 in
set_option maxRecDepth 100000 in
theorem c_X5_put_bad1 (l : Launch) (D : va_G) (cJ : ClassId) (o a : Nat) (c : Nat → Nat) (th : Int) (ac : Int32) (re : Int32) (kn : Int32) (z : Int) (g : Int) (r9z : -2147483648 ≤ z ∧ z ≤ 2147483647) (r9g : -2147483648 ≤ g ∧ g ≤ 2147483647) (hbad : ¬ ((0 ≤ z ∧ z ≤ 5))) : zA l yX5_put 2 66 0 0 D 4 cJ o a [.int (iZ (z)), .int (iZ (g))] c [.int (iZ (th)), .int (ac), .int (re), .int (kn)] (fun v => v = some (.int (iZ (0)))) (c) [.int (iZ (1)), .int (ac), .int (re), .int (kn)] := by
  refine zA.intro (lo := 44) (nA := 2) (own := RX5) zi_X5_put (by decide) rfl rfl (by decide +kernel) rfl (Nat.le_of_ble_eq_true rfl) ?_
  intro p e s m below meth c0 ls C hr hk B hl
  have hl : lv_has ls 3 [(0, .ref o), (1, .int (iZ (z))), (2, .int (iZ (g)))] := hl
  refine lv_aload_n C.1 C.2.1 dX5_put_0 rfl (lv_at hl 0 rfl) ?_
  refine lv_iload_n C.1 C.2.1 dX5_put_1 rfl (lv_at hl 1 rfl) ?_
  refine z_call C (c_X5_isNo l (z) (by first | assumption | omega | rfl | exact decide_eq_false (by omega) | exact decide_eq_true (by assumption) | exact decide_eq_true (by omega) | exact one_shl33 (by omega) | exact pm_lt _ _ | exact rm_lt (by first | assumption | exact pm_lt _ _) | exact Nat.lt_of_le_of_lt (Nat.shiftRight_le _ _) (by assumption) | exact Nat.lt_of_le_of_lt Nat.and_le_right (by omega))) ml_X5_67 ⟨by decide, by decide⟩ ⟨Nat.le_of_ble_eq_true rfl, Nat.le_of_ble_eq_true rfl⟩ hl (Nat.le_of_ble_eq_true rfl) rfl dX5_put_2 ?_
  refine z_iconst C dX5_put_5 ?_
  refine zo_callD C B (r := some (.int (iZ (zB (true))))) (c_X5_start_bad l D cJ o a (c) (th) (ac) (re) (kn) (decide (¬ (0 ≤ (z) ∧ (z) ≤ 5))) (1 : Int) (by first | assumption | omega | rfl | exact decide_eq_false (by omega) | exact decide_eq_true (by assumption) | exact decide_eq_true (by omega) | exact one_shl33 (by omega) | exact pm_lt _ _ | exact rm_lt (by first | assumption | exact pm_lt _ _) | exact Nat.lt_of_le_of_lt (Nat.shiftRight_le _ _) (by assumption) | exact Nat.lt_of_le_of_lt Nat.and_le_right (by omega)) (by first | assumption | omega | rfl | exact decide_eq_false (by omega) | exact decide_eq_true (by assumption) | exact decide_eq_true (by omega) | exact one_shl33 (by omega) | exact pm_lt _ _ | exact rm_lt (by first | assumption | exact pm_lt _ _) | exact Nat.lt_of_le_of_lt (Nat.shiftRight_le _ _) (by assumption) | exact Nat.lt_of_le_of_lt Nat.and_le_right (by omega))) ml_X5_71 rfl ⟨Nat.le_of_ble_eq_true rfl, Nat.le_of_ble_eq_true rfl⟩ ⟨Nat.le_of_ble_eq_true rfl, Nat.le_of_ble_eq_true rfl⟩ hl (Nat.le_of_ble_eq_true rfl) rfl dX5_put_6 (fun H locs B => ?_)
  refine z_ifB_eq (tgt := 16) C dX5_put_9 (by decide) (fun h9 => ?_) (fun h9 => ?_)
  · exact absurd h9 (by decide)
  · refine z_iconst C dX5_put_12 ?_
    refine lv_goto (tgt := 27) C.1 C.2.1 dX5_put_13 (by decide) ?_
    exact zo_iret C B hr hk (Nat.le_of_ble_eq_true rfl) (Nat.le_of_ble_eq_true rfl) dX5_put_27 (by exact congrArg (fun z : Int => some (Value.int (iZ z))) (by rfl)) (by rfl) (by rfl)

set_option maxHeartbeats 4000000 in
set_option maxRecDepth 100000 in
theorem c_X5_mono_bad1 (l : Launch) (D : va_G) (cJ : ClassId) (o a : Nat) (c : Nat → Nat) (th : Int) (ac : Int32) (re : Int32) (kn : Int32) (z : Int) (g : Int) (r9z : -2147483648 ≤ z ∧ z ≤ 2147483647) (r9g : -2147483648 ≤ g ∧ g ≤ 2147483647) (hbad : ¬ ((0 ≤ z ∧ z ≤ 5))) : zA l yX5_mono 2 66 0 0 D 4 cJ o a [.int (iZ (z)), .int (iZ (g))] c [.int (iZ (th)), .int (ac), .int (re), .int (kn)] (fun v => v = some (.int (iZ (0)))) (c) [.int (iZ (1)), .int (ac), .int (re), .int (kn)] := by
  refine zA.intro (lo := 44) (nA := 2) (own := RX5) zi_X5_mono (by decide) rfl rfl (by decide +kernel) rfl (Nat.le_of_ble_eq_true rfl) ?_
  intro p e s m below meth c0 ls C hr hk B hl
  have hl : lv_has ls 3 [(0, .ref o), (1, .int (iZ (z))), (2, .int (iZ (g)))] := hl
  refine lv_aload_n C.1 C.2.1 dX5_mono_0 rfl (lv_at hl 0 rfl) ?_
  refine lv_iload_n C.1 C.2.1 dX5_mono_1 rfl (lv_at hl 1 rfl) ?_
  refine z_call C (c_X5_isNo l (z) (by first | assumption | omega | rfl | exact decide_eq_false (by omega) | exact decide_eq_true (by assumption) | exact decide_eq_true (by omega) | exact one_shl33 (by omega) | exact pm_lt _ _ | exact rm_lt (by first | assumption | exact pm_lt _ _) | exact Nat.lt_of_le_of_lt (Nat.shiftRight_le _ _) (by assumption) | exact Nat.lt_of_le_of_lt Nat.and_le_right (by omega))) ml_X5_67 ⟨by decide, by decide⟩ ⟨Nat.le_of_ble_eq_true rfl, Nat.le_of_ble_eq_true rfl⟩ hl (Nat.le_of_ble_eq_true rfl) rfl dX5_mono_2 ?_
  refine z_iconst C dX5_mono_5 ?_
  refine zo_callD C B (r := some (.int (iZ (zB (true))))) (c_X5_start_bad l D cJ o a (c) (th) (ac) (re) (kn) (decide (¬ (0 ≤ (z) ∧ (z) ≤ 5))) (1 : Int) (by first | assumption | omega | rfl | exact decide_eq_false (by omega) | exact decide_eq_true (by assumption) | exact decide_eq_true (by omega) | exact one_shl33 (by omega) | exact pm_lt _ _ | exact rm_lt (by first | assumption | exact pm_lt _ _) | exact Nat.lt_of_le_of_lt (Nat.shiftRight_le _ _) (by assumption) | exact Nat.lt_of_le_of_lt Nat.and_le_right (by omega)) (by first | assumption | omega | rfl | exact decide_eq_false (by omega) | exact decide_eq_true (by assumption) | exact decide_eq_true (by omega) | exact one_shl33 (by omega) | exact pm_lt _ _ | exact rm_lt (by first | assumption | exact pm_lt _ _) | exact Nat.lt_of_le_of_lt (Nat.shiftRight_le _ _) (by assumption) | exact Nat.lt_of_le_of_lt Nat.and_le_right (by omega))) ml_X5_71 rfl ⟨Nat.le_of_ble_eq_true rfl, Nat.le_of_ble_eq_true rfl⟩ ⟨Nat.le_of_ble_eq_true rfl, Nat.le_of_ble_eq_true rfl⟩ hl (Nat.le_of_ble_eq_true rfl) rfl dX5_mono_6 (fun H locs B => ?_)
  refine z_ifB_ne (tgt := 35) C dX5_mono_9 (by decide) (fun h9 => ?_) (fun h9 => ?_)
  · refine z_iconst C dX5_mono_35 ?_
    refine lv_goto (tgt := 47) C.1 C.2.1 dX5_mono_36 (by decide) ?_
    exact zo_iret C B hr hk (Nat.le_of_ble_eq_true rfl) (Nat.le_of_ble_eq_true rfl) dX5_mono_47 (by exact congrArg (fun z : Int => some (Value.int (iZ z))) (by rfl)) (by rfl) (by rfl)
  · exact absurd h9 (by decide)

set_option maxHeartbeats 4000000 in
set_option maxRecDepth 100000 in
theorem c_X5_mono_bad2 (l : Launch) (D : va_G) (cJ : ClassId) (o a : Nat) (c : Nat → Nat) (th : Int) (ac : Int32) (re : Int32) (kn : Int32) (z : Int) (g : Int) (r9z : -2147483648 ≤ z ∧ z ≤ 2147483647) (r9g : -2147483648 ≤ g ∧ g ≤ 2147483647) (hcel : (0 ≤ z ∧ z ≤ 5)) (hbad : ¬ ((0 ≤ g ∧ g ≤ 32))) : zA l yX5_mono 2 66 0 0 D 4 cJ o a [.int (iZ (z)), .int (iZ (g))] c [.int (iZ (th)), .int (ac), .int (re), .int (kn)] (fun v => v = some (.int (iZ (0)))) (c) [.int (iZ (2)), .int (ac), .int (re), .int (kn)] := by
  refine zA.intro (lo := 44) (nA := 2) (own := RX5) zi_X5_mono (by decide) rfl rfl (by decide +kernel) rfl (Nat.le_of_ble_eq_true rfl) ?_
  intro p e s m below meth c0 ls C hr hk B hl
  have hl : lv_has ls 3 [(0, .ref o), (1, .int (iZ (z))), (2, .int (iZ (g)))] := hl
  refine lv_aload_n C.1 C.2.1 dX5_mono_0 rfl (lv_at hl 0 rfl) ?_
  refine lv_iload_n C.1 C.2.1 dX5_mono_1 rfl (lv_at hl 1 rfl) ?_
  refine z_call C (c_X5_isNo l (z) (by first | assumption | omega | rfl | exact decide_eq_false (by omega) | exact decide_eq_true (by assumption) | exact decide_eq_true (by omega) | exact one_shl33 (by omega) | exact pm_lt _ _ | exact rm_lt (by first | assumption | exact pm_lt _ _) | exact Nat.lt_of_le_of_lt (Nat.shiftRight_le _ _) (by assumption) | exact Nat.lt_of_le_of_lt Nat.and_le_right (by omega))) ml_X5_67 ⟨by decide, by decide⟩ ⟨Nat.le_of_ble_eq_true rfl, Nat.le_of_ble_eq_true rfl⟩ hl (Nat.le_of_ble_eq_true rfl) rfl dX5_mono_2 ?_
  refine z_iconst C dX5_mono_5 ?_
  refine zo_callD C B (r := some (.int (iZ (zB (false))))) (c_X5_start_ok l D cJ o a (c) (th) (ac) (re) (kn) (decide (¬ (0 ≤ (z) ∧ (z) ≤ 5))) (1 : Int) (by first | assumption | omega | rfl | exact decide_eq_false (by omega) | exact decide_eq_true (by assumption) | exact decide_eq_true (by omega) | exact one_shl33 (by omega) | exact pm_lt _ _ | exact rm_lt (by first | assumption | exact pm_lt _ _) | exact Nat.lt_of_le_of_lt (Nat.shiftRight_le _ _) (by assumption) | exact Nat.lt_of_le_of_lt Nat.and_le_right (by omega))) ml_X5_71 rfl ⟨Nat.le_of_ble_eq_true rfl, Nat.le_of_ble_eq_true rfl⟩ ⟨Nat.le_of_ble_eq_true rfl, Nat.le_of_ble_eq_true rfl⟩ hl (Nat.le_of_ble_eq_true rfl) rfl dX5_mono_6 (fun H locs B => ?_)
  refine z_ifB_ne (tgt := 35) C dX5_mono_9 (by decide) (fun h9 => ?_) (fun h9 => ?_)
  · exact absurd h9 (by decide)
  · refine lv_aload_n C.1 C.2.1 dX5_mono_12 rfl (lv_at hl 0 rfl) ?_
    refine lv_iload_n C.1 C.2.1 dX5_mono_13 rfl (lv_at hl 2 rfl) ?_
    refine z_iconst C dX5_mono_14 ?_
    refine z_bipush C dX5_mono_15 (by decide) ?_
    refine z_call C (c_X5_isIn l (g) (0 : Int) (32 : Int) (by first | assumption | omega | rfl | exact decide_eq_false (by omega) | exact decide_eq_true (by assumption) | exact decide_eq_true (by omega) | exact one_shl33 (by omega) | exact pm_lt _ _ | exact rm_lt (by first | assumption | exact pm_lt _ _) | exact Nat.lt_of_le_of_lt (Nat.shiftRight_le _ _) (by assumption) | exact Nat.lt_of_le_of_lt Nat.and_le_right (by omega)) (by first | assumption | omega | rfl | exact decide_eq_false (by omega) | exact decide_eq_true (by assumption) | exact decide_eq_true (by omega) | exact one_shl33 (by omega) | exact pm_lt _ _ | exact rm_lt (by first | assumption | exact pm_lt _ _) | exact Nat.lt_of_le_of_lt (Nat.shiftRight_le _ _) (by assumption) | exact Nat.lt_of_le_of_lt Nat.and_le_right (by omega)) (by first | assumption | omega | rfl | exact decide_eq_false (by omega) | exact decide_eq_true (by assumption) | exact decide_eq_true (by omega) | exact one_shl33 (by omega) | exact pm_lt _ _ | exact rm_lt (by first | assumption | exact pm_lt _ _) | exact Nat.lt_of_le_of_lt (Nat.shiftRight_le _ _) (by assumption) | exact Nat.lt_of_le_of_lt Nat.and_le_right (by omega))) ml_X5_21 ⟨by decide, by decide⟩ ⟨Nat.le_of_ble_eq_true rfl, Nat.le_of_ble_eq_true rfl⟩ hl (Nat.le_of_ble_eq_true rfl) rfl dX5_mono_17 ?_
    refine z_ifB_ne (tgt := 27) C dX5_mono_20 (by decide) (fun h20 => ?_) (fun h20 => ?_)
    · have g20 := of_decide_eq_true h20
      refine z_iconst C dX5_mono_27 ?_
      refine z_iconst C dX5_mono_28 ?_
      exfalso; omega
    · have g20 := of_decide_eq_false h20
      refine z_iconst C dX5_mono_23 ?_
      refine lv_goto (tgt := 28) C.1 C.2.1 dX5_mono_24 (by decide) ?_
      refine z_iconst C dX5_mono_28 ?_
      refine zo_callD C B (r := some (.int (iZ (zB (true))))) (c_X5_refuse_bad l D cJ o a (c) (0) ((ac)) ((re)) ((kn)) (true) (2 : Int) (by first | assumption | omega | rfl | exact decide_eq_false (by omega) | exact decide_eq_true (by assumption) | exact decide_eq_true (by omega) | exact one_shl33 (by omega) | exact pm_lt _ _ | exact rm_lt (by first | assumption | exact pm_lt _ _) | exact Nat.lt_of_le_of_lt (Nat.shiftRight_le _ _) (by assumption) | exact Nat.lt_of_le_of_lt Nat.and_le_right (by omega)) (by first | assumption | omega | rfl | exact decide_eq_false (by omega) | exact decide_eq_true (by assumption) | exact decide_eq_true (by omega) | exact one_shl33 (by omega) | exact pm_lt _ _ | exact rm_lt (by first | assumption | exact pm_lt _ _) | exact Nat.lt_of_le_of_lt (Nat.shiftRight_le _ _) (by assumption) | exact Nat.lt_of_le_of_lt Nat.and_le_right (by omega)) (by first | assumption | omega | rfl | exact decide_eq_false (by omega) | exact decide_eq_true (by assumption) | exact decide_eq_true (by omega) | exact one_shl33 (by omega) | exact pm_lt _ _ | exact rm_lt (by first | assumption | exact pm_lt _ _) | exact Nat.lt_of_le_of_lt (Nat.shiftRight_le _ _) (by assumption) | exact Nat.lt_of_le_of_lt Nat.and_le_right (by omega))) ml_X5_17 rfl ⟨Nat.le_of_ble_eq_true rfl, Nat.le_of_ble_eq_true rfl⟩ ⟨Nat.le_of_ble_eq_true rfl, Nat.le_of_ble_eq_true rfl⟩ hl (Nat.le_of_ble_eq_true rfl) rfl dX5_mono_29 (fun H locs B => ?_)
      refine z_ifB_eq (tgt := 39) C dX5_mono_32 (by decide) (fun h32 => ?_) (fun h32 => ?_)
      · exact absurd h32 (by decide)
      · refine z_iconst C dX5_mono_35 ?_
        refine lv_goto (tgt := 47) C.1 C.2.1 dX5_mono_36 (by decide) ?_
        exact zo_iret C B hr hk (Nat.le_of_ble_eq_true rfl) (Nat.le_of_ble_eq_true rfl) dX5_mono_47 (by exact congrArg (fun z : Int => some (Value.int (iZ z))) (by rfl)) (by rfl) (by rfl)

set_option maxHeartbeats 4000000 in
set_option maxRecDepth 100000 in
theorem c_X5_digit_bad1 (l : Launch) (D : va_G) (cJ : ClassId) (o a : Nat) (c : Nat → Nat) (th : Int) (ac : Int32) (re : Int32) (kn : Int32) (z : Int) (g : Int) (b : Bool) (r9z : -2147483648 ≤ z ∧ z ≤ 2147483647) (r9g : -2147483648 ≤ g ∧ g ≤ 2147483647) (hbad : ¬ ((0 ≤ z ∧ z ≤ 5))) : zA l yX5_digit 2 68 0 0 D 4 cJ o a [.int (iZ (z)), .int (iZ (g)), .int (iZ (zB (b)))] c [.int (iZ (th)), .int (ac), .int (re), .int (kn)] (fun v => v = some (.int (iZ (0)))) (c) [.int (iZ (1)), .int (ac), .int (re), .int (kn)] := by
  refine zA.intro (lo := 44) (nA := 3) (own := RX5) zi_X5_digit (by decide) rfl rfl (by decide +kernel) rfl (Nat.le_of_ble_eq_true rfl) ?_
  intro p e s m below meth c0 ls C hr hk B hl
  have hl : lv_has ls 5 [(0, .ref o), (1, .int (iZ (z))), (2, .int (iZ (g))), (3, .int (iZ (zB (b))))] := hl
  refine lv_aload_n C.1 C.2.1 dX5_digit_0 rfl (lv_at hl 0 rfl) ?_
  refine lv_iload_n C.1 C.2.1 dX5_digit_1 rfl (lv_at hl 1 rfl) ?_
  refine z_call C (c_X5_isNo l (z) (by first | assumption | omega | rfl | exact decide_eq_false (by omega) | exact decide_eq_true (by assumption) | exact decide_eq_true (by omega) | exact one_shl33 (by omega) | exact pm_lt _ _ | exact rm_lt (by first | assumption | exact pm_lt _ _) | exact Nat.lt_of_le_of_lt (Nat.shiftRight_le _ _) (by assumption) | exact Nat.lt_of_le_of_lt Nat.and_le_right (by omega))) ml_X5_67 ⟨by decide, by decide⟩ ⟨Nat.le_of_ble_eq_true rfl, Nat.le_of_ble_eq_true rfl⟩ hl (Nat.le_of_ble_eq_true rfl) rfl dX5_digit_2 ?_
  refine z_iconst C dX5_digit_5 ?_
  refine zo_callD C B (r := some (.int (iZ (zB (true))))) (c_X5_start_bad l D cJ o a (c) (th) (ac) (re) (kn) (decide (¬ (0 ≤ (z) ∧ (z) ≤ 5))) (1 : Int) (by first | assumption | omega | rfl | exact decide_eq_false (by omega) | exact decide_eq_true (by assumption) | exact decide_eq_true (by omega) | exact one_shl33 (by omega) | exact pm_lt _ _ | exact rm_lt (by first | assumption | exact pm_lt _ _) | exact Nat.lt_of_le_of_lt (Nat.shiftRight_le _ _) (by assumption) | exact Nat.lt_of_le_of_lt Nat.and_le_right (by omega)) (by first | assumption | omega | rfl | exact decide_eq_false (by omega) | exact decide_eq_true (by assumption) | exact decide_eq_true (by omega) | exact one_shl33 (by omega) | exact pm_lt _ _ | exact rm_lt (by first | assumption | exact pm_lt _ _) | exact Nat.lt_of_le_of_lt (Nat.shiftRight_le _ _) (by assumption) | exact Nat.lt_of_le_of_lt Nat.and_le_right (by omega))) ml_X5_71 rfl ⟨Nat.le_of_ble_eq_true rfl, Nat.le_of_ble_eq_true rfl⟩ ⟨Nat.le_of_ble_eq_true rfl, Nat.le_of_ble_eq_true rfl⟩ hl (Nat.le_of_ble_eq_true rfl) rfl dX5_digit_6 (fun H locs B => ?_)
  refine z_ifB_ne (tgt := 35) C dX5_digit_9 (by decide) (fun h9 => ?_) (fun h9 => ?_)
  · refine z_iconst C dX5_digit_35 ?_
    exact zo_zret C B hr hk (Nat.le_of_ble_eq_true rfl) (Nat.le_of_ble_eq_true rfl) dX5_digit_36 (by decide) (by exact congrArg (fun z : Int => some (Value.int (iZ z))) (by rfl)) (by rfl) (by rfl)
  · exact absurd h9 (by decide)

set_option maxHeartbeats 4000000 in
set_option maxRecDepth 100000 in
theorem c_X5_digit_bad2 (l : Launch) (D : va_G) (cJ : ClassId) (o a : Nat) (c : Nat → Nat) (th : Int) (ac : Int32) (re : Int32) (kn : Int32) (z : Int) (g : Int) (b : Bool) (r9z : -2147483648 ≤ z ∧ z ≤ 2147483647) (r9g : -2147483648 ≤ g ∧ g ≤ 2147483647) (hcel : (0 ≤ z ∧ z ≤ 5)) (hbad : ¬ ((0 ≤ g ∧ g ≤ 32))) : zA l yX5_digit 2 68 0 0 D 4 cJ o a [.int (iZ (z)), .int (iZ (g)), .int (iZ (zB (b)))] c [.int (iZ (th)), .int (ac), .int (re), .int (kn)] (fun v => v = some (.int (iZ (0)))) (c) [.int (iZ (2)), .int (ac), .int (re), .int (kn)] := by
  refine zA.intro (lo := 44) (nA := 3) (own := RX5) zi_X5_digit (by decide) rfl rfl (by decide +kernel) rfl (Nat.le_of_ble_eq_true rfl) ?_
  intro p e s m below meth c0 ls C hr hk B hl
  have hl : lv_has ls 5 [(0, .ref o), (1, .int (iZ (z))), (2, .int (iZ (g))), (3, .int (iZ (zB (b))))] := hl
  refine lv_aload_n C.1 C.2.1 dX5_digit_0 rfl (lv_at hl 0 rfl) ?_
  refine lv_iload_n C.1 C.2.1 dX5_digit_1 rfl (lv_at hl 1 rfl) ?_
  refine z_call C (c_X5_isNo l (z) (by first | assumption | omega | rfl | exact decide_eq_false (by omega) | exact decide_eq_true (by assumption) | exact decide_eq_true (by omega) | exact one_shl33 (by omega) | exact pm_lt _ _ | exact rm_lt (by first | assumption | exact pm_lt _ _) | exact Nat.lt_of_le_of_lt (Nat.shiftRight_le _ _) (by assumption) | exact Nat.lt_of_le_of_lt Nat.and_le_right (by omega))) ml_X5_67 ⟨by decide, by decide⟩ ⟨Nat.le_of_ble_eq_true rfl, Nat.le_of_ble_eq_true rfl⟩ hl (Nat.le_of_ble_eq_true rfl) rfl dX5_digit_2 ?_
  refine z_iconst C dX5_digit_5 ?_
  refine zo_callD C B (r := some (.int (iZ (zB (false))))) (c_X5_start_ok l D cJ o a (c) (th) (ac) (re) (kn) (decide (¬ (0 ≤ (z) ∧ (z) ≤ 5))) (1 : Int) (by first | assumption | omega | rfl | exact decide_eq_false (by omega) | exact decide_eq_true (by assumption) | exact decide_eq_true (by omega) | exact one_shl33 (by omega) | exact pm_lt _ _ | exact rm_lt (by first | assumption | exact pm_lt _ _) | exact Nat.lt_of_le_of_lt (Nat.shiftRight_le _ _) (by assumption) | exact Nat.lt_of_le_of_lt Nat.and_le_right (by omega))) ml_X5_71 rfl ⟨Nat.le_of_ble_eq_true rfl, Nat.le_of_ble_eq_true rfl⟩ ⟨Nat.le_of_ble_eq_true rfl, Nat.le_of_ble_eq_true rfl⟩ hl (Nat.le_of_ble_eq_true rfl) rfl dX5_digit_6 (fun H locs B => ?_)
  refine z_ifB_ne (tgt := 35) C dX5_digit_9 (by decide) (fun h9 => ?_) (fun h9 => ?_)
  · exact absurd h9 (by decide)
  · refine lv_aload_n C.1 C.2.1 dX5_digit_12 rfl (lv_at hl 0 rfl) ?_
    refine lv_iload_n C.1 C.2.1 dX5_digit_13 rfl (lv_at hl 2 rfl) ?_
    refine z_iconst C dX5_digit_14 ?_
    refine z_bipush C dX5_digit_15 (by decide) ?_
    refine z_call C (c_X5_isIn l (g) (0 : Int) (32 : Int) (by first | assumption | omega | rfl | exact decide_eq_false (by omega) | exact decide_eq_true (by assumption) | exact decide_eq_true (by omega) | exact one_shl33 (by omega) | exact pm_lt _ _ | exact rm_lt (by first | assumption | exact pm_lt _ _) | exact Nat.lt_of_le_of_lt (Nat.shiftRight_le _ _) (by assumption) | exact Nat.lt_of_le_of_lt Nat.and_le_right (by omega)) (by first | assumption | omega | rfl | exact decide_eq_false (by omega) | exact decide_eq_true (by assumption) | exact decide_eq_true (by omega) | exact one_shl33 (by omega) | exact pm_lt _ _ | exact rm_lt (by first | assumption | exact pm_lt _ _) | exact Nat.lt_of_le_of_lt (Nat.shiftRight_le _ _) (by assumption) | exact Nat.lt_of_le_of_lt Nat.and_le_right (by omega)) (by first | assumption | omega | rfl | exact decide_eq_false (by omega) | exact decide_eq_true (by assumption) | exact decide_eq_true (by omega) | exact one_shl33 (by omega) | exact pm_lt _ _ | exact rm_lt (by first | assumption | exact pm_lt _ _) | exact Nat.lt_of_le_of_lt (Nat.shiftRight_le _ _) (by assumption) | exact Nat.lt_of_le_of_lt Nat.and_le_right (by omega))) ml_X5_21 ⟨by decide, by decide⟩ ⟨Nat.le_of_ble_eq_true rfl, Nat.le_of_ble_eq_true rfl⟩ hl (Nat.le_of_ble_eq_true rfl) rfl dX5_digit_17 ?_
    refine z_ifB_ne (tgt := 27) C dX5_digit_20 (by decide) (fun h20 => ?_) (fun h20 => ?_)
    · have g20 := of_decide_eq_true h20
      refine z_iconst C dX5_digit_27 ?_
      refine z_iconst C dX5_digit_28 ?_
      exfalso; omega
    · have g20 := of_decide_eq_false h20
      refine z_iconst C dX5_digit_23 ?_
      refine lv_goto (tgt := 28) C.1 C.2.1 dX5_digit_24 (by decide) ?_
      refine z_iconst C dX5_digit_28 ?_
      refine zo_callD C B (r := some (.int (iZ (zB (true))))) (c_X5_refuse_bad l D cJ o a (c) (0) ((ac)) ((re)) ((kn)) (true) (2 : Int) (by first | assumption | omega | rfl | exact decide_eq_false (by omega) | exact decide_eq_true (by assumption) | exact decide_eq_true (by omega) | exact one_shl33 (by omega) | exact pm_lt _ _ | exact rm_lt (by first | assumption | exact pm_lt _ _) | exact Nat.lt_of_le_of_lt (Nat.shiftRight_le _ _) (by assumption) | exact Nat.lt_of_le_of_lt Nat.and_le_right (by omega)) (by first | assumption | omega | rfl | exact decide_eq_false (by omega) | exact decide_eq_true (by assumption) | exact decide_eq_true (by omega) | exact one_shl33 (by omega) | exact pm_lt _ _ | exact rm_lt (by first | assumption | exact pm_lt _ _) | exact Nat.lt_of_le_of_lt (Nat.shiftRight_le _ _) (by assumption) | exact Nat.lt_of_le_of_lt Nat.and_le_right (by omega)) (by first | assumption | omega | rfl | exact decide_eq_false (by omega) | exact decide_eq_true (by assumption) | exact decide_eq_true (by omega) | exact one_shl33 (by omega) | exact pm_lt _ _ | exact rm_lt (by first | assumption | exact pm_lt _ _) | exact Nat.lt_of_le_of_lt (Nat.shiftRight_le _ _) (by assumption) | exact Nat.lt_of_le_of_lt Nat.and_le_right (by omega))) ml_X5_17 rfl ⟨Nat.le_of_ble_eq_true rfl, Nat.le_of_ble_eq_true rfl⟩ ⟨Nat.le_of_ble_eq_true rfl, Nat.le_of_ble_eq_true rfl⟩ hl (Nat.le_of_ble_eq_true rfl) rfl dX5_digit_29 (fun H locs B => ?_)
      refine z_ifB_eq (tgt := 37) C dX5_digit_32 (by decide) (fun h32 => ?_) (fun h32 => ?_)
      · exact absurd h32 (by decide)
      · refine z_iconst C dX5_digit_35 ?_
        exact zo_zret C B hr hk (Nat.le_of_ble_eq_true rfl) (Nat.le_of_ble_eq_true rfl) dX5_digit_36 (by decide) (by exact congrArg (fun z : Int => some (Value.int (iZ z))) (by rfl)) (by rfl) (by rfl)

set_option maxHeartbeats 4000000 in
set_option maxRecDepth 100000 in
theorem c_X5_flip_bad1 (l : Launch) (D : va_G) (cJ : ClassId) (o a : Nat) (c : Nat → Nat) (th : Int) (ac : Int32) (re : Int32) (kn : Int32) (z : Int) (g : Int) (r9z : -2147483648 ≤ z ∧ z ≤ 2147483647) (r9g : -2147483648 ≤ g ∧ g ≤ 2147483647) (hbad : ¬ ((0 ≤ z ∧ z ≤ 5))) : zA l yX5_flip 2 66 0 0 D 4 cJ o a [.int (iZ (z)), .int (iZ (g))] c [.int (iZ (th)), .int (ac), .int (re), .int (kn)] (fun v => v = some (.int (iZ (0)))) (c) [.int (iZ (1)), .int (ac), .int (re), .int (kn)] := by
  refine zA.intro (lo := 44) (nA := 2) (own := RX5) zi_X5_flip (by decide) rfl rfl (by decide +kernel) rfl (Nat.le_of_ble_eq_true rfl) ?_
  intro p e s m below meth c0 ls C hr hk B hl
  have hl : lv_has ls 3 [(0, .ref o), (1, .int (iZ (z))), (2, .int (iZ (g)))] := hl
  refine lv_aload_n C.1 C.2.1 dX5_flip_0 rfl (lv_at hl 0 rfl) ?_
  refine lv_iload_n C.1 C.2.1 dX5_flip_1 rfl (lv_at hl 1 rfl) ?_
  refine z_call C (c_X5_isNo l (z) (by first | assumption | omega | rfl | exact decide_eq_false (by omega) | exact decide_eq_true (by assumption) | exact decide_eq_true (by omega) | exact one_shl33 (by omega) | exact pm_lt _ _ | exact rm_lt (by first | assumption | exact pm_lt _ _) | exact Nat.lt_of_le_of_lt (Nat.shiftRight_le _ _) (by assumption) | exact Nat.lt_of_le_of_lt Nat.and_le_right (by omega))) ml_X5_67 ⟨by decide, by decide⟩ ⟨Nat.le_of_ble_eq_true rfl, Nat.le_of_ble_eq_true rfl⟩ hl (Nat.le_of_ble_eq_true rfl) rfl dX5_flip_2 ?_
  refine z_iconst C dX5_flip_5 ?_
  refine zo_callD C B (r := some (.int (iZ (zB (true))))) (c_X5_start_bad l D cJ o a (c) (th) (ac) (re) (kn) (decide (¬ (0 ≤ (z) ∧ (z) ≤ 5))) (1 : Int) (by first | assumption | omega | rfl | exact decide_eq_false (by omega) | exact decide_eq_true (by assumption) | exact decide_eq_true (by omega) | exact one_shl33 (by omega) | exact pm_lt _ _ | exact rm_lt (by first | assumption | exact pm_lt _ _) | exact Nat.lt_of_le_of_lt (Nat.shiftRight_le _ _) (by assumption) | exact Nat.lt_of_le_of_lt Nat.and_le_right (by omega)) (by first | assumption | omega | rfl | exact decide_eq_false (by omega) | exact decide_eq_true (by assumption) | exact decide_eq_true (by omega) | exact one_shl33 (by omega) | exact pm_lt _ _ | exact rm_lt (by first | assumption | exact pm_lt _ _) | exact Nat.lt_of_le_of_lt (Nat.shiftRight_le _ _) (by assumption) | exact Nat.lt_of_le_of_lt Nat.and_le_right (by omega))) ml_X5_71 rfl ⟨Nat.le_of_ble_eq_true rfl, Nat.le_of_ble_eq_true rfl⟩ ⟨Nat.le_of_ble_eq_true rfl, Nat.le_of_ble_eq_true rfl⟩ hl (Nat.le_of_ble_eq_true rfl) rfl dX5_flip_6 (fun H locs B => ?_)
  refine z_ifB_ne (tgt := 35) C dX5_flip_9 (by decide) (fun h9 => ?_) (fun h9 => ?_)
  · refine z_iconst C dX5_flip_35 ?_
    exact zo_zret C B hr hk (Nat.le_of_ble_eq_true rfl) (Nat.le_of_ble_eq_true rfl) dX5_flip_36 (by decide) (by exact congrArg (fun z : Int => some (Value.int (iZ z))) (by rfl)) (by rfl) (by rfl)
  · exact absurd h9 (by decide)

set_option maxHeartbeats 4000000 in
set_option maxRecDepth 100000 in
theorem c_X5_flip_bad2 (l : Launch) (D : va_G) (cJ : ClassId) (o a : Nat) (c : Nat → Nat) (th : Int) (ac : Int32) (re : Int32) (kn : Int32) (z : Int) (g : Int) (r9z : -2147483648 ≤ z ∧ z ≤ 2147483647) (r9g : -2147483648 ≤ g ∧ g ≤ 2147483647) (hcel : (0 ≤ z ∧ z ≤ 5)) (hbad : ¬ ((0 ≤ g ∧ g ≤ 32))) : zA l yX5_flip 2 66 0 0 D 4 cJ o a [.int (iZ (z)), .int (iZ (g))] c [.int (iZ (th)), .int (ac), .int (re), .int (kn)] (fun v => v = some (.int (iZ (0)))) (c) [.int (iZ (2)), .int (ac), .int (re), .int (kn)] := by
  refine zA.intro (lo := 44) (nA := 2) (own := RX5) zi_X5_flip (by decide) rfl rfl (by decide +kernel) rfl (Nat.le_of_ble_eq_true rfl) ?_
  intro p e s m below meth c0 ls C hr hk B hl
  have hl : lv_has ls 3 [(0, .ref o), (1, .int (iZ (z))), (2, .int (iZ (g)))] := hl
  refine lv_aload_n C.1 C.2.1 dX5_flip_0 rfl (lv_at hl 0 rfl) ?_
  refine lv_iload_n C.1 C.2.1 dX5_flip_1 rfl (lv_at hl 1 rfl) ?_
  refine z_call C (c_X5_isNo l (z) (by first | assumption | omega | rfl | exact decide_eq_false (by omega) | exact decide_eq_true (by assumption) | exact decide_eq_true (by omega) | exact one_shl33 (by omega) | exact pm_lt _ _ | exact rm_lt (by first | assumption | exact pm_lt _ _) | exact Nat.lt_of_le_of_lt (Nat.shiftRight_le _ _) (by assumption) | exact Nat.lt_of_le_of_lt Nat.and_le_right (by omega))) ml_X5_67 ⟨by decide, by decide⟩ ⟨Nat.le_of_ble_eq_true rfl, Nat.le_of_ble_eq_true rfl⟩ hl (Nat.le_of_ble_eq_true rfl) rfl dX5_flip_2 ?_
  refine z_iconst C dX5_flip_5 ?_
  refine zo_callD C B (r := some (.int (iZ (zB (false))))) (c_X5_start_ok l D cJ o a (c) (th) (ac) (re) (kn) (decide (¬ (0 ≤ (z) ∧ (z) ≤ 5))) (1 : Int) (by first | assumption | omega | rfl | exact decide_eq_false (by omega) | exact decide_eq_true (by assumption) | exact decide_eq_true (by omega) | exact one_shl33 (by omega) | exact pm_lt _ _ | exact rm_lt (by first | assumption | exact pm_lt _ _) | exact Nat.lt_of_le_of_lt (Nat.shiftRight_le _ _) (by assumption) | exact Nat.lt_of_le_of_lt Nat.and_le_right (by omega))) ml_X5_71 rfl ⟨Nat.le_of_ble_eq_true rfl, Nat.le_of_ble_eq_true rfl⟩ ⟨Nat.le_of_ble_eq_true rfl, Nat.le_of_ble_eq_true rfl⟩ hl (Nat.le_of_ble_eq_true rfl) rfl dX5_flip_6 (fun H locs B => ?_)
  refine z_ifB_ne (tgt := 35) C dX5_flip_9 (by decide) (fun h9 => ?_) (fun h9 => ?_)
  · exact absurd h9 (by decide)
  · refine lv_aload_n C.1 C.2.1 dX5_flip_12 rfl (lv_at hl 0 rfl) ?_
    refine lv_iload_n C.1 C.2.1 dX5_flip_13 rfl (lv_at hl 2 rfl) ?_
    refine z_iconst C dX5_flip_14 ?_
    refine z_bipush C dX5_flip_15 (by decide) ?_
    refine z_call C (c_X5_isIn l (g) (0 : Int) (32 : Int) (by first | assumption | omega | rfl | exact decide_eq_false (by omega) | exact decide_eq_true (by assumption) | exact decide_eq_true (by omega) | exact one_shl33 (by omega) | exact pm_lt _ _ | exact rm_lt (by first | assumption | exact pm_lt _ _) | exact Nat.lt_of_le_of_lt (Nat.shiftRight_le _ _) (by assumption) | exact Nat.lt_of_le_of_lt Nat.and_le_right (by omega)) (by first | assumption | omega | rfl | exact decide_eq_false (by omega) | exact decide_eq_true (by assumption) | exact decide_eq_true (by omega) | exact one_shl33 (by omega) | exact pm_lt _ _ | exact rm_lt (by first | assumption | exact pm_lt _ _) | exact Nat.lt_of_le_of_lt (Nat.shiftRight_le _ _) (by assumption) | exact Nat.lt_of_le_of_lt Nat.and_le_right (by omega)) (by first | assumption | omega | rfl | exact decide_eq_false (by omega) | exact decide_eq_true (by assumption) | exact decide_eq_true (by omega) | exact one_shl33 (by omega) | exact pm_lt _ _ | exact rm_lt (by first | assumption | exact pm_lt _ _) | exact Nat.lt_of_le_of_lt (Nat.shiftRight_le _ _) (by assumption) | exact Nat.lt_of_le_of_lt Nat.and_le_right (by omega))) ml_X5_21 ⟨by decide, by decide⟩ ⟨Nat.le_of_ble_eq_true rfl, Nat.le_of_ble_eq_true rfl⟩ hl (Nat.le_of_ble_eq_true rfl) rfl dX5_flip_17 ?_
    refine z_ifB_ne (tgt := 27) C dX5_flip_20 (by decide) (fun h20 => ?_) (fun h20 => ?_)
    · have g20 := of_decide_eq_true h20
      refine z_iconst C dX5_flip_27 ?_
      refine z_iconst C dX5_flip_28 ?_
      exfalso; omega
    · have g20 := of_decide_eq_false h20
      refine z_iconst C dX5_flip_23 ?_
      refine lv_goto (tgt := 28) C.1 C.2.1 dX5_flip_24 (by decide) ?_
      refine z_iconst C dX5_flip_28 ?_
      refine zo_callD C B (r := some (.int (iZ (zB (true))))) (c_X5_refuse_bad l D cJ o a (c) (0) ((ac)) ((re)) ((kn)) (true) (2 : Int) (by first | assumption | omega | rfl | exact decide_eq_false (by omega) | exact decide_eq_true (by assumption) | exact decide_eq_true (by omega) | exact one_shl33 (by omega) | exact pm_lt _ _ | exact rm_lt (by first | assumption | exact pm_lt _ _) | exact Nat.lt_of_le_of_lt (Nat.shiftRight_le _ _) (by assumption) | exact Nat.lt_of_le_of_lt Nat.and_le_right (by omega)) (by first | assumption | omega | rfl | exact decide_eq_false (by omega) | exact decide_eq_true (by assumption) | exact decide_eq_true (by omega) | exact one_shl33 (by omega) | exact pm_lt _ _ | exact rm_lt (by first | assumption | exact pm_lt _ _) | exact Nat.lt_of_le_of_lt (Nat.shiftRight_le _ _) (by assumption) | exact Nat.lt_of_le_of_lt Nat.and_le_right (by omega)) (by first | assumption | omega | rfl | exact decide_eq_false (by omega) | exact decide_eq_true (by assumption) | exact decide_eq_true (by omega) | exact one_shl33 (by omega) | exact pm_lt _ _ | exact rm_lt (by first | assumption | exact pm_lt _ _) | exact Nat.lt_of_le_of_lt (Nat.shiftRight_le _ _) (by assumption) | exact Nat.lt_of_le_of_lt Nat.and_le_right (by omega))) ml_X5_17 rfl ⟨Nat.le_of_ble_eq_true rfl, Nat.le_of_ble_eq_true rfl⟩ ⟨Nat.le_of_ble_eq_true rfl, Nat.le_of_ble_eq_true rfl⟩ hl (Nat.le_of_ble_eq_true rfl) rfl dX5_flip_29 (fun H locs B => ?_)
      refine z_ifB_eq (tgt := 37) C dX5_flip_32 (by decide) (fun h32 => ?_) (fun h32 => ?_)
      · exact absurd h32 (by decide)
      · refine z_iconst C dX5_flip_35 ?_
        exact zo_zret C B hr hk (Nat.le_of_ble_eq_true rfl) (Nat.le_of_ble_eq_true rfl) dX5_flip_36 (by decide) (by exact congrArg (fun z : Int => some (Value.int (iZ z))) (by rfl)) (by rfl) (by rfl)

set_option maxHeartbeats 4000000 in
set_option maxRecDepth 100000 in
theorem c_X5_copy_bad1 (l : Launch) (D : va_G) (cJ : ClassId) (o a : Nat) (c : Nat → Nat) (th : Int) (ac : Int32) (re : Int32) (kn : Int32) (f : Int) (z : Int) (r9f : -2147483648 ≤ f ∧ f ≤ 2147483647) (r9z : -2147483648 ≤ z ∧ z ≤ 2147483647) (hbad : ¬ ((0 ≤ f ∧ f ≤ 5) ∧ (0 ≤ z ∧ z ≤ 5))) : zA l yX5_copy 2 66 0 0 D 4 cJ o a [.int (iZ (f)), .int (iZ (z))] c [.int (iZ (th)), .int (ac), .int (re), .int (kn)] (fun v => v = some (.int (iZ (0)))) (c) [.int (iZ (1)), .int (ac), .int (re), .int (kn)] := by
  refine zA.intro (lo := 44) (nA := 2) (own := RX5) zi_X5_copy (by decide) rfl rfl (by decide +kernel) rfl (Nat.le_of_ble_eq_true rfl) ?_
  intro p e s m below meth c0 ls C hr hk B hl
  have hl : lv_has ls 3 [(0, .ref o), (1, .int (iZ (f))), (2, .int (iZ (z)))] := hl
  refine lv_aload_n C.1 C.2.1 dX5_copy_0 rfl (lv_at hl 0 rfl) ?_
  refine lv_iload_n C.1 C.2.1 dX5_copy_1 rfl (lv_at hl 1 rfl) ?_
  refine z_call C (c_X5_isNo l (f) (by first | assumption | omega | rfl | exact decide_eq_false (by omega) | exact decide_eq_true (by assumption) | exact decide_eq_true (by omega) | exact one_shl33 (by omega) | exact pm_lt _ _ | exact rm_lt (by first | assumption | exact pm_lt _ _) | exact Nat.lt_of_le_of_lt (Nat.shiftRight_le _ _) (by assumption) | exact Nat.lt_of_le_of_lt Nat.and_le_right (by omega))) ml_X5_67 ⟨by decide, by decide⟩ ⟨Nat.le_of_ble_eq_true rfl, Nat.le_of_ble_eq_true rfl⟩ hl (Nat.le_of_ble_eq_true rfl) rfl dX5_copy_2 ?_
  refine z_ifB_ne (tgt := 15) C dX5_copy_5 (by decide) (fun h5 => ?_) (fun h5 => ?_)
  · have g5 := of_decide_eq_true h5
    refine z_iconst C dX5_copy_15 ?_
    refine lv_goto (tgt := 20) C.1 C.2.1 dX5_copy_16 (by decide) ?_
    refine z_iconst C dX5_copy_20 ?_
    refine zo_callD C B (r := some (.int (iZ (zB (true))))) (c_X5_start_bad l D cJ o a (c) (th) (ac) (re) (kn) (true) (1 : Int) (by first | assumption | omega | rfl | exact decide_eq_false (by omega) | exact decide_eq_true (by assumption) | exact decide_eq_true (by omega) | exact one_shl33 (by omega) | exact pm_lt _ _ | exact rm_lt (by first | assumption | exact pm_lt _ _) | exact Nat.lt_of_le_of_lt (Nat.shiftRight_le _ _) (by assumption) | exact Nat.lt_of_le_of_lt Nat.and_le_right (by omega)) (by first | assumption | omega | rfl | exact decide_eq_false (by omega) | exact decide_eq_true (by assumption) | exact decide_eq_true (by omega) | exact one_shl33 (by omega) | exact pm_lt _ _ | exact rm_lt (by first | assumption | exact pm_lt _ _) | exact Nat.lt_of_le_of_lt (Nat.shiftRight_le _ _) (by assumption) | exact Nat.lt_of_le_of_lt Nat.and_le_right (by omega))) ml_X5_71 rfl ⟨Nat.le_of_ble_eq_true rfl, Nat.le_of_ble_eq_true rfl⟩ ⟨Nat.le_of_ble_eq_true rfl, Nat.le_of_ble_eq_true rfl⟩ hl (Nat.le_of_ble_eq_true rfl) rfl dX5_copy_21 (fun H locs B => ?_)
    refine z_ifB_eq (tgt := 31) C dX5_copy_24 (by decide) (fun h24 => ?_) (fun h24 => ?_)
    · exact absurd h24 (by decide)
    · refine z_iconst C dX5_copy_27 ?_
      refine lv_goto (tgt := 42) C.1 C.2.1 dX5_copy_28 (by decide) ?_
      exact zo_iret C B hr hk (Nat.le_of_ble_eq_true rfl) (Nat.le_of_ble_eq_true rfl) dX5_copy_42 (by exact congrArg (fun z : Int => some (Value.int (iZ z))) (by rfl)) (by rfl) (by rfl)
  · have g5 := of_decide_eq_false h5
    refine lv_iload_n C.1 C.2.1 dX5_copy_8 rfl (lv_at hl 2 rfl) ?_
    refine z_call C (c_X5_isNo l (z) (by first | assumption | omega | rfl | exact decide_eq_false (by omega) | exact decide_eq_true (by assumption) | exact decide_eq_true (by omega) | exact one_shl33 (by omega) | exact pm_lt _ _ | exact rm_lt (by first | assumption | exact pm_lt _ _) | exact Nat.lt_of_le_of_lt (Nat.shiftRight_le _ _) (by assumption) | exact Nat.lt_of_le_of_lt Nat.and_le_right (by omega))) ml_X5_67 ⟨by decide, by decide⟩ ⟨Nat.le_of_ble_eq_true rfl, Nat.le_of_ble_eq_true rfl⟩ hl (Nat.le_of_ble_eq_true rfl) rfl dX5_copy_9 ?_
    refine z_ifB_eq (tgt := 19) C dX5_copy_12 (by decide) (fun h12 => ?_) (fun h12 => ?_)
    · have g12 := of_decide_eq_false h12
      refine z_iconst C dX5_copy_19 ?_
      refine z_iconst C dX5_copy_20 ?_
      exfalso; omega
    · have g12 := of_decide_eq_true h12
      refine z_iconst C dX5_copy_15 ?_
      refine lv_goto (tgt := 20) C.1 C.2.1 dX5_copy_16 (by decide) ?_
      refine z_iconst C dX5_copy_20 ?_
      refine zo_callD C B (r := some (.int (iZ (zB (true))))) (c_X5_start_bad l D cJ o a (c) (th) (ac) (re) (kn) (true) (1 : Int) (by first | assumption | omega | rfl | exact decide_eq_false (by omega) | exact decide_eq_true (by assumption) | exact decide_eq_true (by omega) | exact one_shl33 (by omega) | exact pm_lt _ _ | exact rm_lt (by first | assumption | exact pm_lt _ _) | exact Nat.lt_of_le_of_lt (Nat.shiftRight_le _ _) (by assumption) | exact Nat.lt_of_le_of_lt Nat.and_le_right (by omega)) (by first | assumption | omega | rfl | exact decide_eq_false (by omega) | exact decide_eq_true (by assumption) | exact decide_eq_true (by omega) | exact one_shl33 (by omega) | exact pm_lt _ _ | exact rm_lt (by first | assumption | exact pm_lt _ _) | exact Nat.lt_of_le_of_lt (Nat.shiftRight_le _ _) (by assumption) | exact Nat.lt_of_le_of_lt Nat.and_le_right (by omega))) ml_X5_71 rfl ⟨Nat.le_of_ble_eq_true rfl, Nat.le_of_ble_eq_true rfl⟩ ⟨Nat.le_of_ble_eq_true rfl, Nat.le_of_ble_eq_true rfl⟩ hl (Nat.le_of_ble_eq_true rfl) rfl dX5_copy_21 (fun H locs B => ?_)
      refine z_ifB_eq (tgt := 31) C dX5_copy_24 (by decide) (fun h24 => ?_) (fun h24 => ?_)
      · exact absurd h24 (by decide)
      · refine z_iconst C dX5_copy_27 ?_
        refine lv_goto (tgt := 42) C.1 C.2.1 dX5_copy_28 (by decide) ?_
        exact zo_iret C B hr hk (Nat.le_of_ble_eq_true rfl) (Nat.le_of_ble_eq_true rfl) dX5_copy_42 (by exact congrArg (fun z : Int => some (Value.int (iZ z))) (by rfl)) (by rfl) (by rfl)

set_option maxHeartbeats 4000000 in
set_option maxRecDepth 100000 in
theorem c_X5_swap_bad1 (l : Launch) (D : va_G) (cJ : ClassId) (o a : Nat) (c : Nat → Nat) (th : Int) (ac : Int32) (re : Int32) (kn : Int32) (f : Int) (z : Int) (r9f : -2147483648 ≤ f ∧ f ≤ 2147483647) (r9z : -2147483648 ≤ z ∧ z ≤ 2147483647) (hbad : ¬ ((0 ≤ f ∧ f ≤ 5) ∧ (0 ≤ z ∧ z ≤ 5))) : zA l yX5_swap 2 68 0 0 D 4 cJ o a [.int (iZ (f)), .int (iZ (z))] c [.int (iZ (th)), .int (ac), .int (re), .int (kn)] (fun v => v = some (.int (iZ (0)))) (c) [.int (iZ (1)), .int (ac), .int (re), .int (kn)] := by
  refine zA.intro (lo := 44) (nA := 2) (own := RX5) zi_X5_swap (by decide) rfl rfl (by decide +kernel) rfl (Nat.le_of_ble_eq_true rfl) ?_
  intro p e s m below meth c0 ls C hr hk B hl
  have hl : lv_has ls 5 [(0, .ref o), (1, .int (iZ (f))), (2, .int (iZ (z)))] := hl
  refine lv_aload_n C.1 C.2.1 dX5_swap_0 rfl (lv_at hl 0 rfl) ?_
  refine lv_iload_n C.1 C.2.1 dX5_swap_1 rfl (lv_at hl 1 rfl) ?_
  refine z_call C (c_X5_isNo l (f) (by first | assumption | omega | rfl | exact decide_eq_false (by omega) | exact decide_eq_true (by assumption) | exact decide_eq_true (by omega) | exact one_shl33 (by omega) | exact pm_lt _ _ | exact rm_lt (by first | assumption | exact pm_lt _ _) | exact Nat.lt_of_le_of_lt (Nat.shiftRight_le _ _) (by assumption) | exact Nat.lt_of_le_of_lt Nat.and_le_right (by omega))) ml_X5_67 ⟨by decide, by decide⟩ ⟨Nat.le_of_ble_eq_true rfl, Nat.le_of_ble_eq_true rfl⟩ hl (Nat.le_of_ble_eq_true rfl) rfl dX5_swap_2 ?_
  refine z_ifB_ne (tgt := 15) C dX5_swap_5 (by decide) (fun h5 => ?_) (fun h5 => ?_)
  · have g5 := of_decide_eq_true h5
    refine z_iconst C dX5_swap_15 ?_
    refine lv_goto (tgt := 20) C.1 C.2.1 dX5_swap_16 (by decide) ?_
    refine z_iconst C dX5_swap_20 ?_
    refine zo_callD C B (r := some (.int (iZ (zB (true))))) (c_X5_start_bad l D cJ o a (c) (th) (ac) (re) (kn) (true) (1 : Int) (by first | assumption | omega | rfl | exact decide_eq_false (by omega) | exact decide_eq_true (by assumption) | exact decide_eq_true (by omega) | exact one_shl33 (by omega) | exact pm_lt _ _ | exact rm_lt (by first | assumption | exact pm_lt _ _) | exact Nat.lt_of_le_of_lt (Nat.shiftRight_le _ _) (by assumption) | exact Nat.lt_of_le_of_lt Nat.and_le_right (by omega)) (by first | assumption | omega | rfl | exact decide_eq_false (by omega) | exact decide_eq_true (by assumption) | exact decide_eq_true (by omega) | exact one_shl33 (by omega) | exact pm_lt _ _ | exact rm_lt (by first | assumption | exact pm_lt _ _) | exact Nat.lt_of_le_of_lt (Nat.shiftRight_le _ _) (by assumption) | exact Nat.lt_of_le_of_lt Nat.and_le_right (by omega))) ml_X5_71 rfl ⟨Nat.le_of_ble_eq_true rfl, Nat.le_of_ble_eq_true rfl⟩ ⟨Nat.le_of_ble_eq_true rfl, Nat.le_of_ble_eq_true rfl⟩ hl (Nat.le_of_ble_eq_true rfl) rfl dX5_swap_21 (fun H locs B => ?_)
    refine z_ifB_eq (tgt := 29) C dX5_swap_24 (by decide) (fun h24 => ?_) (fun h24 => ?_)
    · exact absurd h24 (by decide)
    · refine z_iconst C dX5_swap_27 ?_
      exact zo_iret C B hr hk (Nat.le_of_ble_eq_true rfl) (Nat.le_of_ble_eq_true rfl) dX5_swap_28 (by exact congrArg (fun z : Int => some (Value.int (iZ z))) (by rfl)) (by rfl) (by rfl)
  · have g5 := of_decide_eq_false h5
    refine lv_iload_n C.1 C.2.1 dX5_swap_8 rfl (lv_at hl 2 rfl) ?_
    refine z_call C (c_X5_isNo l (z) (by first | assumption | omega | rfl | exact decide_eq_false (by omega) | exact decide_eq_true (by assumption) | exact decide_eq_true (by omega) | exact one_shl33 (by omega) | exact pm_lt _ _ | exact rm_lt (by first | assumption | exact pm_lt _ _) | exact Nat.lt_of_le_of_lt (Nat.shiftRight_le _ _) (by assumption) | exact Nat.lt_of_le_of_lt Nat.and_le_right (by omega))) ml_X5_67 ⟨by decide, by decide⟩ ⟨Nat.le_of_ble_eq_true rfl, Nat.le_of_ble_eq_true rfl⟩ hl (Nat.le_of_ble_eq_true rfl) rfl dX5_swap_9 ?_
    refine z_ifB_eq (tgt := 19) C dX5_swap_12 (by decide) (fun h12 => ?_) (fun h12 => ?_)
    · have g12 := of_decide_eq_false h12
      refine z_iconst C dX5_swap_19 ?_
      refine z_iconst C dX5_swap_20 ?_
      exfalso; omega
    · have g12 := of_decide_eq_true h12
      refine z_iconst C dX5_swap_15 ?_
      refine lv_goto (tgt := 20) C.1 C.2.1 dX5_swap_16 (by decide) ?_
      refine z_iconst C dX5_swap_20 ?_
      refine zo_callD C B (r := some (.int (iZ (zB (true))))) (c_X5_start_bad l D cJ o a (c) (th) (ac) (re) (kn) (true) (1 : Int) (by first | assumption | omega | rfl | exact decide_eq_false (by omega) | exact decide_eq_true (by assumption) | exact decide_eq_true (by omega) | exact one_shl33 (by omega) | exact pm_lt _ _ | exact rm_lt (by first | assumption | exact pm_lt _ _) | exact Nat.lt_of_le_of_lt (Nat.shiftRight_le _ _) (by assumption) | exact Nat.lt_of_le_of_lt Nat.and_le_right (by omega)) (by first | assumption | omega | rfl | exact decide_eq_false (by omega) | exact decide_eq_true (by assumption) | exact decide_eq_true (by omega) | exact one_shl33 (by omega) | exact pm_lt _ _ | exact rm_lt (by first | assumption | exact pm_lt _ _) | exact Nat.lt_of_le_of_lt (Nat.shiftRight_le _ _) (by assumption) | exact Nat.lt_of_le_of_lt Nat.and_le_right (by omega))) ml_X5_71 rfl ⟨Nat.le_of_ble_eq_true rfl, Nat.le_of_ble_eq_true rfl⟩ ⟨Nat.le_of_ble_eq_true rfl, Nat.le_of_ble_eq_true rfl⟩ hl (Nat.le_of_ble_eq_true rfl) rfl dX5_swap_21 (fun H locs B => ?_)
      refine z_ifB_eq (tgt := 29) C dX5_swap_24 (by decide) (fun h24 => ?_) (fun h24 => ?_)
      · exact absurd h24 (by decide)
      · refine z_iconst C dX5_swap_27 ?_
        exact zo_iret C B hr hk (Nat.le_of_ble_eq_true rfl) (Nat.le_of_ble_eq_true rfl) dX5_swap_28 (by exact congrArg (fun z : Int => some (Value.int (iZ z))) (by rfl)) (by rfl) (by rfl)

set_option maxHeartbeats 4000000 in
set_option maxRecDepth 100000 in
theorem c_X5_end_bad1 (l : Launch) (D : va_G) (cJ : ClassId) (o a : Nat) (c : Nat → Nat) (th : Int) (ac : Int32) (re : Int32) (kn : Int32) (f : Int) (g : Int) (b : Bool) (z : Int) (r9f : -2147483648 ≤ f ∧ f ≤ 2147483647) (r9g : -2147483648 ≤ g ∧ g ≤ 2147483647) (r9z : -2147483648 ≤ z ∧ z ≤ 2147483647) (hbad : ¬ ((0 ≤ f ∧ f ≤ 5) ∧ (0 ≤ g ∧ g ≤ 5) ∧ (0 ≤ z ∧ z ≤ 5))) : zA l yX5_end 2 68 0 0 D 4 cJ o a [.int (iZ (f)), .int (iZ (g)), .int (iZ (zB (b))), .int (iZ (z))] c [.int (iZ (th)), .int (ac), .int (re), .int (kn)] (fun v => v = some (.int (iZ (0)))) (c) [.int (iZ (1)), .int (ac), .int (re), .int (kn)] := by
  refine zA.intro (lo := 44) (nA := 4) (own := RX5) zi_X5_end (by decide) rfl rfl (by decide +kernel) rfl (Nat.le_of_ble_eq_true rfl) ?_
  intro p e s m below meth c0 ls C hr hk B hl
  have hl : lv_has ls 5 [(0, .ref o), (1, .int (iZ (f))), (2, .int (iZ (g))), (3, .int (iZ (zB (b)))), (4, .int (iZ (z)))] := hl
  refine lv_aload_n C.1 C.2.1 dX5_end_0 rfl (lv_at hl 0 rfl) ?_
  refine lv_iload_n C.1 C.2.1 dX5_end_1 rfl (lv_at hl 1 rfl) ?_
  refine z_call C (c_X5_isNo l (f) (by first | assumption | omega | rfl | exact decide_eq_false (by omega) | exact decide_eq_true (by assumption) | exact decide_eq_true (by omega) | exact one_shl33 (by omega) | exact pm_lt _ _ | exact rm_lt (by first | assumption | exact pm_lt _ _) | exact Nat.lt_of_le_of_lt (Nat.shiftRight_le _ _) (by assumption) | exact Nat.lt_of_le_of_lt Nat.and_le_right (by omega))) ml_X5_67 ⟨by decide, by decide⟩ ⟨Nat.le_of_ble_eq_true rfl, Nat.le_of_ble_eq_true rfl⟩ hl (Nat.le_of_ble_eq_true rfl) rfl dX5_end_2 ?_
  refine z_ifB_ne (tgt := 23) C dX5_end_5 (by decide) (fun h5 => ?_) (fun h5 => ?_)
  · have g5 := of_decide_eq_true h5
    refine z_iconst C dX5_end_23 ?_
    refine lv_goto (tgt := 28) C.1 C.2.1 dX5_end_24 (by decide) ?_
    refine z_iconst C dX5_end_28 ?_
    refine zo_callD C B (r := some (.int (iZ (zB (true))))) (c_X5_start_bad l D cJ o a (c) (th) (ac) (re) (kn) (true) (1 : Int) (by first | assumption | omega | rfl | exact decide_eq_false (by omega) | exact decide_eq_true (by assumption) | exact decide_eq_true (by omega) | exact one_shl33 (by omega) | exact pm_lt _ _ | exact rm_lt (by first | assumption | exact pm_lt _ _) | exact Nat.lt_of_le_of_lt (Nat.shiftRight_le _ _) (by assumption) | exact Nat.lt_of_le_of_lt Nat.and_le_right (by omega)) (by first | assumption | omega | rfl | exact decide_eq_false (by omega) | exact decide_eq_true (by assumption) | exact decide_eq_true (by omega) | exact one_shl33 (by omega) | exact pm_lt _ _ | exact rm_lt (by first | assumption | exact pm_lt _ _) | exact Nat.lt_of_le_of_lt (Nat.shiftRight_le _ _) (by assumption) | exact Nat.lt_of_le_of_lt Nat.and_le_right (by omega))) ml_X5_71 rfl ⟨Nat.le_of_ble_eq_true rfl, Nat.le_of_ble_eq_true rfl⟩ ⟨Nat.le_of_ble_eq_true rfl, Nat.le_of_ble_eq_true rfl⟩ hl (Nat.le_of_ble_eq_true rfl) rfl dX5_end_29 (fun H locs B => ?_)
    refine z_ifB_eq (tgt := 37) C dX5_end_32 (by decide) (fun h32 => ?_) (fun h32 => ?_)
    · exact absurd h32 (by decide)
    · refine z_iconst C dX5_end_35 ?_
      exact zo_iret C B hr hk (Nat.le_of_ble_eq_true rfl) (Nat.le_of_ble_eq_true rfl) dX5_end_36 (by exact congrArg (fun z : Int => some (Value.int (iZ z))) (by rfl)) (by rfl) (by rfl)
  · have g5 := of_decide_eq_false h5
    refine lv_iload_n C.1 C.2.1 dX5_end_8 rfl (lv_at hl 2 rfl) ?_
    refine z_call C (c_X5_isNo l (g) (by first | assumption | omega | rfl | exact decide_eq_false (by omega) | exact decide_eq_true (by assumption) | exact decide_eq_true (by omega) | exact one_shl33 (by omega) | exact pm_lt _ _ | exact rm_lt (by first | assumption | exact pm_lt _ _) | exact Nat.lt_of_le_of_lt (Nat.shiftRight_le _ _) (by assumption) | exact Nat.lt_of_le_of_lt Nat.and_le_right (by omega))) ml_X5_67 ⟨by decide, by decide⟩ ⟨Nat.le_of_ble_eq_true rfl, Nat.le_of_ble_eq_true rfl⟩ hl (Nat.le_of_ble_eq_true rfl) rfl dX5_end_9 ?_
    refine z_ifB_ne (tgt := 23) C dX5_end_12 (by decide) (fun h12 => ?_) (fun h12 => ?_)
    · have g12 := of_decide_eq_true h12
      refine z_iconst C dX5_end_23 ?_
      refine lv_goto (tgt := 28) C.1 C.2.1 dX5_end_24 (by decide) ?_
      refine z_iconst C dX5_end_28 ?_
      refine zo_callD C B (r := some (.int (iZ (zB (true))))) (c_X5_start_bad l D cJ o a (c) (th) (ac) (re) (kn) (true) (1 : Int) (by first | assumption | omega | rfl | exact decide_eq_false (by omega) | exact decide_eq_true (by assumption) | exact decide_eq_true (by omega) | exact one_shl33 (by omega) | exact pm_lt _ _ | exact rm_lt (by first | assumption | exact pm_lt _ _) | exact Nat.lt_of_le_of_lt (Nat.shiftRight_le _ _) (by assumption) | exact Nat.lt_of_le_of_lt Nat.and_le_right (by omega)) (by first | assumption | omega | rfl | exact decide_eq_false (by omega) | exact decide_eq_true (by assumption) | exact decide_eq_true (by omega) | exact one_shl33 (by omega) | exact pm_lt _ _ | exact rm_lt (by first | assumption | exact pm_lt _ _) | exact Nat.lt_of_le_of_lt (Nat.shiftRight_le _ _) (by assumption) | exact Nat.lt_of_le_of_lt Nat.and_le_right (by omega))) ml_X5_71 rfl ⟨Nat.le_of_ble_eq_true rfl, Nat.le_of_ble_eq_true rfl⟩ ⟨Nat.le_of_ble_eq_true rfl, Nat.le_of_ble_eq_true rfl⟩ hl (Nat.le_of_ble_eq_true rfl) rfl dX5_end_29 (fun H locs B => ?_)
      refine z_ifB_eq (tgt := 37) C dX5_end_32 (by decide) (fun h32 => ?_) (fun h32 => ?_)
      · exact absurd h32 (by decide)
      · refine z_iconst C dX5_end_35 ?_
        exact zo_iret C B hr hk (Nat.le_of_ble_eq_true rfl) (Nat.le_of_ble_eq_true rfl) dX5_end_36 (by exact congrArg (fun z : Int => some (Value.int (iZ z))) (by rfl)) (by rfl) (by rfl)
    · have g12 := of_decide_eq_false h12
      refine lv_iload C.1 C.2.1 dX5_end_15 (lv_at hl 4 rfl) ?_
      refine z_call C (c_X5_isNo l (z) (by first | assumption | omega | rfl | exact decide_eq_false (by omega) | exact decide_eq_true (by assumption) | exact decide_eq_true (by omega) | exact one_shl33 (by omega) | exact pm_lt _ _ | exact rm_lt (by first | assumption | exact pm_lt _ _) | exact Nat.lt_of_le_of_lt (Nat.shiftRight_le _ _) (by assumption) | exact Nat.lt_of_le_of_lt Nat.and_le_right (by omega))) ml_X5_67 ⟨by decide, by decide⟩ ⟨Nat.le_of_ble_eq_true rfl, Nat.le_of_ble_eq_true rfl⟩ hl (Nat.le_of_ble_eq_true rfl) rfl dX5_end_17 ?_
      refine z_ifB_eq (tgt := 27) C dX5_end_20 (by decide) (fun h20 => ?_) (fun h20 => ?_)
      · have g20 := of_decide_eq_false h20
        refine z_iconst C dX5_end_27 ?_
        refine z_iconst C dX5_end_28 ?_
        exfalso; omega
      · have g20 := of_decide_eq_true h20
        refine z_iconst C dX5_end_23 ?_
        refine lv_goto (tgt := 28) C.1 C.2.1 dX5_end_24 (by decide) ?_
        refine z_iconst C dX5_end_28 ?_
        refine zo_callD C B (r := some (.int (iZ (zB (true))))) (c_X5_start_bad l D cJ o a (c) (th) (ac) (re) (kn) (true) (1 : Int) (by first | assumption | omega | rfl | exact decide_eq_false (by omega) | exact decide_eq_true (by assumption) | exact decide_eq_true (by omega) | exact one_shl33 (by omega) | exact pm_lt _ _ | exact rm_lt (by first | assumption | exact pm_lt _ _) | exact Nat.lt_of_le_of_lt (Nat.shiftRight_le _ _) (by assumption) | exact Nat.lt_of_le_of_lt Nat.and_le_right (by omega)) (by first | assumption | omega | rfl | exact decide_eq_false (by omega) | exact decide_eq_true (by assumption) | exact decide_eq_true (by omega) | exact one_shl33 (by omega) | exact pm_lt _ _ | exact rm_lt (by first | assumption | exact pm_lt _ _) | exact Nat.lt_of_le_of_lt (Nat.shiftRight_le _ _) (by assumption) | exact Nat.lt_of_le_of_lt Nat.and_le_right (by omega))) ml_X5_71 rfl ⟨Nat.le_of_ble_eq_true rfl, Nat.le_of_ble_eq_true rfl⟩ ⟨Nat.le_of_ble_eq_true rfl, Nat.le_of_ble_eq_true rfl⟩ hl (Nat.le_of_ble_eq_true rfl) rfl dX5_end_29 (fun H locs B => ?_)
        refine z_ifB_eq (tgt := 37) C dX5_end_32 (by decide) (fun h32 => ?_) (fun h32 => ?_)
        · exact absurd h32 (by decide)
        · refine z_iconst C dX5_end_35 ?_
          exact zo_iret C B hr hk (Nat.le_of_ble_eq_true rfl) (Nat.le_of_ble_eq_true rfl) dX5_end_36 (by exact congrArg (fun z : Int => some (Value.int (iZ z))) (by rfl)) (by rfl) (by rfl)

set_option maxHeartbeats 4000000 in
set_option maxRecDepth 100000 in
theorem c_X5_join_bad1 (l : Launch) (D : va_G) (cJ : ClassId) (o a : Nat) (c : Nat → Nat) (th : Int) (ac : Int32) (re : Int32) (kn : Int32) (f : Int) (g : Int) (h : Int) (z : Int) (r9f : -2147483648 ≤ f ∧ f ≤ 2147483647) (r9g : -2147483648 ≤ g ∧ g ≤ 2147483647) (r9h : -2147483648 ≤ h ∧ h ≤ 2147483647) (r9z : -2147483648 ≤ z ∧ z ≤ 2147483647) (hbad : ¬ ((0 ≤ f ∧ f ≤ 5) ∧ (0 ≤ g ∧ g ≤ 5) ∧ (0 ≤ z ∧ z ≤ 5))) : zA l yX5_join 2 72 0 0 D 4 cJ o a [.int (iZ (f)), .int (iZ (g)), .int (iZ (h)), .int (iZ (z))] c [.int (iZ (th)), .int (ac), .int (re), .int (kn)] (fun v => v = some (.int (iZ (0)))) (c) [.int (iZ (1)), .int (ac), .int (re), .int (kn)] := by
  refine zA.intro (lo := 44) (nA := 4) (own := RX5) zi_X5_join (by decide) rfl rfl (by decide +kernel) rfl (Nat.le_of_ble_eq_true rfl) ?_
  intro p e s m below meth c0 ls C hr hk B hl
  have hl : lv_has ls 9 [(0, .ref o), (1, .int (iZ (f))), (2, .int (iZ (g))), (3, .int (iZ (h))), (4, .int (iZ (z)))] := hl
  refine lv_aload_n C.1 C.2.1 dX5_join_0 rfl (lv_at hl 0 rfl) ?_
  refine lv_iload_n C.1 C.2.1 dX5_join_1 rfl (lv_at hl 1 rfl) ?_
  refine z_call C (c_X5_isNo l (f) (by first | assumption | omega | rfl | exact decide_eq_false (by omega) | exact decide_eq_true (by assumption) | exact decide_eq_true (by omega) | exact one_shl33 (by omega) | exact pm_lt _ _ | exact rm_lt (by first | assumption | exact pm_lt _ _) | exact Nat.lt_of_le_of_lt (Nat.shiftRight_le _ _) (by assumption) | exact Nat.lt_of_le_of_lt Nat.and_le_right (by omega))) ml_X5_67 ⟨by decide, by decide⟩ ⟨Nat.le_of_ble_eq_true rfl, Nat.le_of_ble_eq_true rfl⟩ hl (Nat.le_of_ble_eq_true rfl) rfl dX5_join_2 ?_
  refine z_ifB_ne (tgt := 23) C dX5_join_5 (by decide) (fun h5 => ?_) (fun h5 => ?_)
  · have g5 := of_decide_eq_true h5
    refine z_iconst C dX5_join_23 ?_
    refine lv_goto (tgt := 28) C.1 C.2.1 dX5_join_24 (by decide) ?_
    refine z_iconst C dX5_join_28 ?_
    refine zo_callD C B (r := some (.int (iZ (zB (true))))) (c_X5_start_bad l D cJ o a (c) (th) (ac) (re) (kn) (true) (1 : Int) (by first | assumption | omega | rfl | exact decide_eq_false (by omega) | exact decide_eq_true (by assumption) | exact decide_eq_true (by omega) | exact one_shl33 (by omega) | exact pm_lt _ _ | exact rm_lt (by first | assumption | exact pm_lt _ _) | exact Nat.lt_of_le_of_lt (Nat.shiftRight_le _ _) (by assumption) | exact Nat.lt_of_le_of_lt Nat.and_le_right (by omega)) (by first | assumption | omega | rfl | exact decide_eq_false (by omega) | exact decide_eq_true (by assumption) | exact decide_eq_true (by omega) | exact one_shl33 (by omega) | exact pm_lt _ _ | exact rm_lt (by first | assumption | exact pm_lt _ _) | exact Nat.lt_of_le_of_lt (Nat.shiftRight_le _ _) (by assumption) | exact Nat.lt_of_le_of_lt Nat.and_le_right (by omega))) ml_X5_71 rfl ⟨Nat.le_of_ble_eq_true rfl, Nat.le_of_ble_eq_true rfl⟩ ⟨Nat.le_of_ble_eq_true rfl, Nat.le_of_ble_eq_true rfl⟩ hl (Nat.le_of_ble_eq_true rfl) rfl dX5_join_29 (fun H locs B => ?_)
    refine z_ifB_ne (tgt := 57) C dX5_join_32 (by decide) (fun h32 => ?_) (fun h32 => ?_)
    · refine z_iconst C dX5_join_57 ?_
      exact zo_iret C B hr hk (Nat.le_of_ble_eq_true rfl) (Nat.le_of_ble_eq_true rfl) dX5_join_58 (by exact congrArg (fun z : Int => some (Value.int (iZ z))) (by rfl)) (by rfl) (by rfl)
    · exact absurd h32 (by decide)
  · have g5 := of_decide_eq_false h5
    refine lv_iload_n C.1 C.2.1 dX5_join_8 rfl (lv_at hl 2 rfl) ?_
    refine z_call C (c_X5_isNo l (g) (by first | assumption | omega | rfl | exact decide_eq_false (by omega) | exact decide_eq_true (by assumption) | exact decide_eq_true (by omega) | exact one_shl33 (by omega) | exact pm_lt _ _ | exact rm_lt (by first | assumption | exact pm_lt _ _) | exact Nat.lt_of_le_of_lt (Nat.shiftRight_le _ _) (by assumption) | exact Nat.lt_of_le_of_lt Nat.and_le_right (by omega))) ml_X5_67 ⟨by decide, by decide⟩ ⟨Nat.le_of_ble_eq_true rfl, Nat.le_of_ble_eq_true rfl⟩ hl (Nat.le_of_ble_eq_true rfl) rfl dX5_join_9 ?_
    refine z_ifB_ne (tgt := 23) C dX5_join_12 (by decide) (fun h12 => ?_) (fun h12 => ?_)
    · have g12 := of_decide_eq_true h12
      refine z_iconst C dX5_join_23 ?_
      refine lv_goto (tgt := 28) C.1 C.2.1 dX5_join_24 (by decide) ?_
      refine z_iconst C dX5_join_28 ?_
      refine zo_callD C B (r := some (.int (iZ (zB (true))))) (c_X5_start_bad l D cJ o a (c) (th) (ac) (re) (kn) (true) (1 : Int) (by first | assumption | omega | rfl | exact decide_eq_false (by omega) | exact decide_eq_true (by assumption) | exact decide_eq_true (by omega) | exact one_shl33 (by omega) | exact pm_lt _ _ | exact rm_lt (by first | assumption | exact pm_lt _ _) | exact Nat.lt_of_le_of_lt (Nat.shiftRight_le _ _) (by assumption) | exact Nat.lt_of_le_of_lt Nat.and_le_right (by omega)) (by first | assumption | omega | rfl | exact decide_eq_false (by omega) | exact decide_eq_true (by assumption) | exact decide_eq_true (by omega) | exact one_shl33 (by omega) | exact pm_lt _ _ | exact rm_lt (by first | assumption | exact pm_lt _ _) | exact Nat.lt_of_le_of_lt (Nat.shiftRight_le _ _) (by assumption) | exact Nat.lt_of_le_of_lt Nat.and_le_right (by omega))) ml_X5_71 rfl ⟨Nat.le_of_ble_eq_true rfl, Nat.le_of_ble_eq_true rfl⟩ ⟨Nat.le_of_ble_eq_true rfl, Nat.le_of_ble_eq_true rfl⟩ hl (Nat.le_of_ble_eq_true rfl) rfl dX5_join_29 (fun H locs B => ?_)
      refine z_ifB_ne (tgt := 57) C dX5_join_32 (by decide) (fun h32 => ?_) (fun h32 => ?_)
      · refine z_iconst C dX5_join_57 ?_
        exact zo_iret C B hr hk (Nat.le_of_ble_eq_true rfl) (Nat.le_of_ble_eq_true rfl) dX5_join_58 (by exact congrArg (fun z : Int => some (Value.int (iZ z))) (by rfl)) (by rfl) (by rfl)
      · exact absurd h32 (by decide)
    · have g12 := of_decide_eq_false h12
      refine lv_iload C.1 C.2.1 dX5_join_15 (lv_at hl 4 rfl) ?_
      refine z_call C (c_X5_isNo l (z) (by first | assumption | omega | rfl | exact decide_eq_false (by omega) | exact decide_eq_true (by assumption) | exact decide_eq_true (by omega) | exact one_shl33 (by omega) | exact pm_lt _ _ | exact rm_lt (by first | assumption | exact pm_lt _ _) | exact Nat.lt_of_le_of_lt (Nat.shiftRight_le _ _) (by assumption) | exact Nat.lt_of_le_of_lt Nat.and_le_right (by omega))) ml_X5_67 ⟨by decide, by decide⟩ ⟨Nat.le_of_ble_eq_true rfl, Nat.le_of_ble_eq_true rfl⟩ hl (Nat.le_of_ble_eq_true rfl) rfl dX5_join_17 ?_
      refine z_ifB_eq (tgt := 27) C dX5_join_20 (by decide) (fun h20 => ?_) (fun h20 => ?_)
      · have g20 := of_decide_eq_false h20
        refine z_iconst C dX5_join_27 ?_
        refine z_iconst C dX5_join_28 ?_
        exfalso; omega
      · have g20 := of_decide_eq_true h20
        refine z_iconst C dX5_join_23 ?_
        refine lv_goto (tgt := 28) C.1 C.2.1 dX5_join_24 (by decide) ?_
        refine z_iconst C dX5_join_28 ?_
        refine zo_callD C B (r := some (.int (iZ (zB (true))))) (c_X5_start_bad l D cJ o a (c) (th) (ac) (re) (kn) (true) (1 : Int) (by first | assumption | omega | rfl | exact decide_eq_false (by omega) | exact decide_eq_true (by assumption) | exact decide_eq_true (by omega) | exact one_shl33 (by omega) | exact pm_lt _ _ | exact rm_lt (by first | assumption | exact pm_lt _ _) | exact Nat.lt_of_le_of_lt (Nat.shiftRight_le _ _) (by assumption) | exact Nat.lt_of_le_of_lt Nat.and_le_right (by omega)) (by first | assumption | omega | rfl | exact decide_eq_false (by omega) | exact decide_eq_true (by assumption) | exact decide_eq_true (by omega) | exact one_shl33 (by omega) | exact pm_lt _ _ | exact rm_lt (by first | assumption | exact pm_lt _ _) | exact Nat.lt_of_le_of_lt (Nat.shiftRight_le _ _) (by assumption) | exact Nat.lt_of_le_of_lt Nat.and_le_right (by omega))) ml_X5_71 rfl ⟨Nat.le_of_ble_eq_true rfl, Nat.le_of_ble_eq_true rfl⟩ ⟨Nat.le_of_ble_eq_true rfl, Nat.le_of_ble_eq_true rfl⟩ hl (Nat.le_of_ble_eq_true rfl) rfl dX5_join_29 (fun H locs B => ?_)
        refine z_ifB_ne (tgt := 57) C dX5_join_32 (by decide) (fun h32 => ?_) (fun h32 => ?_)
        · refine z_iconst C dX5_join_57 ?_
          exact zo_iret C B hr hk (Nat.le_of_ble_eq_true rfl) (Nat.le_of_ble_eq_true rfl) dX5_join_58 (by exact congrArg (fun z : Int => some (Value.int (iZ z))) (by rfl)) (by rfl) (by rfl)
        · exact absurd h32 (by decide)

set_option maxHeartbeats 4000000 in
set_option maxRecDepth 100000 in
theorem c_X5_join_bad2 (l : Launch) (D : va_G) (cJ : ClassId) (o a : Nat) (c : Nat → Nat) (th : Int) (ac : Int32) (re : Int32) (kn : Int32) (f : Int) (g : Int) (h : Int) (z : Int) (r9f : -2147483648 ≤ f ∧ f ≤ 2147483647) (r9g : -2147483648 ≤ g ∧ g ≤ 2147483647) (r9h : -2147483648 ≤ h ∧ h ≤ 2147483647) (r9z : -2147483648 ≤ z ∧ z ≤ 2147483647) (hcel : (0 ≤ f ∧ f ≤ 5) ∧ (0 ≤ g ∧ g ≤ 5) ∧ (0 ≤ z ∧ z ≤ 5)) (hbad : ¬ ((0 ≤ h ∧ h ≤ 3))) : zA l yX5_join 2 72 0 0 D 4 cJ o a [.int (iZ (f)), .int (iZ (g)), .int (iZ (h)), .int (iZ (z))] c [.int (iZ (th)), .int (ac), .int (re), .int (kn)] (fun v => v = some (.int (iZ (0)))) (c) [.int (iZ (2)), .int (ac), .int (re), .int (kn)] := by
  refine zA.intro (lo := 44) (nA := 4) (own := RX5) zi_X5_join (by decide) rfl rfl (by decide +kernel) rfl (Nat.le_of_ble_eq_true rfl) ?_
  intro p e s m below meth c0 ls C hr hk B hl
  have hl : lv_has ls 9 [(0, .ref o), (1, .int (iZ (f))), (2, .int (iZ (g))), (3, .int (iZ (h))), (4, .int (iZ (z)))] := hl
  refine lv_aload_n C.1 C.2.1 dX5_join_0 rfl (lv_at hl 0 rfl) ?_
  refine lv_iload_n C.1 C.2.1 dX5_join_1 rfl (lv_at hl 1 rfl) ?_
  refine z_call C (c_X5_isNo l (f) (by first | assumption | omega | rfl | exact decide_eq_false (by omega) | exact decide_eq_true (by assumption) | exact decide_eq_true (by omega) | exact one_shl33 (by omega) | exact pm_lt _ _ | exact rm_lt (by first | assumption | exact pm_lt _ _) | exact Nat.lt_of_le_of_lt (Nat.shiftRight_le _ _) (by assumption) | exact Nat.lt_of_le_of_lt Nat.and_le_right (by omega))) ml_X5_67 ⟨by decide, by decide⟩ ⟨Nat.le_of_ble_eq_true rfl, Nat.le_of_ble_eq_true rfl⟩ hl (Nat.le_of_ble_eq_true rfl) rfl dX5_join_2 ?_
  refine z_ifB_ne (tgt := 23) C dX5_join_5 (by decide) (fun h5 => ?_) (fun h5 => ?_)
  · exact absurd (of_decide_eq_true h5) (by omega)
  · refine lv_iload_n C.1 C.2.1 dX5_join_8 rfl (lv_at hl 2 rfl) ?_
    refine z_call C (c_X5_isNo l (g) (by first | assumption | omega | rfl | exact decide_eq_false (by omega) | exact decide_eq_true (by assumption) | exact decide_eq_true (by omega) | exact one_shl33 (by omega) | exact pm_lt _ _ | exact rm_lt (by first | assumption | exact pm_lt _ _) | exact Nat.lt_of_le_of_lt (Nat.shiftRight_le _ _) (by assumption) | exact Nat.lt_of_le_of_lt Nat.and_le_right (by omega))) ml_X5_67 ⟨by decide, by decide⟩ ⟨Nat.le_of_ble_eq_true rfl, Nat.le_of_ble_eq_true rfl⟩ hl (Nat.le_of_ble_eq_true rfl) rfl dX5_join_9 ?_
    refine z_ifB_ne (tgt := 23) C dX5_join_12 (by decide) (fun h12 => ?_) (fun h12 => ?_)
    · exact absurd (of_decide_eq_true h12) (by omega)
    · refine lv_iload C.1 C.2.1 dX5_join_15 (lv_at hl 4 rfl) ?_
      refine z_call C (c_X5_isNo l (z) (by first | assumption | omega | rfl | exact decide_eq_false (by omega) | exact decide_eq_true (by assumption) | exact decide_eq_true (by omega) | exact one_shl33 (by omega) | exact pm_lt _ _ | exact rm_lt (by first | assumption | exact pm_lt _ _) | exact Nat.lt_of_le_of_lt (Nat.shiftRight_le _ _) (by assumption) | exact Nat.lt_of_le_of_lt Nat.and_le_right (by omega))) ml_X5_67 ⟨by decide, by decide⟩ ⟨Nat.le_of_ble_eq_true rfl, Nat.le_of_ble_eq_true rfl⟩ hl (Nat.le_of_ble_eq_true rfl) rfl dX5_join_17 ?_
      refine z_ifB_eq (tgt := 27) C dX5_join_20 (by decide) (fun h20 => ?_) (fun h20 => ?_)
      · refine z_iconst C dX5_join_27 ?_
        refine z_iconst C dX5_join_28 ?_
        refine zo_callD C B (r := some (.int (iZ (zB (false))))) (c_X5_start_ok l D cJ o a (c) (th) (ac) (re) (kn) (false) (1 : Int) (by first | assumption | omega | rfl | exact decide_eq_false (by omega) | exact decide_eq_true (by assumption) | exact decide_eq_true (by omega) | exact one_shl33 (by omega) | exact pm_lt _ _ | exact rm_lt (by first | assumption | exact pm_lt _ _) | exact Nat.lt_of_le_of_lt (Nat.shiftRight_le _ _) (by assumption) | exact Nat.lt_of_le_of_lt Nat.and_le_right (by omega))) ml_X5_71 rfl ⟨Nat.le_of_ble_eq_true rfl, Nat.le_of_ble_eq_true rfl⟩ ⟨Nat.le_of_ble_eq_true rfl, Nat.le_of_ble_eq_true rfl⟩ hl (Nat.le_of_ble_eq_true rfl) rfl dX5_join_29 (fun H locs B => ?_)
        refine z_ifB_ne (tgt := 57) C dX5_join_32 (by decide) (fun h32 => ?_) (fun h32 => ?_)
        · exact absurd h32 (by decide)
        · refine lv_aload_n C.1 C.2.1 dX5_join_35 rfl (lv_at hl 0 rfl) ?_
          refine lv_iload_n C.1 C.2.1 dX5_join_36 rfl (lv_at hl 3 rfl) ?_
          refine z_iconst C dX5_join_37 ?_
          refine z_iconst C dX5_join_38 ?_
          refine z_call C (c_X5_isIn l (h) (0 : Int) (3 : Int) (by first | assumption | omega | rfl | exact decide_eq_false (by omega) | exact decide_eq_true (by assumption) | exact decide_eq_true (by omega) | exact one_shl33 (by omega) | exact pm_lt _ _ | exact rm_lt (by first | assumption | exact pm_lt _ _) | exact Nat.lt_of_le_of_lt (Nat.shiftRight_le _ _) (by assumption) | exact Nat.lt_of_le_of_lt Nat.and_le_right (by omega)) (by first | assumption | omega | rfl | exact decide_eq_false (by omega) | exact decide_eq_true (by assumption) | exact decide_eq_true (by omega) | exact one_shl33 (by omega) | exact pm_lt _ _ | exact rm_lt (by first | assumption | exact pm_lt _ _) | exact Nat.lt_of_le_of_lt (Nat.shiftRight_le _ _) (by assumption) | exact Nat.lt_of_le_of_lt Nat.and_le_right (by omega)) (by first | assumption | omega | rfl | exact decide_eq_false (by omega) | exact decide_eq_true (by assumption) | exact decide_eq_true (by omega) | exact one_shl33 (by omega) | exact pm_lt _ _ | exact rm_lt (by first | assumption | exact pm_lt _ _) | exact Nat.lt_of_le_of_lt (Nat.shiftRight_le _ _) (by assumption) | exact Nat.lt_of_le_of_lt Nat.and_le_right (by omega))) ml_X5_21 ⟨by decide, by decide⟩ ⟨Nat.le_of_ble_eq_true rfl, Nat.le_of_ble_eq_true rfl⟩ hl (Nat.le_of_ble_eq_true rfl) rfl dX5_join_39 ?_
          refine z_ifB_ne (tgt := 49) C dX5_join_42 (by decide) (fun h42 => ?_) (fun h42 => ?_)
          · have g42 := of_decide_eq_true h42
            refine z_iconst C dX5_join_49 ?_
            refine z_iconst C dX5_join_50 ?_
            exfalso; omega
          · have g42 := of_decide_eq_false h42
            refine z_iconst C dX5_join_45 ?_
            refine lv_goto (tgt := 50) C.1 C.2.1 dX5_join_46 (by decide) ?_
            refine z_iconst C dX5_join_50 ?_
            refine zo_callD C B (r := some (.int (iZ (zB (true))))) (c_X5_refuse_bad l D cJ o a (c) (0) ((ac)) ((re)) ((kn)) (true) (2 : Int) (by first | assumption | omega | rfl | exact decide_eq_false (by omega) | exact decide_eq_true (by assumption) | exact decide_eq_true (by omega) | exact one_shl33 (by omega) | exact pm_lt _ _ | exact rm_lt (by first | assumption | exact pm_lt _ _) | exact Nat.lt_of_le_of_lt (Nat.shiftRight_le _ _) (by assumption) | exact Nat.lt_of_le_of_lt Nat.and_le_right (by omega)) (by first | assumption | omega | rfl | exact decide_eq_false (by omega) | exact decide_eq_true (by assumption) | exact decide_eq_true (by omega) | exact one_shl33 (by omega) | exact pm_lt _ _ | exact rm_lt (by first | assumption | exact pm_lt _ _) | exact Nat.lt_of_le_of_lt (Nat.shiftRight_le _ _) (by assumption) | exact Nat.lt_of_le_of_lt Nat.and_le_right (by omega)) (by first | assumption | omega | rfl | exact decide_eq_false (by omega) | exact decide_eq_true (by assumption) | exact decide_eq_true (by omega) | exact one_shl33 (by omega) | exact pm_lt _ _ | exact rm_lt (by first | assumption | exact pm_lt _ _) | exact Nat.lt_of_le_of_lt (Nat.shiftRight_le _ _) (by assumption) | exact Nat.lt_of_le_of_lt Nat.and_le_right (by omega))) ml_X5_17 rfl ⟨Nat.le_of_ble_eq_true rfl, Nat.le_of_ble_eq_true rfl⟩ ⟨Nat.le_of_ble_eq_true rfl, Nat.le_of_ble_eq_true rfl⟩ hl (Nat.le_of_ble_eq_true rfl) rfl dX5_join_51 (fun H locs B => ?_)
            refine z_ifB_eq (tgt := 59) C dX5_join_54 (by decide) (fun h54 => ?_) (fun h54 => ?_)
            · exact absurd h54 (by decide)
            · refine z_iconst C dX5_join_57 ?_
              exact zo_iret C B hr hk (Nat.le_of_ble_eq_true rfl) (Nat.le_of_ble_eq_true rfl) dX5_join_58 (by exact congrArg (fun z : Int => some (Value.int (iZ z))) (by rfl)) (by rfl) (by rfl)
      · exact absurd (of_decide_eq_true h20) (by omega)

set_option maxHeartbeats 4000000 in
set_option maxRecDepth 100000 in
theorem c_X5_times_bad1 (l : Launch) (D : va_G) (cJ : ClassId) (o a : Nat) (c : Nat → Nat) (th : Int) (ac : Int32) (re : Int32) (kn : Int32) (f : Int) (g : Int) (z : Int) (r9f : -2147483648 ≤ f ∧ f ≤ 2147483647) (r9g : -2147483648 ≤ g ∧ g ≤ 2147483647) (r9z : -2147483648 ≤ z ∧ z ≤ 2147483647) (hbad : ¬ ((0 ≤ f ∧ f ≤ 5) ∧ (0 ≤ g ∧ g ≤ 5) ∧ (0 ≤ z ∧ z ≤ 5))) : zA l yX5_times 2 67 0 0 D 4 cJ o a [.int (iZ (f)), .int (iZ (g)), .int (iZ (z))] c [.int (iZ (th)), .int (ac), .int (re), .int (kn)] (fun v => v = some (.int (iZ (0)))) (c) [.int (iZ (1)), .int (ac), .int (re), .int (kn)] := by
  refine zA.intro (lo := 44) (nA := 3) (own := RX5) zi_X5_times (by decide) rfl rfl (by decide +kernel) rfl (Nat.le_of_ble_eq_true rfl) ?_
  intro p e s m below meth c0 ls C hr hk B hl
  have hl : lv_has ls 4 [(0, .ref o), (1, .int (iZ (f))), (2, .int (iZ (g))), (3, .int (iZ (z)))] := hl
  refine lv_aload_n C.1 C.2.1 dX5_times_0 rfl (lv_at hl 0 rfl) ?_
  refine lv_iload_n C.1 C.2.1 dX5_times_1 rfl (lv_at hl 1 rfl) ?_
  refine z_call C (c_X5_isNo l (f) (by first | assumption | omega | rfl | exact decide_eq_false (by omega) | exact decide_eq_true (by assumption) | exact decide_eq_true (by omega) | exact one_shl33 (by omega) | exact pm_lt _ _ | exact rm_lt (by first | assumption | exact pm_lt _ _) | exact Nat.lt_of_le_of_lt (Nat.shiftRight_le _ _) (by assumption) | exact Nat.lt_of_le_of_lt Nat.and_le_right (by omega))) ml_X5_67 ⟨by decide, by decide⟩ ⟨Nat.le_of_ble_eq_true rfl, Nat.le_of_ble_eq_true rfl⟩ hl (Nat.le_of_ble_eq_true rfl) rfl dX5_times_2 ?_
  refine z_ifB_ne (tgt := 22) C dX5_times_5 (by decide) (fun h5 => ?_) (fun h5 => ?_)
  · have g5 := of_decide_eq_true h5
    refine z_iconst C dX5_times_22 ?_
    refine lv_goto (tgt := 27) C.1 C.2.1 dX5_times_23 (by decide) ?_
    refine z_iconst C dX5_times_27 ?_
    refine zo_callD C B (r := some (.int (iZ (zB (true))))) (c_X5_start_bad l D cJ o a (c) (th) (ac) (re) (kn) (true) (1 : Int) (by first | assumption | omega | rfl | exact decide_eq_false (by omega) | exact decide_eq_true (by assumption) | exact decide_eq_true (by omega) | exact one_shl33 (by omega) | exact pm_lt _ _ | exact rm_lt (by first | assumption | exact pm_lt _ _) | exact Nat.lt_of_le_of_lt (Nat.shiftRight_le _ _) (by assumption) | exact Nat.lt_of_le_of_lt Nat.and_le_right (by omega)) (by first | assumption | omega | rfl | exact decide_eq_false (by omega) | exact decide_eq_true (by assumption) | exact decide_eq_true (by omega) | exact one_shl33 (by omega) | exact pm_lt _ _ | exact rm_lt (by first | assumption | exact pm_lt _ _) | exact Nat.lt_of_le_of_lt (Nat.shiftRight_le _ _) (by assumption) | exact Nat.lt_of_le_of_lt Nat.and_le_right (by omega))) ml_X5_71 rfl ⟨Nat.le_of_ble_eq_true rfl, Nat.le_of_ble_eq_true rfl⟩ ⟨Nat.le_of_ble_eq_true rfl, Nat.le_of_ble_eq_true rfl⟩ hl (Nat.le_of_ble_eq_true rfl) rfl dX5_times_28 (fun H locs B => ?_)
    refine z_ifB_eq (tgt := 38) C dX5_times_31 (by decide) (fun h31 => ?_) (fun h31 => ?_)
    · exact absurd h31 (by decide)
    · refine z_iconst C dX5_times_34 ?_
      refine lv_goto (tgt := 55) C.1 C.2.1 dX5_times_35 (by decide) ?_
      exact zo_iret C B hr hk (Nat.le_of_ble_eq_true rfl) (Nat.le_of_ble_eq_true rfl) dX5_times_55 (by exact congrArg (fun z : Int => some (Value.int (iZ z))) (by rfl)) (by rfl) (by rfl)
  · have g5 := of_decide_eq_false h5
    refine lv_iload_n C.1 C.2.1 dX5_times_8 rfl (lv_at hl 2 rfl) ?_
    refine z_call C (c_X5_isNo l (g) (by first | assumption | omega | rfl | exact decide_eq_false (by omega) | exact decide_eq_true (by assumption) | exact decide_eq_true (by omega) | exact one_shl33 (by omega) | exact pm_lt _ _ | exact rm_lt (by first | assumption | exact pm_lt _ _) | exact Nat.lt_of_le_of_lt (Nat.shiftRight_le _ _) (by assumption) | exact Nat.lt_of_le_of_lt Nat.and_le_right (by omega))) ml_X5_67 ⟨by decide, by decide⟩ ⟨Nat.le_of_ble_eq_true rfl, Nat.le_of_ble_eq_true rfl⟩ hl (Nat.le_of_ble_eq_true rfl) rfl dX5_times_9 ?_
    refine z_ifB_ne (tgt := 22) C dX5_times_12 (by decide) (fun h12 => ?_) (fun h12 => ?_)
    · have g12 := of_decide_eq_true h12
      refine z_iconst C dX5_times_22 ?_
      refine lv_goto (tgt := 27) C.1 C.2.1 dX5_times_23 (by decide) ?_
      refine z_iconst C dX5_times_27 ?_
      refine zo_callD C B (r := some (.int (iZ (zB (true))))) (c_X5_start_bad l D cJ o a (c) (th) (ac) (re) (kn) (true) (1 : Int) (by first | assumption | omega | rfl | exact decide_eq_false (by omega) | exact decide_eq_true (by assumption) | exact decide_eq_true (by omega) | exact one_shl33 (by omega) | exact pm_lt _ _ | exact rm_lt (by first | assumption | exact pm_lt _ _) | exact Nat.lt_of_le_of_lt (Nat.shiftRight_le _ _) (by assumption) | exact Nat.lt_of_le_of_lt Nat.and_le_right (by omega)) (by first | assumption | omega | rfl | exact decide_eq_false (by omega) | exact decide_eq_true (by assumption) | exact decide_eq_true (by omega) | exact one_shl33 (by omega) | exact pm_lt _ _ | exact rm_lt (by first | assumption | exact pm_lt _ _) | exact Nat.lt_of_le_of_lt (Nat.shiftRight_le _ _) (by assumption) | exact Nat.lt_of_le_of_lt Nat.and_le_right (by omega))) ml_X5_71 rfl ⟨Nat.le_of_ble_eq_true rfl, Nat.le_of_ble_eq_true rfl⟩ ⟨Nat.le_of_ble_eq_true rfl, Nat.le_of_ble_eq_true rfl⟩ hl (Nat.le_of_ble_eq_true rfl) rfl dX5_times_28 (fun H locs B => ?_)
      refine z_ifB_eq (tgt := 38) C dX5_times_31 (by decide) (fun h31 => ?_) (fun h31 => ?_)
      · exact absurd h31 (by decide)
      · refine z_iconst C dX5_times_34 ?_
        refine lv_goto (tgt := 55) C.1 C.2.1 dX5_times_35 (by decide) ?_
        exact zo_iret C B hr hk (Nat.le_of_ble_eq_true rfl) (Nat.le_of_ble_eq_true rfl) dX5_times_55 (by exact congrArg (fun z : Int => some (Value.int (iZ z))) (by rfl)) (by rfl) (by rfl)
    · have g12 := of_decide_eq_false h12
      refine lv_iload_n C.1 C.2.1 dX5_times_15 rfl (lv_at hl 3 rfl) ?_
      refine z_call C (c_X5_isNo l (z) (by first | assumption | omega | rfl | exact decide_eq_false (by omega) | exact decide_eq_true (by assumption) | exact decide_eq_true (by omega) | exact one_shl33 (by omega) | exact pm_lt _ _ | exact rm_lt (by first | assumption | exact pm_lt _ _) | exact Nat.lt_of_le_of_lt (Nat.shiftRight_le _ _) (by assumption) | exact Nat.lt_of_le_of_lt Nat.and_le_right (by omega))) ml_X5_67 ⟨by decide, by decide⟩ ⟨Nat.le_of_ble_eq_true rfl, Nat.le_of_ble_eq_true rfl⟩ hl (Nat.le_of_ble_eq_true rfl) rfl dX5_times_16 ?_
      refine z_ifB_eq (tgt := 26) C dX5_times_19 (by decide) (fun h19 => ?_) (fun h19 => ?_)
      · have g19 := of_decide_eq_false h19
        refine z_iconst C dX5_times_26 ?_
        refine z_iconst C dX5_times_27 ?_
        exfalso; omega
      · have g19 := of_decide_eq_true h19
        refine z_iconst C dX5_times_22 ?_
        refine lv_goto (tgt := 27) C.1 C.2.1 dX5_times_23 (by decide) ?_
        refine z_iconst C dX5_times_27 ?_
        refine zo_callD C B (r := some (.int (iZ (zB (true))))) (c_X5_start_bad l D cJ o a (c) (th) (ac) (re) (kn) (true) (1 : Int) (by first | assumption | omega | rfl | exact decide_eq_false (by omega) | exact decide_eq_true (by assumption) | exact decide_eq_true (by omega) | exact one_shl33 (by omega) | exact pm_lt _ _ | exact rm_lt (by first | assumption | exact pm_lt _ _) | exact Nat.lt_of_le_of_lt (Nat.shiftRight_le _ _) (by assumption) | exact Nat.lt_of_le_of_lt Nat.and_le_right (by omega)) (by first | assumption | omega | rfl | exact decide_eq_false (by omega) | exact decide_eq_true (by assumption) | exact decide_eq_true (by omega) | exact one_shl33 (by omega) | exact pm_lt _ _ | exact rm_lt (by first | assumption | exact pm_lt _ _) | exact Nat.lt_of_le_of_lt (Nat.shiftRight_le _ _) (by assumption) | exact Nat.lt_of_le_of_lt Nat.and_le_right (by omega))) ml_X5_71 rfl ⟨Nat.le_of_ble_eq_true rfl, Nat.le_of_ble_eq_true rfl⟩ ⟨Nat.le_of_ble_eq_true rfl, Nat.le_of_ble_eq_true rfl⟩ hl (Nat.le_of_ble_eq_true rfl) rfl dX5_times_28 (fun H locs B => ?_)
        refine z_ifB_eq (tgt := 38) C dX5_times_31 (by decide) (fun h31 => ?_) (fun h31 => ?_)
        · exact absurd h31 (by decide)
        · refine z_iconst C dX5_times_34 ?_
          refine lv_goto (tgt := 55) C.1 C.2.1 dX5_times_35 (by decide) ?_
          exact zo_iret C B hr hk (Nat.le_of_ble_eq_true rfl) (Nat.le_of_ble_eq_true rfl) dX5_times_55 (by exact congrArg (fun z : Int => some (Value.int (iZ z))) (by rfl)) (by rfl) (by rfl)

set_option maxHeartbeats 4000000 in
set_option maxRecDepth 100000 in
theorem c_X5_square_bad1 (l : Launch) (D : va_G) (cJ : ClassId) (o a : Nat) (c : Nat → Nat) (th : Int) (ac : Int32) (re : Int32) (kn : Int32) (f : Int) (z : Int) (r9f : -2147483648 ≤ f ∧ f ≤ 2147483647) (r9z : -2147483648 ≤ z ∧ z ≤ 2147483647) (hbad : ¬ ((0 ≤ f ∧ f ≤ 5) ∧ (0 ≤ z ∧ z ≤ 5))) : zA l yX5_square 2 66 0 0 D 4 cJ o a [.int (iZ (f)), .int (iZ (z))] c [.int (iZ (th)), .int (ac), .int (re), .int (kn)] (fun v => v = some (.int (iZ (0)))) (c) [.int (iZ (1)), .int (ac), .int (re), .int (kn)] := by
  refine zA.intro (lo := 44) (nA := 2) (own := RX5) zi_X5_square (by decide) rfl rfl (by decide +kernel) rfl (Nat.le_of_ble_eq_true rfl) ?_
  intro p e s m below meth c0 ls C hr hk B hl
  have hl : lv_has ls 3 [(0, .ref o), (1, .int (iZ (f))), (2, .int (iZ (z)))] := hl
  refine lv_aload_n C.1 C.2.1 dX5_square_0 rfl (lv_at hl 0 rfl) ?_
  refine lv_iload_n C.1 C.2.1 dX5_square_1 rfl (lv_at hl 1 rfl) ?_
  refine z_call C (c_X5_isNo l (f) (by first | assumption | omega | rfl | exact decide_eq_false (by omega) | exact decide_eq_true (by assumption) | exact decide_eq_true (by omega) | exact one_shl33 (by omega) | exact pm_lt _ _ | exact rm_lt (by first | assumption | exact pm_lt _ _) | exact Nat.lt_of_le_of_lt (Nat.shiftRight_le _ _) (by assumption) | exact Nat.lt_of_le_of_lt Nat.and_le_right (by omega))) ml_X5_67 ⟨by decide, by decide⟩ ⟨Nat.le_of_ble_eq_true rfl, Nat.le_of_ble_eq_true rfl⟩ hl (Nat.le_of_ble_eq_true rfl) rfl dX5_square_2 ?_
  refine z_ifB_ne (tgt := 15) C dX5_square_5 (by decide) (fun h5 => ?_) (fun h5 => ?_)
  · have g5 := of_decide_eq_true h5
    refine z_iconst C dX5_square_15 ?_
    refine lv_goto (tgt := 20) C.1 C.2.1 dX5_square_16 (by decide) ?_
    refine z_iconst C dX5_square_20 ?_
    refine zo_callD C B (r := some (.int (iZ (zB (true))))) (c_X5_start_bad l D cJ o a (c) (th) (ac) (re) (kn) (true) (1 : Int) (by first | assumption | omega | rfl | exact decide_eq_false (by omega) | exact decide_eq_true (by assumption) | exact decide_eq_true (by omega) | exact one_shl33 (by omega) | exact pm_lt _ _ | exact rm_lt (by first | assumption | exact pm_lt _ _) | exact Nat.lt_of_le_of_lt (Nat.shiftRight_le _ _) (by assumption) | exact Nat.lt_of_le_of_lt Nat.and_le_right (by omega)) (by first | assumption | omega | rfl | exact decide_eq_false (by omega) | exact decide_eq_true (by assumption) | exact decide_eq_true (by omega) | exact one_shl33 (by omega) | exact pm_lt _ _ | exact rm_lt (by first | assumption | exact pm_lt _ _) | exact Nat.lt_of_le_of_lt (Nat.shiftRight_le _ _) (by assumption) | exact Nat.lt_of_le_of_lt Nat.and_le_right (by omega))) ml_X5_71 rfl ⟨Nat.le_of_ble_eq_true rfl, Nat.le_of_ble_eq_true rfl⟩ ⟨Nat.le_of_ble_eq_true rfl, Nat.le_of_ble_eq_true rfl⟩ hl (Nat.le_of_ble_eq_true rfl) rfl dX5_square_21 (fun H locs B => ?_)
    refine z_ifB_eq (tgt := 31) C dX5_square_24 (by decide) (fun h24 => ?_) (fun h24 => ?_)
    · exact absurd h24 (by decide)
    · refine z_iconst C dX5_square_27 ?_
      refine lv_goto (tgt := 48) C.1 C.2.1 dX5_square_28 (by decide) ?_
      exact zo_iret C B hr hk (Nat.le_of_ble_eq_true rfl) (Nat.le_of_ble_eq_true rfl) dX5_square_48 (by exact congrArg (fun z : Int => some (Value.int (iZ z))) (by rfl)) (by rfl) (by rfl)
  · have g5 := of_decide_eq_false h5
    refine lv_iload_n C.1 C.2.1 dX5_square_8 rfl (lv_at hl 2 rfl) ?_
    refine z_call C (c_X5_isNo l (z) (by first | assumption | omega | rfl | exact decide_eq_false (by omega) | exact decide_eq_true (by assumption) | exact decide_eq_true (by omega) | exact one_shl33 (by omega) | exact pm_lt _ _ | exact rm_lt (by first | assumption | exact pm_lt _ _) | exact Nat.lt_of_le_of_lt (Nat.shiftRight_le _ _) (by assumption) | exact Nat.lt_of_le_of_lt Nat.and_le_right (by omega))) ml_X5_67 ⟨by decide, by decide⟩ ⟨Nat.le_of_ble_eq_true rfl, Nat.le_of_ble_eq_true rfl⟩ hl (Nat.le_of_ble_eq_true rfl) rfl dX5_square_9 ?_
    refine z_ifB_eq (tgt := 19) C dX5_square_12 (by decide) (fun h12 => ?_) (fun h12 => ?_)
    · have g12 := of_decide_eq_false h12
      refine z_iconst C dX5_square_19 ?_
      refine z_iconst C dX5_square_20 ?_
      exfalso; omega
    · have g12 := of_decide_eq_true h12
      refine z_iconst C dX5_square_15 ?_
      refine lv_goto (tgt := 20) C.1 C.2.1 dX5_square_16 (by decide) ?_
      refine z_iconst C dX5_square_20 ?_
      refine zo_callD C B (r := some (.int (iZ (zB (true))))) (c_X5_start_bad l D cJ o a (c) (th) (ac) (re) (kn) (true) (1 : Int) (by first | assumption | omega | rfl | exact decide_eq_false (by omega) | exact decide_eq_true (by assumption) | exact decide_eq_true (by omega) | exact one_shl33 (by omega) | exact pm_lt _ _ | exact rm_lt (by first | assumption | exact pm_lt _ _) | exact Nat.lt_of_le_of_lt (Nat.shiftRight_le _ _) (by assumption) | exact Nat.lt_of_le_of_lt Nat.and_le_right (by omega)) (by first | assumption | omega | rfl | exact decide_eq_false (by omega) | exact decide_eq_true (by assumption) | exact decide_eq_true (by omega) | exact one_shl33 (by omega) | exact pm_lt _ _ | exact rm_lt (by first | assumption | exact pm_lt _ _) | exact Nat.lt_of_le_of_lt (Nat.shiftRight_le _ _) (by assumption) | exact Nat.lt_of_le_of_lt Nat.and_le_right (by omega))) ml_X5_71 rfl ⟨Nat.le_of_ble_eq_true rfl, Nat.le_of_ble_eq_true rfl⟩ ⟨Nat.le_of_ble_eq_true rfl, Nat.le_of_ble_eq_true rfl⟩ hl (Nat.le_of_ble_eq_true rfl) rfl dX5_square_21 (fun H locs B => ?_)
      refine z_ifB_eq (tgt := 31) C dX5_square_24 (by decide) (fun h24 => ?_) (fun h24 => ?_)
      · exact absurd h24 (by decide)
      · refine z_iconst C dX5_square_27 ?_
        refine lv_goto (tgt := 48) C.1 C.2.1 dX5_square_28 (by decide) ?_
        exact zo_iret C B hr hk (Nat.le_of_ble_eq_true rfl) (Nat.le_of_ble_eq_true rfl) dX5_square_48 (by exact congrArg (fun z : Int => some (Value.int (iZ z))) (by rfl)) (by rfl) (by rfl)

set_option maxHeartbeats 4000000 in
set_option maxRecDepth 100000 in
theorem c_X5_shift_bad1 (l : Launch) (D : va_G) (cJ : ClassId) (o a : Nat) (c : Nat → Nat) (th : Int) (ac : Int32) (re : Int32) (kn : Int32) (f : Int) (g : Int) (z : Int) (r9f : -2147483648 ≤ f ∧ f ≤ 2147483647) (r9g : -2147483648 ≤ g ∧ g ≤ 2147483647) (r9z : -2147483648 ≤ z ∧ z ≤ 2147483647) (hbad : ¬ ((0 ≤ f ∧ f ≤ 5) ∧ (0 ≤ z ∧ z ≤ 5))) : zA l yX5_shift 2 67 0 0 D 4 cJ o a [.int (iZ (f)), .int (iZ (g)), .int (iZ (z))] c [.int (iZ (th)), .int (ac), .int (re), .int (kn)] (fun v => v = some (.int (iZ (0)))) (c) [.int (iZ (1)), .int (ac), .int (re), .int (kn)] := by
  refine zA.intro (lo := 44) (nA := 3) (own := RX5) zi_X5_shift (by decide) rfl rfl (by decide +kernel) rfl (Nat.le_of_ble_eq_true rfl) ?_
  intro p e s m below meth c0 ls C hr hk B hl
  have hl : lv_has ls 4 [(0, .ref o), (1, .int (iZ (f))), (2, .int (iZ (g))), (3, .int (iZ (z)))] := hl
  refine lv_aload_n C.1 C.2.1 dX5_shift_0 rfl (lv_at hl 0 rfl) ?_
  refine lv_iload_n C.1 C.2.1 dX5_shift_1 rfl (lv_at hl 1 rfl) ?_
  refine z_call C (c_X5_isNo l (f) (by first | assumption | omega | rfl | exact decide_eq_false (by omega) | exact decide_eq_true (by assumption) | exact decide_eq_true (by omega) | exact one_shl33 (by omega) | exact pm_lt _ _ | exact rm_lt (by first | assumption | exact pm_lt _ _) | exact Nat.lt_of_le_of_lt (Nat.shiftRight_le _ _) (by assumption) | exact Nat.lt_of_le_of_lt Nat.and_le_right (by omega))) ml_X5_67 ⟨by decide, by decide⟩ ⟨Nat.le_of_ble_eq_true rfl, Nat.le_of_ble_eq_true rfl⟩ hl (Nat.le_of_ble_eq_true rfl) rfl dX5_shift_2 ?_
  refine z_ifB_ne (tgt := 15) C dX5_shift_5 (by decide) (fun h5 => ?_) (fun h5 => ?_)
  · have g5 := of_decide_eq_true h5
    refine z_iconst C dX5_shift_15 ?_
    refine lv_goto (tgt := 20) C.1 C.2.1 dX5_shift_16 (by decide) ?_
    refine z_iconst C dX5_shift_20 ?_
    refine zo_callD C B (r := some (.int (iZ (zB (true))))) (c_X5_start_bad l D cJ o a (c) (th) (ac) (re) (kn) (true) (1 : Int) (by first | assumption | omega | rfl | exact decide_eq_false (by omega) | exact decide_eq_true (by assumption) | exact decide_eq_true (by omega) | exact one_shl33 (by omega) | exact pm_lt _ _ | exact rm_lt (by first | assumption | exact pm_lt _ _) | exact Nat.lt_of_le_of_lt (Nat.shiftRight_le _ _) (by assumption) | exact Nat.lt_of_le_of_lt Nat.and_le_right (by omega)) (by first | assumption | omega | rfl | exact decide_eq_false (by omega) | exact decide_eq_true (by assumption) | exact decide_eq_true (by omega) | exact one_shl33 (by omega) | exact pm_lt _ _ | exact rm_lt (by first | assumption | exact pm_lt _ _) | exact Nat.lt_of_le_of_lt (Nat.shiftRight_le _ _) (by assumption) | exact Nat.lt_of_le_of_lt Nat.and_le_right (by omega))) ml_X5_71 rfl ⟨Nat.le_of_ble_eq_true rfl, Nat.le_of_ble_eq_true rfl⟩ ⟨Nat.le_of_ble_eq_true rfl, Nat.le_of_ble_eq_true rfl⟩ hl (Nat.le_of_ble_eq_true rfl) rfl dX5_shift_21 (fun H locs B => ?_)
    refine z_ifB_ne (tgt := 51) C dX5_shift_24 (by decide) (fun h24 => ?_) (fun h24 => ?_)
    · refine z_iconst C dX5_shift_51 ?_
      exact zo_iret C B hr hk (Nat.le_of_ble_eq_true rfl) (Nat.le_of_ble_eq_true rfl) dX5_shift_52 (by exact congrArg (fun z : Int => some (Value.int (iZ z))) (by rfl)) (by rfl) (by rfl)
    · exact absurd h24 (by decide)
  · have g5 := of_decide_eq_false h5
    refine lv_iload_n C.1 C.2.1 dX5_shift_8 rfl (lv_at hl 3 rfl) ?_
    refine z_call C (c_X5_isNo l (z) (by first | assumption | omega | rfl | exact decide_eq_false (by omega) | exact decide_eq_true (by assumption) | exact decide_eq_true (by omega) | exact one_shl33 (by omega) | exact pm_lt _ _ | exact rm_lt (by first | assumption | exact pm_lt _ _) | exact Nat.lt_of_le_of_lt (Nat.shiftRight_le _ _) (by assumption) | exact Nat.lt_of_le_of_lt Nat.and_le_right (by omega))) ml_X5_67 ⟨by decide, by decide⟩ ⟨Nat.le_of_ble_eq_true rfl, Nat.le_of_ble_eq_true rfl⟩ hl (Nat.le_of_ble_eq_true rfl) rfl dX5_shift_9 ?_
    refine z_ifB_eq (tgt := 19) C dX5_shift_12 (by decide) (fun h12 => ?_) (fun h12 => ?_)
    · have g12 := of_decide_eq_false h12
      refine z_iconst C dX5_shift_19 ?_
      refine z_iconst C dX5_shift_20 ?_
      exfalso; omega
    · have g12 := of_decide_eq_true h12
      refine z_iconst C dX5_shift_15 ?_
      refine lv_goto (tgt := 20) C.1 C.2.1 dX5_shift_16 (by decide) ?_
      refine z_iconst C dX5_shift_20 ?_
      refine zo_callD C B (r := some (.int (iZ (zB (true))))) (c_X5_start_bad l D cJ o a (c) (th) (ac) (re) (kn) (true) (1 : Int) (by first | assumption | omega | rfl | exact decide_eq_false (by omega) | exact decide_eq_true (by assumption) | exact decide_eq_true (by omega) | exact one_shl33 (by omega) | exact pm_lt _ _ | exact rm_lt (by first | assumption | exact pm_lt _ _) | exact Nat.lt_of_le_of_lt (Nat.shiftRight_le _ _) (by assumption) | exact Nat.lt_of_le_of_lt Nat.and_le_right (by omega)) (by first | assumption | omega | rfl | exact decide_eq_false (by omega) | exact decide_eq_true (by assumption) | exact decide_eq_true (by omega) | exact one_shl33 (by omega) | exact pm_lt _ _ | exact rm_lt (by first | assumption | exact pm_lt _ _) | exact Nat.lt_of_le_of_lt (Nat.shiftRight_le _ _) (by assumption) | exact Nat.lt_of_le_of_lt Nat.and_le_right (by omega))) ml_X5_71 rfl ⟨Nat.le_of_ble_eq_true rfl, Nat.le_of_ble_eq_true rfl⟩ ⟨Nat.le_of_ble_eq_true rfl, Nat.le_of_ble_eq_true rfl⟩ hl (Nat.le_of_ble_eq_true rfl) rfl dX5_shift_21 (fun H locs B => ?_)
      refine z_ifB_ne (tgt := 51) C dX5_shift_24 (by decide) (fun h24 => ?_) (fun h24 => ?_)
      · refine z_iconst C dX5_shift_51 ?_
        exact zo_iret C B hr hk (Nat.le_of_ble_eq_true rfl) (Nat.le_of_ble_eq_true rfl) dX5_shift_52 (by exact congrArg (fun z : Int => some (Value.int (iZ z))) (by rfl)) (by rfl) (by rfl)
      · exact absurd h24 (by decide)

set_option maxHeartbeats 4000000 in
set_option maxRecDepth 100000 in
theorem c_X5_shift_bad2 (l : Launch) (D : va_G) (cJ : ClassId) (o a : Nat) (c : Nat → Nat) (th : Int) (ac : Int32) (re : Int32) (kn : Int32) (f : Int) (g : Int) (z : Int) (r9f : -2147483648 ≤ f ∧ f ≤ 2147483647) (r9g : -2147483648 ≤ g ∧ g ≤ 2147483647) (r9z : -2147483648 ≤ z ∧ z ≤ 2147483647) (hcel : (0 ≤ f ∧ f ≤ 5) ∧ (0 ≤ z ∧ z ≤ 5)) (hbad : ¬ ((-32 ≤ g ∧ g ≤ 32))) : zA l yX5_shift 2 67 0 0 D 4 cJ o a [.int (iZ (f)), .int (iZ (g)), .int (iZ (z))] c [.int (iZ (th)), .int (ac), .int (re), .int (kn)] (fun v => v = some (.int (iZ (0)))) (c) [.int (iZ (2)), .int (ac), .int (re), .int (kn)] := by
  refine zA.intro (lo := 44) (nA := 3) (own := RX5) zi_X5_shift (by decide) rfl rfl (by decide +kernel) rfl (Nat.le_of_ble_eq_true rfl) ?_
  intro p e s m below meth c0 ls C hr hk B hl
  have hl : lv_has ls 4 [(0, .ref o), (1, .int (iZ (f))), (2, .int (iZ (g))), (3, .int (iZ (z)))] := hl
  refine lv_aload_n C.1 C.2.1 dX5_shift_0 rfl (lv_at hl 0 rfl) ?_
  refine lv_iload_n C.1 C.2.1 dX5_shift_1 rfl (lv_at hl 1 rfl) ?_
  refine z_call C (c_X5_isNo l (f) (by first | assumption | omega | rfl | exact decide_eq_false (by omega) | exact decide_eq_true (by assumption) | exact decide_eq_true (by omega) | exact one_shl33 (by omega) | exact pm_lt _ _ | exact rm_lt (by first | assumption | exact pm_lt _ _) | exact Nat.lt_of_le_of_lt (Nat.shiftRight_le _ _) (by assumption) | exact Nat.lt_of_le_of_lt Nat.and_le_right (by omega))) ml_X5_67 ⟨by decide, by decide⟩ ⟨Nat.le_of_ble_eq_true rfl, Nat.le_of_ble_eq_true rfl⟩ hl (Nat.le_of_ble_eq_true rfl) rfl dX5_shift_2 ?_
  refine z_ifB_ne (tgt := 15) C dX5_shift_5 (by decide) (fun h5 => ?_) (fun h5 => ?_)
  · exact absurd (of_decide_eq_true h5) (by omega)
  · refine lv_iload_n C.1 C.2.1 dX5_shift_8 rfl (lv_at hl 3 rfl) ?_
    refine z_call C (c_X5_isNo l (z) (by first | assumption | omega | rfl | exact decide_eq_false (by omega) | exact decide_eq_true (by assumption) | exact decide_eq_true (by omega) | exact one_shl33 (by omega) | exact pm_lt _ _ | exact rm_lt (by first | assumption | exact pm_lt _ _) | exact Nat.lt_of_le_of_lt (Nat.shiftRight_le _ _) (by assumption) | exact Nat.lt_of_le_of_lt Nat.and_le_right (by omega))) ml_X5_67 ⟨by decide, by decide⟩ ⟨Nat.le_of_ble_eq_true rfl, Nat.le_of_ble_eq_true rfl⟩ hl (Nat.le_of_ble_eq_true rfl) rfl dX5_shift_9 ?_
    refine z_ifB_eq (tgt := 19) C dX5_shift_12 (by decide) (fun h12 => ?_) (fun h12 => ?_)
    · refine z_iconst C dX5_shift_19 ?_
      refine z_iconst C dX5_shift_20 ?_
      refine zo_callD C B (r := some (.int (iZ (zB (false))))) (c_X5_start_ok l D cJ o a (c) (th) (ac) (re) (kn) (false) (1 : Int) (by first | assumption | omega | rfl | exact decide_eq_false (by omega) | exact decide_eq_true (by assumption) | exact decide_eq_true (by omega) | exact one_shl33 (by omega) | exact pm_lt _ _ | exact rm_lt (by first | assumption | exact pm_lt _ _) | exact Nat.lt_of_le_of_lt (Nat.shiftRight_le _ _) (by assumption) | exact Nat.lt_of_le_of_lt Nat.and_le_right (by omega))) ml_X5_71 rfl ⟨Nat.le_of_ble_eq_true rfl, Nat.le_of_ble_eq_true rfl⟩ ⟨Nat.le_of_ble_eq_true rfl, Nat.le_of_ble_eq_true rfl⟩ hl (Nat.le_of_ble_eq_true rfl) rfl dX5_shift_21 (fun H locs B => ?_)
      refine z_ifB_ne (tgt := 51) C dX5_shift_24 (by decide) (fun h24 => ?_) (fun h24 => ?_)
      · exact absurd h24 (by decide)
      · refine lv_aload_n C.1 C.2.1 dX5_shift_27 rfl (lv_at hl 0 rfl) ?_
        refine lv_iload_n C.1 C.2.1 dX5_shift_28 rfl (lv_at hl 2 rfl) ?_
        refine z_bipush C dX5_shift_29 (by decide) ?_
        refine z_bipush C dX5_shift_31 (by decide) ?_
        refine z_call C (c_X5_isIn l (g) (-32 : Int) (32 : Int) (by first | assumption | omega | rfl | exact decide_eq_false (by omega) | exact decide_eq_true (by assumption) | exact decide_eq_true (by omega) | exact one_shl33 (by omega) | exact pm_lt _ _ | exact rm_lt (by first | assumption | exact pm_lt _ _) | exact Nat.lt_of_le_of_lt (Nat.shiftRight_le _ _) (by assumption) | exact Nat.lt_of_le_of_lt Nat.and_le_right (by omega)) (by first | assumption | omega | rfl | exact decide_eq_false (by omega) | exact decide_eq_true (by assumption) | exact decide_eq_true (by omega) | exact one_shl33 (by omega) | exact pm_lt _ _ | exact rm_lt (by first | assumption | exact pm_lt _ _) | exact Nat.lt_of_le_of_lt (Nat.shiftRight_le _ _) (by assumption) | exact Nat.lt_of_le_of_lt Nat.and_le_right (by omega)) (by first | assumption | omega | rfl | exact decide_eq_false (by omega) | exact decide_eq_true (by assumption) | exact decide_eq_true (by omega) | exact one_shl33 (by omega) | exact pm_lt _ _ | exact rm_lt (by first | assumption | exact pm_lt _ _) | exact Nat.lt_of_le_of_lt (Nat.shiftRight_le _ _) (by assumption) | exact Nat.lt_of_le_of_lt Nat.and_le_right (by omega))) ml_X5_21 ⟨by decide, by decide⟩ ⟨Nat.le_of_ble_eq_true rfl, Nat.le_of_ble_eq_true rfl⟩ hl (Nat.le_of_ble_eq_true rfl) rfl dX5_shift_33 ?_
        refine z_ifB_ne (tgt := 43) C dX5_shift_36 (by decide) (fun h36 => ?_) (fun h36 => ?_)
        · have g36 := of_decide_eq_true h36
          refine z_iconst C dX5_shift_43 ?_
          refine z_iconst C dX5_shift_44 ?_
          exfalso; omega
        · have g36 := of_decide_eq_false h36
          refine z_iconst C dX5_shift_39 ?_
          refine lv_goto (tgt := 44) C.1 C.2.1 dX5_shift_40 (by decide) ?_
          refine z_iconst C dX5_shift_44 ?_
          refine zo_callD C B (r := some (.int (iZ (zB (true))))) (c_X5_refuse_bad l D cJ o a (c) (0) ((ac)) ((re)) ((kn)) (true) (2 : Int) (by first | assumption | omega | rfl | exact decide_eq_false (by omega) | exact decide_eq_true (by assumption) | exact decide_eq_true (by omega) | exact one_shl33 (by omega) | exact pm_lt _ _ | exact rm_lt (by first | assumption | exact pm_lt _ _) | exact Nat.lt_of_le_of_lt (Nat.shiftRight_le _ _) (by assumption) | exact Nat.lt_of_le_of_lt Nat.and_le_right (by omega)) (by first | assumption | omega | rfl | exact decide_eq_false (by omega) | exact decide_eq_true (by assumption) | exact decide_eq_true (by omega) | exact one_shl33 (by omega) | exact pm_lt _ _ | exact rm_lt (by first | assumption | exact pm_lt _ _) | exact Nat.lt_of_le_of_lt (Nat.shiftRight_le _ _) (by assumption) | exact Nat.lt_of_le_of_lt Nat.and_le_right (by omega)) (by first | assumption | omega | rfl | exact decide_eq_false (by omega) | exact decide_eq_true (by assumption) | exact decide_eq_true (by omega) | exact one_shl33 (by omega) | exact pm_lt _ _ | exact rm_lt (by first | assumption | exact pm_lt _ _) | exact Nat.lt_of_le_of_lt (Nat.shiftRight_le _ _) (by assumption) | exact Nat.lt_of_le_of_lt Nat.and_le_right (by omega))) ml_X5_17 rfl ⟨Nat.le_of_ble_eq_true rfl, Nat.le_of_ble_eq_true rfl⟩ ⟨Nat.le_of_ble_eq_true rfl, Nat.le_of_ble_eq_true rfl⟩ hl (Nat.le_of_ble_eq_true rfl) rfl dX5_shift_45 (fun H locs B => ?_)
          refine z_ifB_eq (tgt := 53) C dX5_shift_48 (by decide) (fun h48 => ?_) (fun h48 => ?_)
          · exact absurd h48 (by decide)
          · refine z_iconst C dX5_shift_51 ?_
            exact zo_iret C B hr hk (Nat.le_of_ble_eq_true rfl) (Nat.le_of_ble_eq_true rfl) dX5_shift_52 (by exact congrArg (fun z : Int => some (Value.int (iZ z))) (by rfl)) (by rfl) (by rfl)
    · exact absurd (of_decide_eq_true h12) (by omega)

set_option maxHeartbeats 4000000 in
set_option maxRecDepth 100000 in
theorem c_X5_quotient_bad1 (l : Launch) (D : va_G) (cJ : ClassId) (o a : Nat) (c : Nat → Nat) (th : Int) (ac : Int32) (re : Int32) (kn : Int32) (f : Int) (g : Int) (z : Int) (r9f : -2147483648 ≤ f ∧ f ≤ 2147483647) (r9g : -2147483648 ≤ g ∧ g ≤ 2147483647) (r9z : -2147483648 ≤ z ∧ z ≤ 2147483647) (hbad : ¬ ((0 ≤ f ∧ f ≤ 5) ∧ (0 ≤ g ∧ g ≤ 5) ∧ (0 ≤ z ∧ z ≤ 5))) : zA l yX5_quotient 2 67 0 0 D 4 cJ o a [.int (iZ (f)), .int (iZ (g)), .int (iZ (z))] c [.int (iZ (th)), .int (ac), .int (re), .int (kn)] (fun v => v = some (.int (iZ (0)))) (c) [.int (iZ (1)), .int (ac), .int (re), .int (kn)] := by
  refine zA.intro (lo := 44) (nA := 3) (own := RX5) zi_X5_quotient (by decide) rfl rfl (by decide +kernel) rfl (Nat.le_of_ble_eq_true rfl) ?_
  intro p e s m below meth c0 ls C hr hk B hl
  have hl : lv_has ls 4 [(0, .ref o), (1, .int (iZ (f))), (2, .int (iZ (g))), (3, .int (iZ (z)))] := hl
  refine lv_aload_n C.1 C.2.1 dX5_quotient_0 rfl (lv_at hl 0 rfl) ?_
  refine lv_iload_n C.1 C.2.1 dX5_quotient_1 rfl (lv_at hl 1 rfl) ?_
  refine z_call C (c_X5_isNo l (f) (by first | assumption | omega | rfl | exact decide_eq_false (by omega) | exact decide_eq_true (by assumption) | exact decide_eq_true (by omega) | exact one_shl33 (by omega) | exact pm_lt _ _ | exact rm_lt (by first | assumption | exact pm_lt _ _) | exact Nat.lt_of_le_of_lt (Nat.shiftRight_le _ _) (by assumption) | exact Nat.lt_of_le_of_lt Nat.and_le_right (by omega))) ml_X5_67 ⟨by decide, by decide⟩ ⟨Nat.le_of_ble_eq_true rfl, Nat.le_of_ble_eq_true rfl⟩ hl (Nat.le_of_ble_eq_true rfl) rfl dX5_quotient_2 ?_
  refine z_ifB_ne (tgt := 22) C dX5_quotient_5 (by decide) (fun h5 => ?_) (fun h5 => ?_)
  · have g5 := of_decide_eq_true h5
    refine z_iconst C dX5_quotient_22 ?_
    refine lv_goto (tgt := 27) C.1 C.2.1 dX5_quotient_23 (by decide) ?_
    refine z_iconst C dX5_quotient_27 ?_
    refine zo_callD C B (r := some (.int (iZ (zB (true))))) (c_X5_start_bad l D cJ o a (c) (th) (ac) (re) (kn) (true) (1 : Int) (by first | assumption | omega | rfl | exact decide_eq_false (by omega) | exact decide_eq_true (by assumption) | exact decide_eq_true (by omega) | exact one_shl33 (by omega) | exact pm_lt _ _ | exact rm_lt (by first | assumption | exact pm_lt _ _) | exact Nat.lt_of_le_of_lt (Nat.shiftRight_le _ _) (by assumption) | exact Nat.lt_of_le_of_lt Nat.and_le_right (by omega)) (by first | assumption | omega | rfl | exact decide_eq_false (by omega) | exact decide_eq_true (by assumption) | exact decide_eq_true (by omega) | exact one_shl33 (by omega) | exact pm_lt _ _ | exact rm_lt (by first | assumption | exact pm_lt _ _) | exact Nat.lt_of_le_of_lt (Nat.shiftRight_le _ _) (by assumption) | exact Nat.lt_of_le_of_lt Nat.and_le_right (by omega))) ml_X5_71 rfl ⟨Nat.le_of_ble_eq_true rfl, Nat.le_of_ble_eq_true rfl⟩ ⟨Nat.le_of_ble_eq_true rfl, Nat.le_of_ble_eq_true rfl⟩ hl (Nat.le_of_ble_eq_true rfl) rfl dX5_quotient_28 (fun H locs B => ?_)
    refine z_ifB_eq (tgt := 36) C dX5_quotient_31 (by decide) (fun h31 => ?_) (fun h31 => ?_)
    · exact absurd h31 (by decide)
    · refine z_iconst C dX5_quotient_34 ?_
      exact zo_iret C B hr hk (Nat.le_of_ble_eq_true rfl) (Nat.le_of_ble_eq_true rfl) dX5_quotient_35 (by exact congrArg (fun z : Int => some (Value.int (iZ z))) (by rfl)) (by rfl) (by rfl)
  · have g5 := of_decide_eq_false h5
    refine lv_iload_n C.1 C.2.1 dX5_quotient_8 rfl (lv_at hl 2 rfl) ?_
    refine z_call C (c_X5_isNo l (g) (by first | assumption | omega | rfl | exact decide_eq_false (by omega) | exact decide_eq_true (by assumption) | exact decide_eq_true (by omega) | exact one_shl33 (by omega) | exact pm_lt _ _ | exact rm_lt (by first | assumption | exact pm_lt _ _) | exact Nat.lt_of_le_of_lt (Nat.shiftRight_le _ _) (by assumption) | exact Nat.lt_of_le_of_lt Nat.and_le_right (by omega))) ml_X5_67 ⟨by decide, by decide⟩ ⟨Nat.le_of_ble_eq_true rfl, Nat.le_of_ble_eq_true rfl⟩ hl (Nat.le_of_ble_eq_true rfl) rfl dX5_quotient_9 ?_
    refine z_ifB_ne (tgt := 22) C dX5_quotient_12 (by decide) (fun h12 => ?_) (fun h12 => ?_)
    · have g12 := of_decide_eq_true h12
      refine z_iconst C dX5_quotient_22 ?_
      refine lv_goto (tgt := 27) C.1 C.2.1 dX5_quotient_23 (by decide) ?_
      refine z_iconst C dX5_quotient_27 ?_
      refine zo_callD C B (r := some (.int (iZ (zB (true))))) (c_X5_start_bad l D cJ o a (c) (th) (ac) (re) (kn) (true) (1 : Int) (by first | assumption | omega | rfl | exact decide_eq_false (by omega) | exact decide_eq_true (by assumption) | exact decide_eq_true (by omega) | exact one_shl33 (by omega) | exact pm_lt _ _ | exact rm_lt (by first | assumption | exact pm_lt _ _) | exact Nat.lt_of_le_of_lt (Nat.shiftRight_le _ _) (by assumption) | exact Nat.lt_of_le_of_lt Nat.and_le_right (by omega)) (by first | assumption | omega | rfl | exact decide_eq_false (by omega) | exact decide_eq_true (by assumption) | exact decide_eq_true (by omega) | exact one_shl33 (by omega) | exact pm_lt _ _ | exact rm_lt (by first | assumption | exact pm_lt _ _) | exact Nat.lt_of_le_of_lt (Nat.shiftRight_le _ _) (by assumption) | exact Nat.lt_of_le_of_lt Nat.and_le_right (by omega))) ml_X5_71 rfl ⟨Nat.le_of_ble_eq_true rfl, Nat.le_of_ble_eq_true rfl⟩ ⟨Nat.le_of_ble_eq_true rfl, Nat.le_of_ble_eq_true rfl⟩ hl (Nat.le_of_ble_eq_true rfl) rfl dX5_quotient_28 (fun H locs B => ?_)
      refine z_ifB_eq (tgt := 36) C dX5_quotient_31 (by decide) (fun h31 => ?_) (fun h31 => ?_)
      · exact absurd h31 (by decide)
      · refine z_iconst C dX5_quotient_34 ?_
        exact zo_iret C B hr hk (Nat.le_of_ble_eq_true rfl) (Nat.le_of_ble_eq_true rfl) dX5_quotient_35 (by exact congrArg (fun z : Int => some (Value.int (iZ z))) (by rfl)) (by rfl) (by rfl)
    · have g12 := of_decide_eq_false h12
      refine lv_iload_n C.1 C.2.1 dX5_quotient_15 rfl (lv_at hl 3 rfl) ?_
      refine z_call C (c_X5_isNo l (z) (by first | assumption | omega | rfl | exact decide_eq_false (by omega) | exact decide_eq_true (by assumption) | exact decide_eq_true (by omega) | exact one_shl33 (by omega) | exact pm_lt _ _ | exact rm_lt (by first | assumption | exact pm_lt _ _) | exact Nat.lt_of_le_of_lt (Nat.shiftRight_le _ _) (by assumption) | exact Nat.lt_of_le_of_lt Nat.and_le_right (by omega))) ml_X5_67 ⟨by decide, by decide⟩ ⟨Nat.le_of_ble_eq_true rfl, Nat.le_of_ble_eq_true rfl⟩ hl (Nat.le_of_ble_eq_true rfl) rfl dX5_quotient_16 ?_
      refine z_ifB_eq (tgt := 26) C dX5_quotient_19 (by decide) (fun h19 => ?_) (fun h19 => ?_)
      · have g19 := of_decide_eq_false h19
        refine z_iconst C dX5_quotient_26 ?_
        refine z_iconst C dX5_quotient_27 ?_
        exfalso; omega
      · have g19 := of_decide_eq_true h19
        refine z_iconst C dX5_quotient_22 ?_
        refine lv_goto (tgt := 27) C.1 C.2.1 dX5_quotient_23 (by decide) ?_
        refine z_iconst C dX5_quotient_27 ?_
        refine zo_callD C B (r := some (.int (iZ (zB (true))))) (c_X5_start_bad l D cJ o a (c) (th) (ac) (re) (kn) (true) (1 : Int) (by first | assumption | omega | rfl | exact decide_eq_false (by omega) | exact decide_eq_true (by assumption) | exact decide_eq_true (by omega) | exact one_shl33 (by omega) | exact pm_lt _ _ | exact rm_lt (by first | assumption | exact pm_lt _ _) | exact Nat.lt_of_le_of_lt (Nat.shiftRight_le _ _) (by assumption) | exact Nat.lt_of_le_of_lt Nat.and_le_right (by omega)) (by first | assumption | omega | rfl | exact decide_eq_false (by omega) | exact decide_eq_true (by assumption) | exact decide_eq_true (by omega) | exact one_shl33 (by omega) | exact pm_lt _ _ | exact rm_lt (by first | assumption | exact pm_lt _ _) | exact Nat.lt_of_le_of_lt (Nat.shiftRight_le _ _) (by assumption) | exact Nat.lt_of_le_of_lt Nat.and_le_right (by omega))) ml_X5_71 rfl ⟨Nat.le_of_ble_eq_true rfl, Nat.le_of_ble_eq_true rfl⟩ ⟨Nat.le_of_ble_eq_true rfl, Nat.le_of_ble_eq_true rfl⟩ hl (Nat.le_of_ble_eq_true rfl) rfl dX5_quotient_28 (fun H locs B => ?_)
        refine z_ifB_eq (tgt := 36) C dX5_quotient_31 (by decide) (fun h31 => ?_) (fun h31 => ?_)
        · exact absurd h31 (by decide)
        · refine z_iconst C dX5_quotient_34 ?_
          exact zo_iret C B hr hk (Nat.le_of_ble_eq_true rfl) (Nat.le_of_ble_eq_true rfl) dX5_quotient_35 (by exact congrArg (fun z : Int => some (Value.int (iZ z))) (by rfl)) (by rfl) (by rfl)

set_option maxHeartbeats 4000000 in
set_option maxRecDepth 100000 in
theorem c_X5_rest_bad1 (l : Launch) (D : va_G) (cJ : ClassId) (o a : Nat) (c : Nat → Nat) (th : Int) (ac : Int32) (re : Int32) (kn : Int32) (f : Int) (g : Int) (z : Int) (r9f : -2147483648 ≤ f ∧ f ≤ 2147483647) (r9g : -2147483648 ≤ g ∧ g ≤ 2147483647) (r9z : -2147483648 ≤ z ∧ z ≤ 2147483647) (hbad : ¬ ((0 ≤ f ∧ f ≤ 5) ∧ (0 ≤ g ∧ g ≤ 5) ∧ (0 ≤ z ∧ z ≤ 5))) : zA l yX5_rest 2 67 0 0 D 4 cJ o a [.int (iZ (f)), .int (iZ (g)), .int (iZ (z))] c [.int (iZ (th)), .int (ac), .int (re), .int (kn)] (fun v => v = some (.int (iZ (0)))) (c) [.int (iZ (1)), .int (ac), .int (re), .int (kn)] := by
  refine zA.intro (lo := 44) (nA := 3) (own := RX5) zi_X5_rest (by decide) rfl rfl (by decide +kernel) rfl (Nat.le_of_ble_eq_true rfl) ?_
  intro p e s m below meth c0 ls C hr hk B hl
  have hl : lv_has ls 4 [(0, .ref o), (1, .int (iZ (f))), (2, .int (iZ (g))), (3, .int (iZ (z)))] := hl
  refine lv_aload_n C.1 C.2.1 dX5_rest_0 rfl (lv_at hl 0 rfl) ?_
  refine lv_iload_n C.1 C.2.1 dX5_rest_1 rfl (lv_at hl 1 rfl) ?_
  refine z_call C (c_X5_isNo l (f) (by first | assumption | omega | rfl | exact decide_eq_false (by omega) | exact decide_eq_true (by assumption) | exact decide_eq_true (by omega) | exact one_shl33 (by omega) | exact pm_lt _ _ | exact rm_lt (by first | assumption | exact pm_lt _ _) | exact Nat.lt_of_le_of_lt (Nat.shiftRight_le _ _) (by assumption) | exact Nat.lt_of_le_of_lt Nat.and_le_right (by omega))) ml_X5_67 ⟨by decide, by decide⟩ ⟨Nat.le_of_ble_eq_true rfl, Nat.le_of_ble_eq_true rfl⟩ hl (Nat.le_of_ble_eq_true rfl) rfl dX5_rest_2 ?_
  refine z_ifB_ne (tgt := 22) C dX5_rest_5 (by decide) (fun h5 => ?_) (fun h5 => ?_)
  · have g5 := of_decide_eq_true h5
    refine z_iconst C dX5_rest_22 ?_
    refine lv_goto (tgt := 27) C.1 C.2.1 dX5_rest_23 (by decide) ?_
    refine z_iconst C dX5_rest_27 ?_
    refine zo_callD C B (r := some (.int (iZ (zB (true))))) (c_X5_start_bad l D cJ o a (c) (th) (ac) (re) (kn) (true) (1 : Int) (by first | assumption | omega | rfl | exact decide_eq_false (by omega) | exact decide_eq_true (by assumption) | exact decide_eq_true (by omega) | exact one_shl33 (by omega) | exact pm_lt _ _ | exact rm_lt (by first | assumption | exact pm_lt _ _) | exact Nat.lt_of_le_of_lt (Nat.shiftRight_le _ _) (by assumption) | exact Nat.lt_of_le_of_lt Nat.and_le_right (by omega)) (by first | assumption | omega | rfl | exact decide_eq_false (by omega) | exact decide_eq_true (by assumption) | exact decide_eq_true (by omega) | exact one_shl33 (by omega) | exact pm_lt _ _ | exact rm_lt (by first | assumption | exact pm_lt _ _) | exact Nat.lt_of_le_of_lt (Nat.shiftRight_le _ _) (by assumption) | exact Nat.lt_of_le_of_lt Nat.and_le_right (by omega))) ml_X5_71 rfl ⟨Nat.le_of_ble_eq_true rfl, Nat.le_of_ble_eq_true rfl⟩ ⟨Nat.le_of_ble_eq_true rfl, Nat.le_of_ble_eq_true rfl⟩ hl (Nat.le_of_ble_eq_true rfl) rfl dX5_rest_28 (fun H locs B => ?_)
    refine z_ifB_eq (tgt := 36) C dX5_rest_31 (by decide) (fun h31 => ?_) (fun h31 => ?_)
    · exact absurd h31 (by decide)
    · refine z_iconst C dX5_rest_34 ?_
      exact zo_iret C B hr hk (Nat.le_of_ble_eq_true rfl) (Nat.le_of_ble_eq_true rfl) dX5_rest_35 (by exact congrArg (fun z : Int => some (Value.int (iZ z))) (by rfl)) (by rfl) (by rfl)
  · have g5 := of_decide_eq_false h5
    refine lv_iload_n C.1 C.2.1 dX5_rest_8 rfl (lv_at hl 2 rfl) ?_
    refine z_call C (c_X5_isNo l (g) (by first | assumption | omega | rfl | exact decide_eq_false (by omega) | exact decide_eq_true (by assumption) | exact decide_eq_true (by omega) | exact one_shl33 (by omega) | exact pm_lt _ _ | exact rm_lt (by first | assumption | exact pm_lt _ _) | exact Nat.lt_of_le_of_lt (Nat.shiftRight_le _ _) (by assumption) | exact Nat.lt_of_le_of_lt Nat.and_le_right (by omega))) ml_X5_67 ⟨by decide, by decide⟩ ⟨Nat.le_of_ble_eq_true rfl, Nat.le_of_ble_eq_true rfl⟩ hl (Nat.le_of_ble_eq_true rfl) rfl dX5_rest_9 ?_
    refine z_ifB_ne (tgt := 22) C dX5_rest_12 (by decide) (fun h12 => ?_) (fun h12 => ?_)
    · have g12 := of_decide_eq_true h12
      refine z_iconst C dX5_rest_22 ?_
      refine lv_goto (tgt := 27) C.1 C.2.1 dX5_rest_23 (by decide) ?_
      refine z_iconst C dX5_rest_27 ?_
      refine zo_callD C B (r := some (.int (iZ (zB (true))))) (c_X5_start_bad l D cJ o a (c) (th) (ac) (re) (kn) (true) (1 : Int) (by first | assumption | omega | rfl | exact decide_eq_false (by omega) | exact decide_eq_true (by assumption) | exact decide_eq_true (by omega) | exact one_shl33 (by omega) | exact pm_lt _ _ | exact rm_lt (by first | assumption | exact pm_lt _ _) | exact Nat.lt_of_le_of_lt (Nat.shiftRight_le _ _) (by assumption) | exact Nat.lt_of_le_of_lt Nat.and_le_right (by omega)) (by first | assumption | omega | rfl | exact decide_eq_false (by omega) | exact decide_eq_true (by assumption) | exact decide_eq_true (by omega) | exact one_shl33 (by omega) | exact pm_lt _ _ | exact rm_lt (by first | assumption | exact pm_lt _ _) | exact Nat.lt_of_le_of_lt (Nat.shiftRight_le _ _) (by assumption) | exact Nat.lt_of_le_of_lt Nat.and_le_right (by omega))) ml_X5_71 rfl ⟨Nat.le_of_ble_eq_true rfl, Nat.le_of_ble_eq_true rfl⟩ ⟨Nat.le_of_ble_eq_true rfl, Nat.le_of_ble_eq_true rfl⟩ hl (Nat.le_of_ble_eq_true rfl) rfl dX5_rest_28 (fun H locs B => ?_)
      refine z_ifB_eq (tgt := 36) C dX5_rest_31 (by decide) (fun h31 => ?_) (fun h31 => ?_)
      · exact absurd h31 (by decide)
      · refine z_iconst C dX5_rest_34 ?_
        exact zo_iret C B hr hk (Nat.le_of_ble_eq_true rfl) (Nat.le_of_ble_eq_true rfl) dX5_rest_35 (by exact congrArg (fun z : Int => some (Value.int (iZ z))) (by rfl)) (by rfl) (by rfl)
    · have g12 := of_decide_eq_false h12
      refine lv_iload_n C.1 C.2.1 dX5_rest_15 rfl (lv_at hl 3 rfl) ?_
      refine z_call C (c_X5_isNo l (z) (by first | assumption | omega | rfl | exact decide_eq_false (by omega) | exact decide_eq_true (by assumption) | exact decide_eq_true (by omega) | exact one_shl33 (by omega) | exact pm_lt _ _ | exact rm_lt (by first | assumption | exact pm_lt _ _) | exact Nat.lt_of_le_of_lt (Nat.shiftRight_le _ _) (by assumption) | exact Nat.lt_of_le_of_lt Nat.and_le_right (by omega))) ml_X5_67 ⟨by decide, by decide⟩ ⟨Nat.le_of_ble_eq_true rfl, Nat.le_of_ble_eq_true rfl⟩ hl (Nat.le_of_ble_eq_true rfl) rfl dX5_rest_16 ?_
      refine z_ifB_eq (tgt := 26) C dX5_rest_19 (by decide) (fun h19 => ?_) (fun h19 => ?_)
      · have g19 := of_decide_eq_false h19
        refine z_iconst C dX5_rest_26 ?_
        refine z_iconst C dX5_rest_27 ?_
        exfalso; omega
      · have g19 := of_decide_eq_true h19
        refine z_iconst C dX5_rest_22 ?_
        refine lv_goto (tgt := 27) C.1 C.2.1 dX5_rest_23 (by decide) ?_
        refine z_iconst C dX5_rest_27 ?_
        refine zo_callD C B (r := some (.int (iZ (zB (true))))) (c_X5_start_bad l D cJ o a (c) (th) (ac) (re) (kn) (true) (1 : Int) (by first | assumption | omega | rfl | exact decide_eq_false (by omega) | exact decide_eq_true (by assumption) | exact decide_eq_true (by omega) | exact one_shl33 (by omega) | exact pm_lt _ _ | exact rm_lt (by first | assumption | exact pm_lt _ _) | exact Nat.lt_of_le_of_lt (Nat.shiftRight_le _ _) (by assumption) | exact Nat.lt_of_le_of_lt Nat.and_le_right (by omega)) (by first | assumption | omega | rfl | exact decide_eq_false (by omega) | exact decide_eq_true (by assumption) | exact decide_eq_true (by omega) | exact one_shl33 (by omega) | exact pm_lt _ _ | exact rm_lt (by first | assumption | exact pm_lt _ _) | exact Nat.lt_of_le_of_lt (Nat.shiftRight_le _ _) (by assumption) | exact Nat.lt_of_le_of_lt Nat.and_le_right (by omega))) ml_X5_71 rfl ⟨Nat.le_of_ble_eq_true rfl, Nat.le_of_ble_eq_true rfl⟩ ⟨Nat.le_of_ble_eq_true rfl, Nat.le_of_ble_eq_true rfl⟩ hl (Nat.le_of_ble_eq_true rfl) rfl dX5_rest_28 (fun H locs B => ?_)
        refine z_ifB_eq (tgt := 36) C dX5_rest_31 (by decide) (fun h31 => ?_) (fun h31 => ?_)
        · exact absurd h31 (by decide)
        · refine z_iconst C dX5_rest_34 ?_
          exact zo_iret C B hr hk (Nat.le_of_ble_eq_true rfl) (Nat.le_of_ble_eq_true rfl) dX5_rest_35 (by exact congrArg (fun z : Int => some (Value.int (iZ z))) (by rfl)) (by rfl) (by rfl)

set_option maxHeartbeats 4000000 in
set_option maxRecDepth 100000 in
theorem c_X5_gcd_bad1 (l : Launch) (D : va_G) (cJ : ClassId) (o a : Nat) (c : Nat → Nat) (th : Int) (ac : Int32) (re : Int32) (kn : Int32) (f : Int) (g : Int) (z : Int) (r9f : -2147483648 ≤ f ∧ f ≤ 2147483647) (r9g : -2147483648 ≤ g ∧ g ≤ 2147483647) (r9z : -2147483648 ≤ z ∧ z ≤ 2147483647) (hbad : ¬ ((0 ≤ f ∧ f ≤ 5) ∧ (0 ≤ g ∧ g ≤ 5) ∧ (0 ≤ z ∧ z ≤ 5))) : zA l yX5_gcd 2 67 0 0 D 4 cJ o a [.int (iZ (f)), .int (iZ (g)), .int (iZ (z))] c [.int (iZ (th)), .int (ac), .int (re), .int (kn)] (fun v => v = some (.int (iZ (0)))) (c) [.int (iZ (1)), .int (ac), .int (re), .int (kn)] := by
  refine zA.intro (lo := 44) (nA := 3) (own := RX5) zi_X5_gcd (by decide) rfl rfl (by decide +kernel) rfl (Nat.le_of_ble_eq_true rfl) ?_
  intro p e s m below meth c0 ls C hr hk B hl
  have hl : lv_has ls 4 [(0, .ref o), (1, .int (iZ (f))), (2, .int (iZ (g))), (3, .int (iZ (z)))] := hl
  refine lv_aload_n C.1 C.2.1 dX5_gcd_0 rfl (lv_at hl 0 rfl) ?_
  refine lv_iload_n C.1 C.2.1 dX5_gcd_1 rfl (lv_at hl 1 rfl) ?_
  refine z_call C (c_X5_isNo l (f) (by first | assumption | omega | rfl | exact decide_eq_false (by omega) | exact decide_eq_true (by assumption) | exact decide_eq_true (by omega) | exact one_shl33 (by omega) | exact pm_lt _ _ | exact rm_lt (by first | assumption | exact pm_lt _ _) | exact Nat.lt_of_le_of_lt (Nat.shiftRight_le _ _) (by assumption) | exact Nat.lt_of_le_of_lt Nat.and_le_right (by omega))) ml_X5_67 ⟨by decide, by decide⟩ ⟨Nat.le_of_ble_eq_true rfl, Nat.le_of_ble_eq_true rfl⟩ hl (Nat.le_of_ble_eq_true rfl) rfl dX5_gcd_2 ?_
  refine z_ifB_ne (tgt := 22) C dX5_gcd_5 (by decide) (fun h5 => ?_) (fun h5 => ?_)
  · have g5 := of_decide_eq_true h5
    refine z_iconst C dX5_gcd_22 ?_
    refine lv_goto (tgt := 27) C.1 C.2.1 dX5_gcd_23 (by decide) ?_
    refine z_iconst C dX5_gcd_27 ?_
    refine zo_callD C B (r := some (.int (iZ (zB (true))))) (c_X5_start_bad l D cJ o a (c) (th) (ac) (re) (kn) (true) (1 : Int) (by first | assumption | omega | rfl | exact decide_eq_false (by omega) | exact decide_eq_true (by assumption) | exact decide_eq_true (by omega) | exact one_shl33 (by omega) | exact pm_lt _ _ | exact rm_lt (by first | assumption | exact pm_lt _ _) | exact Nat.lt_of_le_of_lt (Nat.shiftRight_le _ _) (by assumption) | exact Nat.lt_of_le_of_lt Nat.and_le_right (by omega)) (by first | assumption | omega | rfl | exact decide_eq_false (by omega) | exact decide_eq_true (by assumption) | exact decide_eq_true (by omega) | exact one_shl33 (by omega) | exact pm_lt _ _ | exact rm_lt (by first | assumption | exact pm_lt _ _) | exact Nat.lt_of_le_of_lt (Nat.shiftRight_le _ _) (by assumption) | exact Nat.lt_of_le_of_lt Nat.and_le_right (by omega))) ml_X5_71 rfl ⟨Nat.le_of_ble_eq_true rfl, Nat.le_of_ble_eq_true rfl⟩ ⟨Nat.le_of_ble_eq_true rfl, Nat.le_of_ble_eq_true rfl⟩ hl (Nat.le_of_ble_eq_true rfl) rfl dX5_gcd_28 (fun H locs B => ?_)
    refine z_ifB_eq (tgt := 38) C dX5_gcd_31 (by decide) (fun h31 => ?_) (fun h31 => ?_)
    · exact absurd h31 (by decide)
    · refine z_iconst C dX5_gcd_34 ?_
      refine lv_goto (tgt := 59) C.1 C.2.1 dX5_gcd_35 (by decide) ?_
      exact zo_iret C B hr hk (Nat.le_of_ble_eq_true rfl) (Nat.le_of_ble_eq_true rfl) dX5_gcd_59 (by exact congrArg (fun z : Int => some (Value.int (iZ z))) (by rfl)) (by rfl) (by rfl)
  · have g5 := of_decide_eq_false h5
    refine lv_iload_n C.1 C.2.1 dX5_gcd_8 rfl (lv_at hl 2 rfl) ?_
    refine z_call C (c_X5_isNo l (g) (by first | assumption | omega | rfl | exact decide_eq_false (by omega) | exact decide_eq_true (by assumption) | exact decide_eq_true (by omega) | exact one_shl33 (by omega) | exact pm_lt _ _ | exact rm_lt (by first | assumption | exact pm_lt _ _) | exact Nat.lt_of_le_of_lt (Nat.shiftRight_le _ _) (by assumption) | exact Nat.lt_of_le_of_lt Nat.and_le_right (by omega))) ml_X5_67 ⟨by decide, by decide⟩ ⟨Nat.le_of_ble_eq_true rfl, Nat.le_of_ble_eq_true rfl⟩ hl (Nat.le_of_ble_eq_true rfl) rfl dX5_gcd_9 ?_
    refine z_ifB_ne (tgt := 22) C dX5_gcd_12 (by decide) (fun h12 => ?_) (fun h12 => ?_)
    · have g12 := of_decide_eq_true h12
      refine z_iconst C dX5_gcd_22 ?_
      refine lv_goto (tgt := 27) C.1 C.2.1 dX5_gcd_23 (by decide) ?_
      refine z_iconst C dX5_gcd_27 ?_
      refine zo_callD C B (r := some (.int (iZ (zB (true))))) (c_X5_start_bad l D cJ o a (c) (th) (ac) (re) (kn) (true) (1 : Int) (by first | assumption | omega | rfl | exact decide_eq_false (by omega) | exact decide_eq_true (by assumption) | exact decide_eq_true (by omega) | exact one_shl33 (by omega) | exact pm_lt _ _ | exact rm_lt (by first | assumption | exact pm_lt _ _) | exact Nat.lt_of_le_of_lt (Nat.shiftRight_le _ _) (by assumption) | exact Nat.lt_of_le_of_lt Nat.and_le_right (by omega)) (by first | assumption | omega | rfl | exact decide_eq_false (by omega) | exact decide_eq_true (by assumption) | exact decide_eq_true (by omega) | exact one_shl33 (by omega) | exact pm_lt _ _ | exact rm_lt (by first | assumption | exact pm_lt _ _) | exact Nat.lt_of_le_of_lt (Nat.shiftRight_le _ _) (by assumption) | exact Nat.lt_of_le_of_lt Nat.and_le_right (by omega))) ml_X5_71 rfl ⟨Nat.le_of_ble_eq_true rfl, Nat.le_of_ble_eq_true rfl⟩ ⟨Nat.le_of_ble_eq_true rfl, Nat.le_of_ble_eq_true rfl⟩ hl (Nat.le_of_ble_eq_true rfl) rfl dX5_gcd_28 (fun H locs B => ?_)
      refine z_ifB_eq (tgt := 38) C dX5_gcd_31 (by decide) (fun h31 => ?_) (fun h31 => ?_)
      · exact absurd h31 (by decide)
      · refine z_iconst C dX5_gcd_34 ?_
        refine lv_goto (tgt := 59) C.1 C.2.1 dX5_gcd_35 (by decide) ?_
        exact zo_iret C B hr hk (Nat.le_of_ble_eq_true rfl) (Nat.le_of_ble_eq_true rfl) dX5_gcd_59 (by exact congrArg (fun z : Int => some (Value.int (iZ z))) (by rfl)) (by rfl) (by rfl)
    · have g12 := of_decide_eq_false h12
      refine lv_iload_n C.1 C.2.1 dX5_gcd_15 rfl (lv_at hl 3 rfl) ?_
      refine z_call C (c_X5_isNo l (z) (by first | assumption | omega | rfl | exact decide_eq_false (by omega) | exact decide_eq_true (by assumption) | exact decide_eq_true (by omega) | exact one_shl33 (by omega) | exact pm_lt _ _ | exact rm_lt (by first | assumption | exact pm_lt _ _) | exact Nat.lt_of_le_of_lt (Nat.shiftRight_le _ _) (by assumption) | exact Nat.lt_of_le_of_lt Nat.and_le_right (by omega))) ml_X5_67 ⟨by decide, by decide⟩ ⟨Nat.le_of_ble_eq_true rfl, Nat.le_of_ble_eq_true rfl⟩ hl (Nat.le_of_ble_eq_true rfl) rfl dX5_gcd_16 ?_
      refine z_ifB_eq (tgt := 26) C dX5_gcd_19 (by decide) (fun h19 => ?_) (fun h19 => ?_)
      · have g19 := of_decide_eq_false h19
        refine z_iconst C dX5_gcd_26 ?_
        refine z_iconst C dX5_gcd_27 ?_
        exfalso; omega
      · have g19 := of_decide_eq_true h19
        refine z_iconst C dX5_gcd_22 ?_
        refine lv_goto (tgt := 27) C.1 C.2.1 dX5_gcd_23 (by decide) ?_
        refine z_iconst C dX5_gcd_27 ?_
        refine zo_callD C B (r := some (.int (iZ (zB (true))))) (c_X5_start_bad l D cJ o a (c) (th) (ac) (re) (kn) (true) (1 : Int) (by first | assumption | omega | rfl | exact decide_eq_false (by omega) | exact decide_eq_true (by assumption) | exact decide_eq_true (by omega) | exact one_shl33 (by omega) | exact pm_lt _ _ | exact rm_lt (by first | assumption | exact pm_lt _ _) | exact Nat.lt_of_le_of_lt (Nat.shiftRight_le _ _) (by assumption) | exact Nat.lt_of_le_of_lt Nat.and_le_right (by omega)) (by first | assumption | omega | rfl | exact decide_eq_false (by omega) | exact decide_eq_true (by assumption) | exact decide_eq_true (by omega) | exact one_shl33 (by omega) | exact pm_lt _ _ | exact rm_lt (by first | assumption | exact pm_lt _ _) | exact Nat.lt_of_le_of_lt (Nat.shiftRight_le _ _) (by assumption) | exact Nat.lt_of_le_of_lt Nat.and_le_right (by omega))) ml_X5_71 rfl ⟨Nat.le_of_ble_eq_true rfl, Nat.le_of_ble_eq_true rfl⟩ ⟨Nat.le_of_ble_eq_true rfl, Nat.le_of_ble_eq_true rfl⟩ hl (Nat.le_of_ble_eq_true rfl) rfl dX5_gcd_28 (fun H locs B => ?_)
        refine z_ifB_eq (tgt := 38) C dX5_gcd_31 (by decide) (fun h31 => ?_) (fun h31 => ?_)
        · exact absurd h31 (by decide)
        · refine z_iconst C dX5_gcd_34 ?_
          refine lv_goto (tgt := 59) C.1 C.2.1 dX5_gcd_35 (by decide) ?_
          exact zo_iret C B hr hk (Nat.le_of_ble_eq_true rfl) (Nat.le_of_ble_eq_true rfl) dX5_gcd_59 (by exact congrArg (fun z : Int => some (Value.int (iZ z))) (by rfl)) (by rfl) (by rfl)

set_option maxHeartbeats 4000000 in
set_option maxRecDepth 100000 in
theorem c_X5_lcm_bad1 (l : Launch) (D : va_G) (cJ : ClassId) (o a : Nat) (c : Nat → Nat) (th : Int) (ac : Int32) (re : Int32) (kn : Int32) (f : Int) (g : Int) (z : Int) (r9f : -2147483648 ≤ f ∧ f ≤ 2147483647) (r9g : -2147483648 ≤ g ∧ g ≤ 2147483647) (r9z : -2147483648 ≤ z ∧ z ≤ 2147483647) (hbad : ¬ ((0 ≤ f ∧ f ≤ 5) ∧ (0 ≤ g ∧ g ≤ 5) ∧ (0 ≤ z ∧ z ≤ 5))) : zA l yX5_lcm 2 67 0 0 D 4 cJ o a [.int (iZ (f)), .int (iZ (g)), .int (iZ (z))] c [.int (iZ (th)), .int (ac), .int (re), .int (kn)] (fun v => v = some (.int (iZ (0)))) (c) [.int (iZ (1)), .int (ac), .int (re), .int (kn)] := by
  refine zA.intro (lo := 44) (nA := 3) (own := RX5) zi_X5_lcm (by decide) rfl rfl (by decide +kernel) rfl (Nat.le_of_ble_eq_true rfl) ?_
  intro p e s m below meth c0 ls C hr hk B hl
  have hl : lv_has ls 4 [(0, .ref o), (1, .int (iZ (f))), (2, .int (iZ (g))), (3, .int (iZ (z)))] := hl
  refine lv_aload_n C.1 C.2.1 dX5_lcm_0 rfl (lv_at hl 0 rfl) ?_
  refine lv_iload_n C.1 C.2.1 dX5_lcm_1 rfl (lv_at hl 1 rfl) ?_
  refine z_call C (c_X5_isNo l (f) (by first | assumption | omega | rfl | exact decide_eq_false (by omega) | exact decide_eq_true (by assumption) | exact decide_eq_true (by omega) | exact one_shl33 (by omega) | exact pm_lt _ _ | exact rm_lt (by first | assumption | exact pm_lt _ _) | exact Nat.lt_of_le_of_lt (Nat.shiftRight_le _ _) (by assumption) | exact Nat.lt_of_le_of_lt Nat.and_le_right (by omega))) ml_X5_67 ⟨by decide, by decide⟩ ⟨Nat.le_of_ble_eq_true rfl, Nat.le_of_ble_eq_true rfl⟩ hl (Nat.le_of_ble_eq_true rfl) rfl dX5_lcm_2 ?_
  refine z_ifB_ne (tgt := 22) C dX5_lcm_5 (by decide) (fun h5 => ?_) (fun h5 => ?_)
  · have g5 := of_decide_eq_true h5
    refine z_iconst C dX5_lcm_22 ?_
    refine lv_goto (tgt := 27) C.1 C.2.1 dX5_lcm_23 (by decide) ?_
    refine z_iconst C dX5_lcm_27 ?_
    refine zo_callD C B (r := some (.int (iZ (zB (true))))) (c_X5_start_bad l D cJ o a (c) (th) (ac) (re) (kn) (true) (1 : Int) (by first | assumption | omega | rfl | exact decide_eq_false (by omega) | exact decide_eq_true (by assumption) | exact decide_eq_true (by omega) | exact one_shl33 (by omega) | exact pm_lt _ _ | exact rm_lt (by first | assumption | exact pm_lt _ _) | exact Nat.lt_of_le_of_lt (Nat.shiftRight_le _ _) (by assumption) | exact Nat.lt_of_le_of_lt Nat.and_le_right (by omega)) (by first | assumption | omega | rfl | exact decide_eq_false (by omega) | exact decide_eq_true (by assumption) | exact decide_eq_true (by omega) | exact one_shl33 (by omega) | exact pm_lt _ _ | exact rm_lt (by first | assumption | exact pm_lt _ _) | exact Nat.lt_of_le_of_lt (Nat.shiftRight_le _ _) (by assumption) | exact Nat.lt_of_le_of_lt Nat.and_le_right (by omega))) ml_X5_71 rfl ⟨Nat.le_of_ble_eq_true rfl, Nat.le_of_ble_eq_true rfl⟩ ⟨Nat.le_of_ble_eq_true rfl, Nat.le_of_ble_eq_true rfl⟩ hl (Nat.le_of_ble_eq_true rfl) rfl dX5_lcm_28 (fun H locs B => ?_)
    refine z_ifB_eq (tgt := 36) C dX5_lcm_31 (by decide) (fun h31 => ?_) (fun h31 => ?_)
    · exact absurd h31 (by decide)
    · refine z_iconst C dX5_lcm_34 ?_
      exact zo_iret C B hr hk (Nat.le_of_ble_eq_true rfl) (Nat.le_of_ble_eq_true rfl) dX5_lcm_35 (by exact congrArg (fun z : Int => some (Value.int (iZ z))) (by rfl)) (by rfl) (by rfl)
  · have g5 := of_decide_eq_false h5
    refine lv_iload_n C.1 C.2.1 dX5_lcm_8 rfl (lv_at hl 2 rfl) ?_
    refine z_call C (c_X5_isNo l (g) (by first | assumption | omega | rfl | exact decide_eq_false (by omega) | exact decide_eq_true (by assumption) | exact decide_eq_true (by omega) | exact one_shl33 (by omega) | exact pm_lt _ _ | exact rm_lt (by first | assumption | exact pm_lt _ _) | exact Nat.lt_of_le_of_lt (Nat.shiftRight_le _ _) (by assumption) | exact Nat.lt_of_le_of_lt Nat.and_le_right (by omega))) ml_X5_67 ⟨by decide, by decide⟩ ⟨Nat.le_of_ble_eq_true rfl, Nat.le_of_ble_eq_true rfl⟩ hl (Nat.le_of_ble_eq_true rfl) rfl dX5_lcm_9 ?_
    refine z_ifB_ne (tgt := 22) C dX5_lcm_12 (by decide) (fun h12 => ?_) (fun h12 => ?_)
    · have g12 := of_decide_eq_true h12
      refine z_iconst C dX5_lcm_22 ?_
      refine lv_goto (tgt := 27) C.1 C.2.1 dX5_lcm_23 (by decide) ?_
      refine z_iconst C dX5_lcm_27 ?_
      refine zo_callD C B (r := some (.int (iZ (zB (true))))) (c_X5_start_bad l D cJ o a (c) (th) (ac) (re) (kn) (true) (1 : Int) (by first | assumption | omega | rfl | exact decide_eq_false (by omega) | exact decide_eq_true (by assumption) | exact decide_eq_true (by omega) | exact one_shl33 (by omega) | exact pm_lt _ _ | exact rm_lt (by first | assumption | exact pm_lt _ _) | exact Nat.lt_of_le_of_lt (Nat.shiftRight_le _ _) (by assumption) | exact Nat.lt_of_le_of_lt Nat.and_le_right (by omega)) (by first | assumption | omega | rfl | exact decide_eq_false (by omega) | exact decide_eq_true (by assumption) | exact decide_eq_true (by omega) | exact one_shl33 (by omega) | exact pm_lt _ _ | exact rm_lt (by first | assumption | exact pm_lt _ _) | exact Nat.lt_of_le_of_lt (Nat.shiftRight_le _ _) (by assumption) | exact Nat.lt_of_le_of_lt Nat.and_le_right (by omega))) ml_X5_71 rfl ⟨Nat.le_of_ble_eq_true rfl, Nat.le_of_ble_eq_true rfl⟩ ⟨Nat.le_of_ble_eq_true rfl, Nat.le_of_ble_eq_true rfl⟩ hl (Nat.le_of_ble_eq_true rfl) rfl dX5_lcm_28 (fun H locs B => ?_)
      refine z_ifB_eq (tgt := 36) C dX5_lcm_31 (by decide) (fun h31 => ?_) (fun h31 => ?_)
      · exact absurd h31 (by decide)
      · refine z_iconst C dX5_lcm_34 ?_
        exact zo_iret C B hr hk (Nat.le_of_ble_eq_true rfl) (Nat.le_of_ble_eq_true rfl) dX5_lcm_35 (by exact congrArg (fun z : Int => some (Value.int (iZ z))) (by rfl)) (by rfl) (by rfl)
    · have g12 := of_decide_eq_false h12
      refine lv_iload_n C.1 C.2.1 dX5_lcm_15 rfl (lv_at hl 3 rfl) ?_
      refine z_call C (c_X5_isNo l (z) (by first | assumption | omega | rfl | exact decide_eq_false (by omega) | exact decide_eq_true (by assumption) | exact decide_eq_true (by omega) | exact one_shl33 (by omega) | exact pm_lt _ _ | exact rm_lt (by first | assumption | exact pm_lt _ _) | exact Nat.lt_of_le_of_lt (Nat.shiftRight_le _ _) (by assumption) | exact Nat.lt_of_le_of_lt Nat.and_le_right (by omega))) ml_X5_67 ⟨by decide, by decide⟩ ⟨Nat.le_of_ble_eq_true rfl, Nat.le_of_ble_eq_true rfl⟩ hl (Nat.le_of_ble_eq_true rfl) rfl dX5_lcm_16 ?_
      refine z_ifB_eq (tgt := 26) C dX5_lcm_19 (by decide) (fun h19 => ?_) (fun h19 => ?_)
      · have g19 := of_decide_eq_false h19
        refine z_iconst C dX5_lcm_26 ?_
        refine z_iconst C dX5_lcm_27 ?_
        exfalso; omega
      · have g19 := of_decide_eq_true h19
        refine z_iconst C dX5_lcm_22 ?_
        refine lv_goto (tgt := 27) C.1 C.2.1 dX5_lcm_23 (by decide) ?_
        refine z_iconst C dX5_lcm_27 ?_
        refine zo_callD C B (r := some (.int (iZ (zB (true))))) (c_X5_start_bad l D cJ o a (c) (th) (ac) (re) (kn) (true) (1 : Int) (by first | assumption | omega | rfl | exact decide_eq_false (by omega) | exact decide_eq_true (by assumption) | exact decide_eq_true (by omega) | exact one_shl33 (by omega) | exact pm_lt _ _ | exact rm_lt (by first | assumption | exact pm_lt _ _) | exact Nat.lt_of_le_of_lt (Nat.shiftRight_le _ _) (by assumption) | exact Nat.lt_of_le_of_lt Nat.and_le_right (by omega)) (by first | assumption | omega | rfl | exact decide_eq_false (by omega) | exact decide_eq_true (by assumption) | exact decide_eq_true (by omega) | exact one_shl33 (by omega) | exact pm_lt _ _ | exact rm_lt (by first | assumption | exact pm_lt _ _) | exact Nat.lt_of_le_of_lt (Nat.shiftRight_le _ _) (by assumption) | exact Nat.lt_of_le_of_lt Nat.and_le_right (by omega))) ml_X5_71 rfl ⟨Nat.le_of_ble_eq_true rfl, Nat.le_of_ble_eq_true rfl⟩ ⟨Nat.le_of_ble_eq_true rfl, Nat.le_of_ble_eq_true rfl⟩ hl (Nat.le_of_ble_eq_true rfl) rfl dX5_lcm_28 (fun H locs B => ?_)
        refine z_ifB_eq (tgt := 36) C dX5_lcm_31 (by decide) (fun h31 => ?_) (fun h31 => ?_)
        · exact absurd h31 (by decide)
        · refine z_iconst C dX5_lcm_34 ?_
          exact zo_iret C B hr hk (Nat.le_of_ble_eq_true rfl) (Nat.le_of_ble_eq_true rfl) dX5_lcm_35 (by exact congrArg (fun z : Int => some (Value.int (iZ z))) (by rfl)) (by rfl) (by rfl)

set_option maxHeartbeats 4000000 in
set_option maxRecDepth 100000 in
theorem c_X5_bezout_bad1 (l : Launch) (D : va_G) (cJ : ClassId) (o a : Nat) (c : Nat → Nat) (th : Int) (ac : Int32) (re : Int32) (kn : Int32) (f : Int) (g : Int) (b : Bool) (z : Int) (r9f : -2147483648 ≤ f ∧ f ≤ 2147483647) (r9g : -2147483648 ≤ g ∧ g ≤ 2147483647) (r9z : -2147483648 ≤ z ∧ z ≤ 2147483647) (hbad : ¬ ((0 ≤ f ∧ f ≤ 5) ∧ (0 ≤ g ∧ g ≤ 5) ∧ (0 ≤ z ∧ z ≤ 5))) : zA l yX5_bezout 2 68 0 0 D 4 cJ o a [.int (iZ (f)), .int (iZ (g)), .int (iZ (zB (b))), .int (iZ (z))] c [.int (iZ (th)), .int (ac), .int (re), .int (kn)] (fun v => v = some (.int (iZ (0)))) (c) [.int (iZ (1)), .int (ac), .int (re), .int (kn)] := by
  refine zA.intro (lo := 44) (nA := 4) (own := RX5) zi_X5_bezout (by decide) rfl rfl (by decide +kernel) rfl (Nat.le_of_ble_eq_true rfl) ?_
  intro p e s m below meth c0 ls C hr hk B hl
  have hl : lv_has ls 5 [(0, .ref o), (1, .int (iZ (f))), (2, .int (iZ (g))), (3, .int (iZ (zB (b)))), (4, .int (iZ (z)))] := hl
  refine lv_aload_n C.1 C.2.1 dX5_bezout_0 rfl (lv_at hl 0 rfl) ?_
  refine lv_iload_n C.1 C.2.1 dX5_bezout_1 rfl (lv_at hl 1 rfl) ?_
  refine z_call C (c_X5_isNo l (f) (by first | assumption | omega | rfl | exact decide_eq_false (by omega) | exact decide_eq_true (by assumption) | exact decide_eq_true (by omega) | exact one_shl33 (by omega) | exact pm_lt _ _ | exact rm_lt (by first | assumption | exact pm_lt _ _) | exact Nat.lt_of_le_of_lt (Nat.shiftRight_le _ _) (by assumption) | exact Nat.lt_of_le_of_lt Nat.and_le_right (by omega))) ml_X5_67 ⟨by decide, by decide⟩ ⟨Nat.le_of_ble_eq_true rfl, Nat.le_of_ble_eq_true rfl⟩ hl (Nat.le_of_ble_eq_true rfl) rfl dX5_bezout_2 ?_
  refine z_ifB_ne (tgt := 23) C dX5_bezout_5 (by decide) (fun h5 => ?_) (fun h5 => ?_)
  · have g5 := of_decide_eq_true h5
    refine z_iconst C dX5_bezout_23 ?_
    refine lv_goto (tgt := 28) C.1 C.2.1 dX5_bezout_24 (by decide) ?_
    refine z_iconst C dX5_bezout_28 ?_
    refine zo_callD C B (r := some (.int (iZ (zB (true))))) (c_X5_start_bad l D cJ o a (c) (th) (ac) (re) (kn) (true) (1 : Int) (by first | assumption | omega | rfl | exact decide_eq_false (by omega) | exact decide_eq_true (by assumption) | exact decide_eq_true (by omega) | exact one_shl33 (by omega) | exact pm_lt _ _ | exact rm_lt (by first | assumption | exact pm_lt _ _) | exact Nat.lt_of_le_of_lt (Nat.shiftRight_le _ _) (by assumption) | exact Nat.lt_of_le_of_lt Nat.and_le_right (by omega)) (by first | assumption | omega | rfl | exact decide_eq_false (by omega) | exact decide_eq_true (by assumption) | exact decide_eq_true (by omega) | exact one_shl33 (by omega) | exact pm_lt _ _ | exact rm_lt (by first | assumption | exact pm_lt _ _) | exact Nat.lt_of_le_of_lt (Nat.shiftRight_le _ _) (by assumption) | exact Nat.lt_of_le_of_lt Nat.and_le_right (by omega))) ml_X5_71 rfl ⟨Nat.le_of_ble_eq_true rfl, Nat.le_of_ble_eq_true rfl⟩ ⟨Nat.le_of_ble_eq_true rfl, Nat.le_of_ble_eq_true rfl⟩ hl (Nat.le_of_ble_eq_true rfl) rfl dX5_bezout_29 (fun H locs B => ?_)
    refine z_ifB_eq (tgt := 39) C dX5_bezout_32 (by decide) (fun h32 => ?_) (fun h32 => ?_)
    · exact absurd h32 (by decide)
    · refine z_iconst C dX5_bezout_35 ?_
      refine lv_goto (tgt := 69) C.1 C.2.1 dX5_bezout_36 (by decide) ?_
      exact zo_iret C B hr hk (Nat.le_of_ble_eq_true rfl) (Nat.le_of_ble_eq_true rfl) dX5_bezout_69 (by exact congrArg (fun z : Int => some (Value.int (iZ z))) (by rfl)) (by rfl) (by rfl)
  · have g5 := of_decide_eq_false h5
    refine lv_iload_n C.1 C.2.1 dX5_bezout_8 rfl (lv_at hl 2 rfl) ?_
    refine z_call C (c_X5_isNo l (g) (by first | assumption | omega | rfl | exact decide_eq_false (by omega) | exact decide_eq_true (by assumption) | exact decide_eq_true (by omega) | exact one_shl33 (by omega) | exact pm_lt _ _ | exact rm_lt (by first | assumption | exact pm_lt _ _) | exact Nat.lt_of_le_of_lt (Nat.shiftRight_le _ _) (by assumption) | exact Nat.lt_of_le_of_lt Nat.and_le_right (by omega))) ml_X5_67 ⟨by decide, by decide⟩ ⟨Nat.le_of_ble_eq_true rfl, Nat.le_of_ble_eq_true rfl⟩ hl (Nat.le_of_ble_eq_true rfl) rfl dX5_bezout_9 ?_
    refine z_ifB_ne (tgt := 23) C dX5_bezout_12 (by decide) (fun h12 => ?_) (fun h12 => ?_)
    · have g12 := of_decide_eq_true h12
      refine z_iconst C dX5_bezout_23 ?_
      refine lv_goto (tgt := 28) C.1 C.2.1 dX5_bezout_24 (by decide) ?_
      refine z_iconst C dX5_bezout_28 ?_
      refine zo_callD C B (r := some (.int (iZ (zB (true))))) (c_X5_start_bad l D cJ o a (c) (th) (ac) (re) (kn) (true) (1 : Int) (by first | assumption | omega | rfl | exact decide_eq_false (by omega) | exact decide_eq_true (by assumption) | exact decide_eq_true (by omega) | exact one_shl33 (by omega) | exact pm_lt _ _ | exact rm_lt (by first | assumption | exact pm_lt _ _) | exact Nat.lt_of_le_of_lt (Nat.shiftRight_le _ _) (by assumption) | exact Nat.lt_of_le_of_lt Nat.and_le_right (by omega)) (by first | assumption | omega | rfl | exact decide_eq_false (by omega) | exact decide_eq_true (by assumption) | exact decide_eq_true (by omega) | exact one_shl33 (by omega) | exact pm_lt _ _ | exact rm_lt (by first | assumption | exact pm_lt _ _) | exact Nat.lt_of_le_of_lt (Nat.shiftRight_le _ _) (by assumption) | exact Nat.lt_of_le_of_lt Nat.and_le_right (by omega))) ml_X5_71 rfl ⟨Nat.le_of_ble_eq_true rfl, Nat.le_of_ble_eq_true rfl⟩ ⟨Nat.le_of_ble_eq_true rfl, Nat.le_of_ble_eq_true rfl⟩ hl (Nat.le_of_ble_eq_true rfl) rfl dX5_bezout_29 (fun H locs B => ?_)
      refine z_ifB_eq (tgt := 39) C dX5_bezout_32 (by decide) (fun h32 => ?_) (fun h32 => ?_)
      · exact absurd h32 (by decide)
      · refine z_iconst C dX5_bezout_35 ?_
        refine lv_goto (tgt := 69) C.1 C.2.1 dX5_bezout_36 (by decide) ?_
        exact zo_iret C B hr hk (Nat.le_of_ble_eq_true rfl) (Nat.le_of_ble_eq_true rfl) dX5_bezout_69 (by exact congrArg (fun z : Int => some (Value.int (iZ z))) (by rfl)) (by rfl) (by rfl)
    · have g12 := of_decide_eq_false h12
      refine lv_iload C.1 C.2.1 dX5_bezout_15 (lv_at hl 4 rfl) ?_
      refine z_call C (c_X5_isNo l (z) (by first | assumption | omega | rfl | exact decide_eq_false (by omega) | exact decide_eq_true (by assumption) | exact decide_eq_true (by omega) | exact one_shl33 (by omega) | exact pm_lt _ _ | exact rm_lt (by first | assumption | exact pm_lt _ _) | exact Nat.lt_of_le_of_lt (Nat.shiftRight_le _ _) (by assumption) | exact Nat.lt_of_le_of_lt Nat.and_le_right (by omega))) ml_X5_67 ⟨by decide, by decide⟩ ⟨Nat.le_of_ble_eq_true rfl, Nat.le_of_ble_eq_true rfl⟩ hl (Nat.le_of_ble_eq_true rfl) rfl dX5_bezout_17 ?_
      refine z_ifB_eq (tgt := 27) C dX5_bezout_20 (by decide) (fun h20 => ?_) (fun h20 => ?_)
      · have g20 := of_decide_eq_false h20
        refine z_iconst C dX5_bezout_27 ?_
        refine z_iconst C dX5_bezout_28 ?_
        exfalso; omega
      · have g20 := of_decide_eq_true h20
        refine z_iconst C dX5_bezout_23 ?_
        refine lv_goto (tgt := 28) C.1 C.2.1 dX5_bezout_24 (by decide) ?_
        refine z_iconst C dX5_bezout_28 ?_
        refine zo_callD C B (r := some (.int (iZ (zB (true))))) (c_X5_start_bad l D cJ o a (c) (th) (ac) (re) (kn) (true) (1 : Int) (by first | assumption | omega | rfl | exact decide_eq_false (by omega) | exact decide_eq_true (by assumption) | exact decide_eq_true (by omega) | exact one_shl33 (by omega) | exact pm_lt _ _ | exact rm_lt (by first | assumption | exact pm_lt _ _) | exact Nat.lt_of_le_of_lt (Nat.shiftRight_le _ _) (by assumption) | exact Nat.lt_of_le_of_lt Nat.and_le_right (by omega)) (by first | assumption | omega | rfl | exact decide_eq_false (by omega) | exact decide_eq_true (by assumption) | exact decide_eq_true (by omega) | exact one_shl33 (by omega) | exact pm_lt _ _ | exact rm_lt (by first | assumption | exact pm_lt _ _) | exact Nat.lt_of_le_of_lt (Nat.shiftRight_le _ _) (by assumption) | exact Nat.lt_of_le_of_lt Nat.and_le_right (by omega))) ml_X5_71 rfl ⟨Nat.le_of_ble_eq_true rfl, Nat.le_of_ble_eq_true rfl⟩ ⟨Nat.le_of_ble_eq_true rfl, Nat.le_of_ble_eq_true rfl⟩ hl (Nat.le_of_ble_eq_true rfl) rfl dX5_bezout_29 (fun H locs B => ?_)
        refine z_ifB_eq (tgt := 39) C dX5_bezout_32 (by decide) (fun h32 => ?_) (fun h32 => ?_)
        · exact absurd h32 (by decide)
        · refine z_iconst C dX5_bezout_35 ?_
          refine lv_goto (tgt := 69) C.1 C.2.1 dX5_bezout_36 (by decide) ?_
          exact zo_iret C B hr hk (Nat.le_of_ble_eq_true rfl) (Nat.le_of_ble_eq_true rfl) dX5_bezout_69 (by exact congrArg (fun z : Int => some (Value.int (iZ z))) (by rfl)) (by rfl) (by rfl)

set_option maxHeartbeats 4000000 in
set_option maxRecDepth 100000 in
theorem c_X5_derive_bad1 (l : Launch) (D : va_G) (cJ : ClassId) (o a : Nat) (c : Nat → Nat) (th : Int) (ac : Int32) (re : Int32) (kn : Int32) (f : Int) (z : Int) (r9f : -2147483648 ≤ f ∧ f ≤ 2147483647) (r9z : -2147483648 ≤ z ∧ z ≤ 2147483647) (hbad : ¬ ((0 ≤ f ∧ f ≤ 5) ∧ (0 ≤ z ∧ z ≤ 5))) : zA l yX5_derive 2 66 0 0 D 4 cJ o a [.int (iZ (f)), .int (iZ (z))] c [.int (iZ (th)), .int (ac), .int (re), .int (kn)] (fun v => v = some (.int (iZ (0)))) (c) [.int (iZ (1)), .int (ac), .int (re), .int (kn)] := by
  refine zA.intro (lo := 44) (nA := 2) (own := RX5) zi_X5_derive (by decide) rfl rfl (by decide +kernel) rfl (Nat.le_of_ble_eq_true rfl) ?_
  intro p e s m below meth c0 ls C hr hk B hl
  have hl : lv_has ls 3 [(0, .ref o), (1, .int (iZ (f))), (2, .int (iZ (z)))] := hl
  refine lv_aload_n C.1 C.2.1 dX5_derive_0 rfl (lv_at hl 0 rfl) ?_
  refine lv_iload_n C.1 C.2.1 dX5_derive_1 rfl (lv_at hl 1 rfl) ?_
  refine z_call C (c_X5_isNo l (f) (by first | assumption | omega | rfl | exact decide_eq_false (by omega) | exact decide_eq_true (by assumption) | exact decide_eq_true (by omega) | exact one_shl33 (by omega) | exact pm_lt _ _ | exact rm_lt (by first | assumption | exact pm_lt _ _) | exact Nat.lt_of_le_of_lt (Nat.shiftRight_le _ _) (by assumption) | exact Nat.lt_of_le_of_lt Nat.and_le_right (by omega))) ml_X5_67 ⟨by decide, by decide⟩ ⟨Nat.le_of_ble_eq_true rfl, Nat.le_of_ble_eq_true rfl⟩ hl (Nat.le_of_ble_eq_true rfl) rfl dX5_derive_2 ?_
  refine z_ifB_ne (tgt := 15) C dX5_derive_5 (by decide) (fun h5 => ?_) (fun h5 => ?_)
  · have g5 := of_decide_eq_true h5
    refine z_iconst C dX5_derive_15 ?_
    refine lv_goto (tgt := 20) C.1 C.2.1 dX5_derive_16 (by decide) ?_
    refine z_iconst C dX5_derive_20 ?_
    refine zo_callD C B (r := some (.int (iZ (zB (true))))) (c_X5_start_bad l D cJ o a (c) (th) (ac) (re) (kn) (true) (1 : Int) (by first | assumption | omega | rfl | exact decide_eq_false (by omega) | exact decide_eq_true (by assumption) | exact decide_eq_true (by omega) | exact one_shl33 (by omega) | exact pm_lt _ _ | exact rm_lt (by first | assumption | exact pm_lt _ _) | exact Nat.lt_of_le_of_lt (Nat.shiftRight_le _ _) (by assumption) | exact Nat.lt_of_le_of_lt Nat.and_le_right (by omega)) (by first | assumption | omega | rfl | exact decide_eq_false (by omega) | exact decide_eq_true (by assumption) | exact decide_eq_true (by omega) | exact one_shl33 (by omega) | exact pm_lt _ _ | exact rm_lt (by first | assumption | exact pm_lt _ _) | exact Nat.lt_of_le_of_lt (Nat.shiftRight_le _ _) (by assumption) | exact Nat.lt_of_le_of_lt Nat.and_le_right (by omega))) ml_X5_71 rfl ⟨Nat.le_of_ble_eq_true rfl, Nat.le_of_ble_eq_true rfl⟩ ⟨Nat.le_of_ble_eq_true rfl, Nat.le_of_ble_eq_true rfl⟩ hl (Nat.le_of_ble_eq_true rfl) rfl dX5_derive_21 (fun H locs B => ?_)
    refine z_ifB_eq (tgt := 31) C dX5_derive_24 (by decide) (fun h24 => ?_) (fun h24 => ?_)
    · exact absurd h24 (by decide)
    · refine z_iconst C dX5_derive_27 ?_
      refine lv_goto (tgt := 45) C.1 C.2.1 dX5_derive_28 (by decide) ?_
      exact zo_iret C B hr hk (Nat.le_of_ble_eq_true rfl) (Nat.le_of_ble_eq_true rfl) dX5_derive_45 (by exact congrArg (fun z : Int => some (Value.int (iZ z))) (by rfl)) (by rfl) (by rfl)
  · have g5 := of_decide_eq_false h5
    refine lv_iload_n C.1 C.2.1 dX5_derive_8 rfl (lv_at hl 2 rfl) ?_
    refine z_call C (c_X5_isNo l (z) (by first | assumption | omega | rfl | exact decide_eq_false (by omega) | exact decide_eq_true (by assumption) | exact decide_eq_true (by omega) | exact one_shl33 (by omega) | exact pm_lt _ _ | exact rm_lt (by first | assumption | exact pm_lt _ _) | exact Nat.lt_of_le_of_lt (Nat.shiftRight_le _ _) (by assumption) | exact Nat.lt_of_le_of_lt Nat.and_le_right (by omega))) ml_X5_67 ⟨by decide, by decide⟩ ⟨Nat.le_of_ble_eq_true rfl, Nat.le_of_ble_eq_true rfl⟩ hl (Nat.le_of_ble_eq_true rfl) rfl dX5_derive_9 ?_
    refine z_ifB_eq (tgt := 19) C dX5_derive_12 (by decide) (fun h12 => ?_) (fun h12 => ?_)
    · have g12 := of_decide_eq_false h12
      refine z_iconst C dX5_derive_19 ?_
      refine z_iconst C dX5_derive_20 ?_
      exfalso; omega
    · have g12 := of_decide_eq_true h12
      refine z_iconst C dX5_derive_15 ?_
      refine lv_goto (tgt := 20) C.1 C.2.1 dX5_derive_16 (by decide) ?_
      refine z_iconst C dX5_derive_20 ?_
      refine zo_callD C B (r := some (.int (iZ (zB (true))))) (c_X5_start_bad l D cJ o a (c) (th) (ac) (re) (kn) (true) (1 : Int) (by first | assumption | omega | rfl | exact decide_eq_false (by omega) | exact decide_eq_true (by assumption) | exact decide_eq_true (by omega) | exact one_shl33 (by omega) | exact pm_lt _ _ | exact rm_lt (by first | assumption | exact pm_lt _ _) | exact Nat.lt_of_le_of_lt (Nat.shiftRight_le _ _) (by assumption) | exact Nat.lt_of_le_of_lt Nat.and_le_right (by omega)) (by first | assumption | omega | rfl | exact decide_eq_false (by omega) | exact decide_eq_true (by assumption) | exact decide_eq_true (by omega) | exact one_shl33 (by omega) | exact pm_lt _ _ | exact rm_lt (by first | assumption | exact pm_lt _ _) | exact Nat.lt_of_le_of_lt (Nat.shiftRight_le _ _) (by assumption) | exact Nat.lt_of_le_of_lt Nat.and_le_right (by omega))) ml_X5_71 rfl ⟨Nat.le_of_ble_eq_true rfl, Nat.le_of_ble_eq_true rfl⟩ ⟨Nat.le_of_ble_eq_true rfl, Nat.le_of_ble_eq_true rfl⟩ hl (Nat.le_of_ble_eq_true rfl) rfl dX5_derive_21 (fun H locs B => ?_)
      refine z_ifB_eq (tgt := 31) C dX5_derive_24 (by decide) (fun h24 => ?_) (fun h24 => ?_)
      · exact absurd h24 (by decide)
      · refine z_iconst C dX5_derive_27 ?_
        refine lv_goto (tgt := 45) C.1 C.2.1 dX5_derive_28 (by decide) ?_
        exact zo_iret C B hr hk (Nat.le_of_ble_eq_true rfl) (Nat.le_of_ble_eq_true rfl) dX5_derive_45 (by exact congrArg (fun z : Int => some (Value.int (iZ z))) (by rfl)) (by rfl) (by rfl)

set_option maxHeartbeats 4000000 in
set_option maxRecDepth 100000 in
theorem c_X5_root_bad1 (l : Launch) (D : va_G) (cJ : ClassId) (o a : Nat) (c : Nat → Nat) (th : Int) (ac : Int32) (re : Int32) (kn : Int32) (f : Int) (z : Int) (r9f : -2147483648 ≤ f ∧ f ≤ 2147483647) (r9z : -2147483648 ≤ z ∧ z ≤ 2147483647) (hbad : ¬ ((0 ≤ f ∧ f ≤ 5) ∧ (0 ≤ z ∧ z ≤ 5))) : zA l yX5_root 2 66 0 0 D 4 cJ o a [.int (iZ (f)), .int (iZ (z))] c [.int (iZ (th)), .int (ac), .int (re), .int (kn)] (fun v => v = some (.int (iZ (0)))) (c) [.int (iZ (1)), .int (ac), .int (re), .int (kn)] := by
  refine zA.intro (lo := 44) (nA := 2) (own := RX5) zi_X5_root (by decide) rfl rfl (by decide +kernel) rfl (Nat.le_of_ble_eq_true rfl) ?_
  intro p e s m below meth c0 ls C hr hk B hl
  have hl : lv_has ls 3 [(0, .ref o), (1, .int (iZ (f))), (2, .int (iZ (z)))] := hl
  refine lv_aload_n C.1 C.2.1 dX5_root_0 rfl (lv_at hl 0 rfl) ?_
  refine lv_iload_n C.1 C.2.1 dX5_root_1 rfl (lv_at hl 1 rfl) ?_
  refine z_call C (c_X5_isNo l (f) (by first | assumption | omega | rfl | exact decide_eq_false (by omega) | exact decide_eq_true (by assumption) | exact decide_eq_true (by omega) | exact one_shl33 (by omega) | exact pm_lt _ _ | exact rm_lt (by first | assumption | exact pm_lt _ _) | exact Nat.lt_of_le_of_lt (Nat.shiftRight_le _ _) (by assumption) | exact Nat.lt_of_le_of_lt Nat.and_le_right (by omega))) ml_X5_67 ⟨by decide, by decide⟩ ⟨Nat.le_of_ble_eq_true rfl, Nat.le_of_ble_eq_true rfl⟩ hl (Nat.le_of_ble_eq_true rfl) rfl dX5_root_2 ?_
  refine z_ifB_ne (tgt := 15) C dX5_root_5 (by decide) (fun h5 => ?_) (fun h5 => ?_)
  · have g5 := of_decide_eq_true h5
    refine z_iconst C dX5_root_15 ?_
    refine lv_goto (tgt := 20) C.1 C.2.1 dX5_root_16 (by decide) ?_
    refine z_iconst C dX5_root_20 ?_
    refine zo_callD C B (r := some (.int (iZ (zB (true))))) (c_X5_start_bad l D cJ o a (c) (th) (ac) (re) (kn) (true) (1 : Int) (by first | assumption | omega | rfl | exact decide_eq_false (by omega) | exact decide_eq_true (by assumption) | exact decide_eq_true (by omega) | exact one_shl33 (by omega) | exact pm_lt _ _ | exact rm_lt (by first | assumption | exact pm_lt _ _) | exact Nat.lt_of_le_of_lt (Nat.shiftRight_le _ _) (by assumption) | exact Nat.lt_of_le_of_lt Nat.and_le_right (by omega)) (by first | assumption | omega | rfl | exact decide_eq_false (by omega) | exact decide_eq_true (by assumption) | exact decide_eq_true (by omega) | exact one_shl33 (by omega) | exact pm_lt _ _ | exact rm_lt (by first | assumption | exact pm_lt _ _) | exact Nat.lt_of_le_of_lt (Nat.shiftRight_le _ _) (by assumption) | exact Nat.lt_of_le_of_lt Nat.and_le_right (by omega))) ml_X5_71 rfl ⟨Nat.le_of_ble_eq_true rfl, Nat.le_of_ble_eq_true rfl⟩ ⟨Nat.le_of_ble_eq_true rfl, Nat.le_of_ble_eq_true rfl⟩ hl (Nat.le_of_ble_eq_true rfl) rfl dX5_root_21 (fun H locs B => ?_)
    refine z_ifB_eq (tgt := 31) C dX5_root_24 (by decide) (fun h24 => ?_) (fun h24 => ?_)
    · exact absurd h24 (by decide)
    · refine z_iconst C dX5_root_27 ?_
      refine lv_goto (tgt := 64) C.1 C.2.1 dX5_root_28 (by decide) ?_
      exact zo_iret C B hr hk (Nat.le_of_ble_eq_true rfl) (Nat.le_of_ble_eq_true rfl) dX5_root_64 (by exact congrArg (fun z : Int => some (Value.int (iZ z))) (by rfl)) (by rfl) (by rfl)
  · have g5 := of_decide_eq_false h5
    refine lv_iload_n C.1 C.2.1 dX5_root_8 rfl (lv_at hl 2 rfl) ?_
    refine z_call C (c_X5_isNo l (z) (by first | assumption | omega | rfl | exact decide_eq_false (by omega) | exact decide_eq_true (by assumption) | exact decide_eq_true (by omega) | exact one_shl33 (by omega) | exact pm_lt _ _ | exact rm_lt (by first | assumption | exact pm_lt _ _) | exact Nat.lt_of_le_of_lt (Nat.shiftRight_le _ _) (by assumption) | exact Nat.lt_of_le_of_lt Nat.and_le_right (by omega))) ml_X5_67 ⟨by decide, by decide⟩ ⟨Nat.le_of_ble_eq_true rfl, Nat.le_of_ble_eq_true rfl⟩ hl (Nat.le_of_ble_eq_true rfl) rfl dX5_root_9 ?_
    refine z_ifB_eq (tgt := 19) C dX5_root_12 (by decide) (fun h12 => ?_) (fun h12 => ?_)
    · have g12 := of_decide_eq_false h12
      refine z_iconst C dX5_root_19 ?_
      refine z_iconst C dX5_root_20 ?_
      exfalso; omega
    · have g12 := of_decide_eq_true h12
      refine z_iconst C dX5_root_15 ?_
      refine lv_goto (tgt := 20) C.1 C.2.1 dX5_root_16 (by decide) ?_
      refine z_iconst C dX5_root_20 ?_
      refine zo_callD C B (r := some (.int (iZ (zB (true))))) (c_X5_start_bad l D cJ o a (c) (th) (ac) (re) (kn) (true) (1 : Int) (by first | assumption | omega | rfl | exact decide_eq_false (by omega) | exact decide_eq_true (by assumption) | exact decide_eq_true (by omega) | exact one_shl33 (by omega) | exact pm_lt _ _ | exact rm_lt (by first | assumption | exact pm_lt _ _) | exact Nat.lt_of_le_of_lt (Nat.shiftRight_le _ _) (by assumption) | exact Nat.lt_of_le_of_lt Nat.and_le_right (by omega)) (by first | assumption | omega | rfl | exact decide_eq_false (by omega) | exact decide_eq_true (by assumption) | exact decide_eq_true (by omega) | exact one_shl33 (by omega) | exact pm_lt _ _ | exact rm_lt (by first | assumption | exact pm_lt _ _) | exact Nat.lt_of_le_of_lt (Nat.shiftRight_le _ _) (by assumption) | exact Nat.lt_of_le_of_lt Nat.and_le_right (by omega))) ml_X5_71 rfl ⟨Nat.le_of_ble_eq_true rfl, Nat.le_of_ble_eq_true rfl⟩ ⟨Nat.le_of_ble_eq_true rfl, Nat.le_of_ble_eq_true rfl⟩ hl (Nat.le_of_ble_eq_true rfl) rfl dX5_root_21 (fun H locs B => ?_)
      refine z_ifB_eq (tgt := 31) C dX5_root_24 (by decide) (fun h24 => ?_) (fun h24 => ?_)
      · exact absurd h24 (by decide)
      · refine z_iconst C dX5_root_27 ?_
        refine lv_goto (tgt := 64) C.1 C.2.1 dX5_root_28 (by decide) ?_
        exact zo_iret C B hr hk (Nat.le_of_ble_eq_true rfl) (Nat.le_of_ble_eq_true rfl) dX5_root_64 (by exact congrArg (fun z : Int => some (Value.int (iZ z))) (by rfl)) (by rfl) (by rfl)

set_option maxHeartbeats 4000000 in
set_option maxRecDepth 100000 in
theorem c_X5_turn_bad1 (l : Launch) (D : va_G) (cJ : ClassId) (o a : Nat) (c : Nat → Nat) (th : Int) (ac : Int32) (re : Int32) (kn : Int32) (f : Int) (z : Int) (r9f : -2147483648 ≤ f ∧ f ≤ 2147483647) (r9z : -2147483648 ≤ z ∧ z ≤ 2147483647) (hbad : ¬ ((0 ≤ f ∧ f ≤ 5) ∧ (0 ≤ z ∧ z ≤ 5))) : zA l yX5_turn 2 70 0 0 D 4 cJ o a [.int (iZ (f)), .int (iZ (z))] c [.int (iZ (th)), .int (ac), .int (re), .int (kn)] (fun v => v = some (.int (iZ (0)))) (c) [.int (iZ (1)), .int (ac), .int (re), .int (kn)] := by
  refine zA.intro (lo := 44) (nA := 2) (own := RX5) zi_X5_turn (by decide) rfl rfl (by decide +kernel) rfl (Nat.le_of_ble_eq_true rfl) ?_
  intro p e s m below meth c0 ls C hr hk B hl
  have hl : lv_has ls 7 [(0, .ref o), (1, .int (iZ (f))), (2, .int (iZ (z)))] := hl
  refine lv_aload_n C.1 C.2.1 dX5_turn_0 rfl (lv_at hl 0 rfl) ?_
  refine lv_iload_n C.1 C.2.1 dX5_turn_1 rfl (lv_at hl 1 rfl) ?_
  refine z_call C (c_X5_isNo l (f) (by first | assumption | omega | rfl | exact decide_eq_false (by omega) | exact decide_eq_true (by assumption) | exact decide_eq_true (by omega) | exact one_shl33 (by omega) | exact pm_lt _ _ | exact rm_lt (by first | assumption | exact pm_lt _ _) | exact Nat.lt_of_le_of_lt (Nat.shiftRight_le _ _) (by assumption) | exact Nat.lt_of_le_of_lt Nat.and_le_right (by omega))) ml_X5_67 ⟨by decide, by decide⟩ ⟨Nat.le_of_ble_eq_true rfl, Nat.le_of_ble_eq_true rfl⟩ hl (Nat.le_of_ble_eq_true rfl) rfl dX5_turn_2 ?_
  refine z_ifB_ne (tgt := 15) C dX5_turn_5 (by decide) (fun h5 => ?_) (fun h5 => ?_)
  · have g5 := of_decide_eq_true h5
    refine z_iconst C dX5_turn_15 ?_
    refine lv_goto (tgt := 20) C.1 C.2.1 dX5_turn_16 (by decide) ?_
    refine z_iconst C dX5_turn_20 ?_
    refine zo_callD C B (r := some (.int (iZ (zB (true))))) (c_X5_start_bad l D cJ o a (c) (th) (ac) (re) (kn) (true) (1 : Int) (by first | assumption | omega | rfl | exact decide_eq_false (by omega) | exact decide_eq_true (by assumption) | exact decide_eq_true (by omega) | exact one_shl33 (by omega) | exact pm_lt _ _ | exact rm_lt (by first | assumption | exact pm_lt _ _) | exact Nat.lt_of_le_of_lt (Nat.shiftRight_le _ _) (by assumption) | exact Nat.lt_of_le_of_lt Nat.and_le_right (by omega)) (by first | assumption | omega | rfl | exact decide_eq_false (by omega) | exact decide_eq_true (by assumption) | exact decide_eq_true (by omega) | exact one_shl33 (by omega) | exact pm_lt _ _ | exact rm_lt (by first | assumption | exact pm_lt _ _) | exact Nat.lt_of_le_of_lt (Nat.shiftRight_le _ _) (by assumption) | exact Nat.lt_of_le_of_lt Nat.and_le_right (by omega))) ml_X5_71 rfl ⟨Nat.le_of_ble_eq_true rfl, Nat.le_of_ble_eq_true rfl⟩ ⟨Nat.le_of_ble_eq_true rfl, Nat.le_of_ble_eq_true rfl⟩ hl (Nat.le_of_ble_eq_true rfl) rfl dX5_turn_21 (fun H locs B => ?_)
    refine z_ifB_eq (tgt := 29) C dX5_turn_24 (by decide) (fun h24 => ?_) (fun h24 => ?_)
    · exact absurd h24 (by decide)
    · refine z_iconst C dX5_turn_27 ?_
      exact zo_iret C B hr hk (Nat.le_of_ble_eq_true rfl) (Nat.le_of_ble_eq_true rfl) dX5_turn_28 (by exact congrArg (fun z : Int => some (Value.int (iZ z))) (by rfl)) (by rfl) (by rfl)
  · have g5 := of_decide_eq_false h5
    refine lv_iload_n C.1 C.2.1 dX5_turn_8 rfl (lv_at hl 2 rfl) ?_
    refine z_call C (c_X5_isNo l (z) (by first | assumption | omega | rfl | exact decide_eq_false (by omega) | exact decide_eq_true (by assumption) | exact decide_eq_true (by omega) | exact one_shl33 (by omega) | exact pm_lt _ _ | exact rm_lt (by first | assumption | exact pm_lt _ _) | exact Nat.lt_of_le_of_lt (Nat.shiftRight_le _ _) (by assumption) | exact Nat.lt_of_le_of_lt Nat.and_le_right (by omega))) ml_X5_67 ⟨by decide, by decide⟩ ⟨Nat.le_of_ble_eq_true rfl, Nat.le_of_ble_eq_true rfl⟩ hl (Nat.le_of_ble_eq_true rfl) rfl dX5_turn_9 ?_
    refine z_ifB_eq (tgt := 19) C dX5_turn_12 (by decide) (fun h12 => ?_) (fun h12 => ?_)
    · have g12 := of_decide_eq_false h12
      refine z_iconst C dX5_turn_19 ?_
      refine z_iconst C dX5_turn_20 ?_
      exfalso; omega
    · have g12 := of_decide_eq_true h12
      refine z_iconst C dX5_turn_15 ?_
      refine lv_goto (tgt := 20) C.1 C.2.1 dX5_turn_16 (by decide) ?_
      refine z_iconst C dX5_turn_20 ?_
      refine zo_callD C B (r := some (.int (iZ (zB (true))))) (c_X5_start_bad l D cJ o a (c) (th) (ac) (re) (kn) (true) (1 : Int) (by first | assumption | omega | rfl | exact decide_eq_false (by omega) | exact decide_eq_true (by assumption) | exact decide_eq_true (by omega) | exact one_shl33 (by omega) | exact pm_lt _ _ | exact rm_lt (by first | assumption | exact pm_lt _ _) | exact Nat.lt_of_le_of_lt (Nat.shiftRight_le _ _) (by assumption) | exact Nat.lt_of_le_of_lt Nat.and_le_right (by omega)) (by first | assumption | omega | rfl | exact decide_eq_false (by omega) | exact decide_eq_true (by assumption) | exact decide_eq_true (by omega) | exact one_shl33 (by omega) | exact pm_lt _ _ | exact rm_lt (by first | assumption | exact pm_lt _ _) | exact Nat.lt_of_le_of_lt (Nat.shiftRight_le _ _) (by assumption) | exact Nat.lt_of_le_of_lt Nat.and_le_right (by omega))) ml_X5_71 rfl ⟨Nat.le_of_ble_eq_true rfl, Nat.le_of_ble_eq_true rfl⟩ ⟨Nat.le_of_ble_eq_true rfl, Nat.le_of_ble_eq_true rfl⟩ hl (Nat.le_of_ble_eq_true rfl) rfl dX5_turn_21 (fun H locs B => ?_)
      refine z_ifB_eq (tgt := 29) C dX5_turn_24 (by decide) (fun h24 => ?_) (fun h24 => ?_)
      · exact absurd h24 (by decide)
      · refine z_iconst C dX5_turn_27 ?_
        exact zo_iret C B hr hk (Nat.le_of_ble_eq_true rfl) (Nat.le_of_ble_eq_true rfl) dX5_turn_28 (by exact congrArg (fun z : Int => some (Value.int (iZ z))) (by rfl)) (by rfl) (by rfl)

set_option maxHeartbeats 4000000 in
set_option maxRecDepth 100000 in
theorem c_X5_move_bad1 (l : Launch) (D : va_G) (cJ : ClassId) (o a : Nat) (c : Nat → Nat) (th : Int) (ac : Int32) (re : Int32) (kn : Int32) (f : Int) (z : Int) (r9f : -2147483648 ≤ f ∧ f ≤ 2147483647) (r9z : -2147483648 ≤ z ∧ z ≤ 2147483647) (hbad : ¬ ((0 ≤ f ∧ f ≤ 5) ∧ (0 ≤ z ∧ z ≤ 5))) : zA l yX5_move 2 69 0 0 D 4 cJ o a [.int (iZ (f)), .int (iZ (z))] c [.int (iZ (th)), .int (ac), .int (re), .int (kn)] (fun v => v = some (.int (iZ (0)))) (c) [.int (iZ (1)), .int (ac), .int (re), .int (kn)] := by
  refine zA.intro (lo := 44) (nA := 2) (own := RX5) zi_X5_move (by decide) rfl rfl (by decide +kernel) rfl (Nat.le_of_ble_eq_true rfl) ?_
  intro p e s m below meth c0 ls C hr hk B hl
  have hl : lv_has ls 6 [(0, .ref o), (1, .int (iZ (f))), (2, .int (iZ (z)))] := hl
  refine lv_aload_n C.1 C.2.1 dX5_move_0 rfl (lv_at hl 0 rfl) ?_
  refine lv_iload_n C.1 C.2.1 dX5_move_1 rfl (lv_at hl 1 rfl) ?_
  refine z_call C (c_X5_isNo l (f) (by first | assumption | omega | rfl | exact decide_eq_false (by omega) | exact decide_eq_true (by assumption) | exact decide_eq_true (by omega) | exact one_shl33 (by omega) | exact pm_lt _ _ | exact rm_lt (by first | assumption | exact pm_lt _ _) | exact Nat.lt_of_le_of_lt (Nat.shiftRight_le _ _) (by assumption) | exact Nat.lt_of_le_of_lt Nat.and_le_right (by omega))) ml_X5_67 ⟨by decide, by decide⟩ ⟨Nat.le_of_ble_eq_true rfl, Nat.le_of_ble_eq_true rfl⟩ hl (Nat.le_of_ble_eq_true rfl) rfl dX5_move_2 ?_
  refine z_ifB_ne (tgt := 15) C dX5_move_5 (by decide) (fun h5 => ?_) (fun h5 => ?_)
  · have g5 := of_decide_eq_true h5
    refine z_iconst C dX5_move_15 ?_
    refine lv_goto (tgt := 20) C.1 C.2.1 dX5_move_16 (by decide) ?_
    refine z_iconst C dX5_move_20 ?_
    refine zo_callD C B (r := some (.int (iZ (zB (true))))) (c_X5_start_bad l D cJ o a (c) (th) (ac) (re) (kn) (true) (1 : Int) (by first | assumption | omega | rfl | exact decide_eq_false (by omega) | exact decide_eq_true (by assumption) | exact decide_eq_true (by omega) | exact one_shl33 (by omega) | exact pm_lt _ _ | exact rm_lt (by first | assumption | exact pm_lt _ _) | exact Nat.lt_of_le_of_lt (Nat.shiftRight_le _ _) (by assumption) | exact Nat.lt_of_le_of_lt Nat.and_le_right (by omega)) (by first | assumption | omega | rfl | exact decide_eq_false (by omega) | exact decide_eq_true (by assumption) | exact decide_eq_true (by omega) | exact one_shl33 (by omega) | exact pm_lt _ _ | exact rm_lt (by first | assumption | exact pm_lt _ _) | exact Nat.lt_of_le_of_lt (Nat.shiftRight_le _ _) (by assumption) | exact Nat.lt_of_le_of_lt Nat.and_le_right (by omega))) ml_X5_71 rfl ⟨Nat.le_of_ble_eq_true rfl, Nat.le_of_ble_eq_true rfl⟩ ⟨Nat.le_of_ble_eq_true rfl, Nat.le_of_ble_eq_true rfl⟩ hl (Nat.le_of_ble_eq_true rfl) rfl dX5_move_21 (fun H locs B => ?_)
    refine z_ifB_eq (tgt := 29) C dX5_move_24 (by decide) (fun h24 => ?_) (fun h24 => ?_)
    · exact absurd h24 (by decide)
    · refine z_iconst C dX5_move_27 ?_
      exact zo_iret C B hr hk (Nat.le_of_ble_eq_true rfl) (Nat.le_of_ble_eq_true rfl) dX5_move_28 (by exact congrArg (fun z : Int => some (Value.int (iZ z))) (by rfl)) (by rfl) (by rfl)
  · have g5 := of_decide_eq_false h5
    refine lv_iload_n C.1 C.2.1 dX5_move_8 rfl (lv_at hl 2 rfl) ?_
    refine z_call C (c_X5_isNo l (z) (by first | assumption | omega | rfl | exact decide_eq_false (by omega) | exact decide_eq_true (by assumption) | exact decide_eq_true (by omega) | exact one_shl33 (by omega) | exact pm_lt _ _ | exact rm_lt (by first | assumption | exact pm_lt _ _) | exact Nat.lt_of_le_of_lt (Nat.shiftRight_le _ _) (by assumption) | exact Nat.lt_of_le_of_lt Nat.and_le_right (by omega))) ml_X5_67 ⟨by decide, by decide⟩ ⟨Nat.le_of_ble_eq_true rfl, Nat.le_of_ble_eq_true rfl⟩ hl (Nat.le_of_ble_eq_true rfl) rfl dX5_move_9 ?_
    refine z_ifB_eq (tgt := 19) C dX5_move_12 (by decide) (fun h12 => ?_) (fun h12 => ?_)
    · have g12 := of_decide_eq_false h12
      refine z_iconst C dX5_move_19 ?_
      refine z_iconst C dX5_move_20 ?_
      exfalso; omega
    · have g12 := of_decide_eq_true h12
      refine z_iconst C dX5_move_15 ?_
      refine lv_goto (tgt := 20) C.1 C.2.1 dX5_move_16 (by decide) ?_
      refine z_iconst C dX5_move_20 ?_
      refine zo_callD C B (r := some (.int (iZ (zB (true))))) (c_X5_start_bad l D cJ o a (c) (th) (ac) (re) (kn) (true) (1 : Int) (by first | assumption | omega | rfl | exact decide_eq_false (by omega) | exact decide_eq_true (by assumption) | exact decide_eq_true (by omega) | exact one_shl33 (by omega) | exact pm_lt _ _ | exact rm_lt (by first | assumption | exact pm_lt _ _) | exact Nat.lt_of_le_of_lt (Nat.shiftRight_le _ _) (by assumption) | exact Nat.lt_of_le_of_lt Nat.and_le_right (by omega)) (by first | assumption | omega | rfl | exact decide_eq_false (by omega) | exact decide_eq_true (by assumption) | exact decide_eq_true (by omega) | exact one_shl33 (by omega) | exact pm_lt _ _ | exact rm_lt (by first | assumption | exact pm_lt _ _) | exact Nat.lt_of_le_of_lt (Nat.shiftRight_le _ _) (by assumption) | exact Nat.lt_of_le_of_lt Nat.and_le_right (by omega))) ml_X5_71 rfl ⟨Nat.le_of_ble_eq_true rfl, Nat.le_of_ble_eq_true rfl⟩ ⟨Nat.le_of_ble_eq_true rfl, Nat.le_of_ble_eq_true rfl⟩ hl (Nat.le_of_ble_eq_true rfl) rfl dX5_move_21 (fun H locs B => ?_)
      refine z_ifB_eq (tgt := 29) C dX5_move_24 (by decide) (fun h24 => ?_) (fun h24 => ?_)
      · exact absurd h24 (by decide)
      · refine z_iconst C dX5_move_27 ?_
        exact zo_iret C B hr hk (Nat.le_of_ble_eq_true rfl) (Nat.le_of_ble_eq_true rfl) dX5_move_28 (by exact congrArg (fun z : Int => some (Value.int (iZ z))) (by rfl)) (by rfl) (by rfl)

set_option maxHeartbeats 4000000 in
set_option maxRecDepth 100000 in
theorem c_X5_power_bad1 (l : Launch) (D : va_G) (cJ : ClassId) (o a : Nat) (c : Nat → Nat) (th : Int) (ac : Int32) (re : Int32) (kn : Int32) (f : Int) (t : Int) (g : Int) (z : Int) (r9f : -2147483648 ≤ f ∧ f ≤ 2147483647) (r9t : -2147483648 ≤ t ∧ t ≤ 2147483647) (r9g : -2147483648 ≤ g ∧ g ≤ 2147483647) (r9z : -2147483648 ≤ z ∧ z ≤ 2147483647) (hbad : ¬ ((0 ≤ f ∧ f ≤ 5) ∧ (0 ≤ g ∧ g ≤ 5) ∧ (0 ≤ z ∧ z ≤ 5))) : zA l yX5_power 2 73 0 0 D 4 cJ o a [.int (iZ (f)), .int (iZ (t)), .int (iZ (g)), .int (iZ (z))] c [.int (iZ (th)), .int (ac), .int (re), .int (kn)] (fun v => v = some (.int (iZ (0)))) (c) [.int (iZ (1)), .int (ac), .int (re), .int (kn)] := by
  refine zA.intro (lo := 44) (nA := 4) (own := RX5) zi_X5_power (by decide) rfl rfl (by decide +kernel) rfl (Nat.le_of_ble_eq_true rfl) ?_
  intro p e s m below meth c0 ls C hr hk B hl
  have hl : lv_has ls 10 [(0, .ref o), (1, .int (iZ (f))), (2, .int (iZ (t))), (3, .int (iZ (g))), (4, .int (iZ (z)))] := hl
  refine lv_aload_n C.1 C.2.1 dX5_power_0 rfl (lv_at hl 0 rfl) ?_
  refine lv_iload_n C.1 C.2.1 dX5_power_1 rfl (lv_at hl 1 rfl) ?_
  refine z_call C (c_X5_isNo l (f) (by first | assumption | omega | rfl | exact decide_eq_false (by omega) | exact decide_eq_true (by assumption) | exact decide_eq_true (by omega) | exact one_shl33 (by omega) | exact pm_lt _ _ | exact rm_lt (by first | assumption | exact pm_lt _ _) | exact Nat.lt_of_le_of_lt (Nat.shiftRight_le _ _) (by assumption) | exact Nat.lt_of_le_of_lt Nat.and_le_right (by omega))) ml_X5_67 ⟨by decide, by decide⟩ ⟨Nat.le_of_ble_eq_true rfl, Nat.le_of_ble_eq_true rfl⟩ hl (Nat.le_of_ble_eq_true rfl) rfl dX5_power_2 ?_
  refine z_ifB_ne (tgt := 23) C dX5_power_5 (by decide) (fun h5 => ?_) (fun h5 => ?_)
  · have g5 := of_decide_eq_true h5
    refine z_iconst C dX5_power_23 ?_
    refine lv_goto (tgt := 28) C.1 C.2.1 dX5_power_24 (by decide) ?_
    refine z_iconst C dX5_power_28 ?_
    refine zo_callD C B (r := some (.int (iZ (zB (true))))) (c_X5_start_bad l D cJ o a (c) (th) (ac) (re) (kn) (true) (1 : Int) (by first | assumption | omega | rfl | exact decide_eq_false (by omega) | exact decide_eq_true (by assumption) | exact decide_eq_true (by omega) | exact one_shl33 (by omega) | exact pm_lt _ _ | exact rm_lt (by first | assumption | exact pm_lt _ _) | exact Nat.lt_of_le_of_lt (Nat.shiftRight_le _ _) (by assumption) | exact Nat.lt_of_le_of_lt Nat.and_le_right (by omega)) (by first | assumption | omega | rfl | exact decide_eq_false (by omega) | exact decide_eq_true (by assumption) | exact decide_eq_true (by omega) | exact one_shl33 (by omega) | exact pm_lt _ _ | exact rm_lt (by first | assumption | exact pm_lt _ _) | exact Nat.lt_of_le_of_lt (Nat.shiftRight_le _ _) (by assumption) | exact Nat.lt_of_le_of_lt Nat.and_le_right (by omega))) ml_X5_71 rfl ⟨Nat.le_of_ble_eq_true rfl, Nat.le_of_ble_eq_true rfl⟩ ⟨Nat.le_of_ble_eq_true rfl, Nat.le_of_ble_eq_true rfl⟩ hl (Nat.le_of_ble_eq_true rfl) rfl dX5_power_29 (fun H locs B => ?_)
    refine z_ifB_ne (tgt := 59) C dX5_power_32 (by decide) (fun h32 => ?_) (fun h32 => ?_)
    · refine z_iconst C dX5_power_59 ?_
      exact zo_iret C B hr hk (Nat.le_of_ble_eq_true rfl) (Nat.le_of_ble_eq_true rfl) dX5_power_60 (by exact congrArg (fun z : Int => some (Value.int (iZ z))) (by rfl)) (by rfl) (by rfl)
    · exact absurd h32 (by decide)
  · have g5 := of_decide_eq_false h5
    refine lv_iload_n C.1 C.2.1 dX5_power_8 rfl (lv_at hl 3 rfl) ?_
    refine z_call C (c_X5_isNo l (g) (by first | assumption | omega | rfl | exact decide_eq_false (by omega) | exact decide_eq_true (by assumption) | exact decide_eq_true (by omega) | exact one_shl33 (by omega) | exact pm_lt _ _ | exact rm_lt (by first | assumption | exact pm_lt _ _) | exact Nat.lt_of_le_of_lt (Nat.shiftRight_le _ _) (by assumption) | exact Nat.lt_of_le_of_lt Nat.and_le_right (by omega))) ml_X5_67 ⟨by decide, by decide⟩ ⟨Nat.le_of_ble_eq_true rfl, Nat.le_of_ble_eq_true rfl⟩ hl (Nat.le_of_ble_eq_true rfl) rfl dX5_power_9 ?_
    refine z_ifB_ne (tgt := 23) C dX5_power_12 (by decide) (fun h12 => ?_) (fun h12 => ?_)
    · have g12 := of_decide_eq_true h12
      refine z_iconst C dX5_power_23 ?_
      refine lv_goto (tgt := 28) C.1 C.2.1 dX5_power_24 (by decide) ?_
      refine z_iconst C dX5_power_28 ?_
      refine zo_callD C B (r := some (.int (iZ (zB (true))))) (c_X5_start_bad l D cJ o a (c) (th) (ac) (re) (kn) (true) (1 : Int) (by first | assumption | omega | rfl | exact decide_eq_false (by omega) | exact decide_eq_true (by assumption) | exact decide_eq_true (by omega) | exact one_shl33 (by omega) | exact pm_lt _ _ | exact rm_lt (by first | assumption | exact pm_lt _ _) | exact Nat.lt_of_le_of_lt (Nat.shiftRight_le _ _) (by assumption) | exact Nat.lt_of_le_of_lt Nat.and_le_right (by omega)) (by first | assumption | omega | rfl | exact decide_eq_false (by omega) | exact decide_eq_true (by assumption) | exact decide_eq_true (by omega) | exact one_shl33 (by omega) | exact pm_lt _ _ | exact rm_lt (by first | assumption | exact pm_lt _ _) | exact Nat.lt_of_le_of_lt (Nat.shiftRight_le _ _) (by assumption) | exact Nat.lt_of_le_of_lt Nat.and_le_right (by omega))) ml_X5_71 rfl ⟨Nat.le_of_ble_eq_true rfl, Nat.le_of_ble_eq_true rfl⟩ ⟨Nat.le_of_ble_eq_true rfl, Nat.le_of_ble_eq_true rfl⟩ hl (Nat.le_of_ble_eq_true rfl) rfl dX5_power_29 (fun H locs B => ?_)
      refine z_ifB_ne (tgt := 59) C dX5_power_32 (by decide) (fun h32 => ?_) (fun h32 => ?_)
      · refine z_iconst C dX5_power_59 ?_
        exact zo_iret C B hr hk (Nat.le_of_ble_eq_true rfl) (Nat.le_of_ble_eq_true rfl) dX5_power_60 (by exact congrArg (fun z : Int => some (Value.int (iZ z))) (by rfl)) (by rfl) (by rfl)
      · exact absurd h32 (by decide)
    · have g12 := of_decide_eq_false h12
      refine lv_iload C.1 C.2.1 dX5_power_15 (lv_at hl 4 rfl) ?_
      refine z_call C (c_X5_isNo l (z) (by first | assumption | omega | rfl | exact decide_eq_false (by omega) | exact decide_eq_true (by assumption) | exact decide_eq_true (by omega) | exact one_shl33 (by omega) | exact pm_lt _ _ | exact rm_lt (by first | assumption | exact pm_lt _ _) | exact Nat.lt_of_le_of_lt (Nat.shiftRight_le _ _) (by assumption) | exact Nat.lt_of_le_of_lt Nat.and_le_right (by omega))) ml_X5_67 ⟨by decide, by decide⟩ ⟨Nat.le_of_ble_eq_true rfl, Nat.le_of_ble_eq_true rfl⟩ hl (Nat.le_of_ble_eq_true rfl) rfl dX5_power_17 ?_
      refine z_ifB_eq (tgt := 27) C dX5_power_20 (by decide) (fun h20 => ?_) (fun h20 => ?_)
      · have g20 := of_decide_eq_false h20
        refine z_iconst C dX5_power_27 ?_
        refine z_iconst C dX5_power_28 ?_
        exfalso; omega
      · have g20 := of_decide_eq_true h20
        refine z_iconst C dX5_power_23 ?_
        refine lv_goto (tgt := 28) C.1 C.2.1 dX5_power_24 (by decide) ?_
        refine z_iconst C dX5_power_28 ?_
        refine zo_callD C B (r := some (.int (iZ (zB (true))))) (c_X5_start_bad l D cJ o a (c) (th) (ac) (re) (kn) (true) (1 : Int) (by first | assumption | omega | rfl | exact decide_eq_false (by omega) | exact decide_eq_true (by assumption) | exact decide_eq_true (by omega) | exact one_shl33 (by omega) | exact pm_lt _ _ | exact rm_lt (by first | assumption | exact pm_lt _ _) | exact Nat.lt_of_le_of_lt (Nat.shiftRight_le _ _) (by assumption) | exact Nat.lt_of_le_of_lt Nat.and_le_right (by omega)) (by first | assumption | omega | rfl | exact decide_eq_false (by omega) | exact decide_eq_true (by assumption) | exact decide_eq_true (by omega) | exact one_shl33 (by omega) | exact pm_lt _ _ | exact rm_lt (by first | assumption | exact pm_lt _ _) | exact Nat.lt_of_le_of_lt (Nat.shiftRight_le _ _) (by assumption) | exact Nat.lt_of_le_of_lt Nat.and_le_right (by omega))) ml_X5_71 rfl ⟨Nat.le_of_ble_eq_true rfl, Nat.le_of_ble_eq_true rfl⟩ ⟨Nat.le_of_ble_eq_true rfl, Nat.le_of_ble_eq_true rfl⟩ hl (Nat.le_of_ble_eq_true rfl) rfl dX5_power_29 (fun H locs B => ?_)
        refine z_ifB_ne (tgt := 59) C dX5_power_32 (by decide) (fun h32 => ?_) (fun h32 => ?_)
        · refine z_iconst C dX5_power_59 ?_
          exact zo_iret C B hr hk (Nat.le_of_ble_eq_true rfl) (Nat.le_of_ble_eq_true rfl) dX5_power_60 (by exact congrArg (fun z : Int => some (Value.int (iZ z))) (by rfl)) (by rfl) (by rfl)
        · exact absurd h32 (by decide)

set_option maxHeartbeats 4000000 in
set_option maxRecDepth 100000 in
theorem c_X5_power_bad2 (l : Launch) (D : va_G) (cJ : ClassId) (o a : Nat) (c : Nat → Nat) (th : Int) (ac : Int32) (re : Int32) (kn : Int32) (f : Int) (t : Int) (g : Int) (z : Int) (r9f : -2147483648 ≤ f ∧ f ≤ 2147483647) (r9t : -2147483648 ≤ t ∧ t ≤ 2147483647) (r9g : -2147483648 ≤ g ∧ g ≤ 2147483647) (r9z : -2147483648 ≤ z ∧ z ≤ 2147483647) (hcel : (0 ≤ f ∧ f ≤ 5) ∧ (0 ≤ g ∧ g ≤ 5) ∧ (0 ≤ z ∧ z ≤ 5)) (hbad : ¬ ((0 ≤ t ∧ t ≤ 255))) : zA l yX5_power 2 73 0 0 D 4 cJ o a [.int (iZ (f)), .int (iZ (t)), .int (iZ (g)), .int (iZ (z))] c [.int (iZ (th)), .int (ac), .int (re), .int (kn)] (fun v => v = some (.int (iZ (0)))) (c) [.int (iZ (2)), .int (ac), .int (re), .int (kn)] := by
  refine zA.intro (lo := 44) (nA := 4) (own := RX5) zi_X5_power (by decide) rfl rfl (by decide +kernel) rfl (Nat.le_of_ble_eq_true rfl) ?_
  intro p e s m below meth c0 ls C hr hk B hl
  have hl : lv_has ls 10 [(0, .ref o), (1, .int (iZ (f))), (2, .int (iZ (t))), (3, .int (iZ (g))), (4, .int (iZ (z)))] := hl
  refine lv_aload_n C.1 C.2.1 dX5_power_0 rfl (lv_at hl 0 rfl) ?_
  refine lv_iload_n C.1 C.2.1 dX5_power_1 rfl (lv_at hl 1 rfl) ?_
  refine z_call C (c_X5_isNo l (f) (by first | assumption | omega | rfl | exact decide_eq_false (by omega) | exact decide_eq_true (by assumption) | exact decide_eq_true (by omega) | exact one_shl33 (by omega) | exact pm_lt _ _ | exact rm_lt (by first | assumption | exact pm_lt _ _) | exact Nat.lt_of_le_of_lt (Nat.shiftRight_le _ _) (by assumption) | exact Nat.lt_of_le_of_lt Nat.and_le_right (by omega))) ml_X5_67 ⟨by decide, by decide⟩ ⟨Nat.le_of_ble_eq_true rfl, Nat.le_of_ble_eq_true rfl⟩ hl (Nat.le_of_ble_eq_true rfl) rfl dX5_power_2 ?_
  refine z_ifB_ne (tgt := 23) C dX5_power_5 (by decide) (fun h5 => ?_) (fun h5 => ?_)
  · exact absurd (of_decide_eq_true h5) (by omega)
  · refine lv_iload_n C.1 C.2.1 dX5_power_8 rfl (lv_at hl 3 rfl) ?_
    refine z_call C (c_X5_isNo l (g) (by first | assumption | omega | rfl | exact decide_eq_false (by omega) | exact decide_eq_true (by assumption) | exact decide_eq_true (by omega) | exact one_shl33 (by omega) | exact pm_lt _ _ | exact rm_lt (by first | assumption | exact pm_lt _ _) | exact Nat.lt_of_le_of_lt (Nat.shiftRight_le _ _) (by assumption) | exact Nat.lt_of_le_of_lt Nat.and_le_right (by omega))) ml_X5_67 ⟨by decide, by decide⟩ ⟨Nat.le_of_ble_eq_true rfl, Nat.le_of_ble_eq_true rfl⟩ hl (Nat.le_of_ble_eq_true rfl) rfl dX5_power_9 ?_
    refine z_ifB_ne (tgt := 23) C dX5_power_12 (by decide) (fun h12 => ?_) (fun h12 => ?_)
    · exact absurd (of_decide_eq_true h12) (by omega)
    · refine lv_iload C.1 C.2.1 dX5_power_15 (lv_at hl 4 rfl) ?_
      refine z_call C (c_X5_isNo l (z) (by first | assumption | omega | rfl | exact decide_eq_false (by omega) | exact decide_eq_true (by assumption) | exact decide_eq_true (by omega) | exact one_shl33 (by omega) | exact pm_lt _ _ | exact rm_lt (by first | assumption | exact pm_lt _ _) | exact Nat.lt_of_le_of_lt (Nat.shiftRight_le _ _) (by assumption) | exact Nat.lt_of_le_of_lt Nat.and_le_right (by omega))) ml_X5_67 ⟨by decide, by decide⟩ ⟨Nat.le_of_ble_eq_true rfl, Nat.le_of_ble_eq_true rfl⟩ hl (Nat.le_of_ble_eq_true rfl) rfl dX5_power_17 ?_
      refine z_ifB_eq (tgt := 27) C dX5_power_20 (by decide) (fun h20 => ?_) (fun h20 => ?_)
      · refine z_iconst C dX5_power_27 ?_
        refine z_iconst C dX5_power_28 ?_
        refine zo_callD C B (r := some (.int (iZ (zB (false))))) (c_X5_start_ok l D cJ o a (c) (th) (ac) (re) (kn) (false) (1 : Int) (by first | assumption | omega | rfl | exact decide_eq_false (by omega) | exact decide_eq_true (by assumption) | exact decide_eq_true (by omega) | exact one_shl33 (by omega) | exact pm_lt _ _ | exact rm_lt (by first | assumption | exact pm_lt _ _) | exact Nat.lt_of_le_of_lt (Nat.shiftRight_le _ _) (by assumption) | exact Nat.lt_of_le_of_lt Nat.and_le_right (by omega))) ml_X5_71 rfl ⟨Nat.le_of_ble_eq_true rfl, Nat.le_of_ble_eq_true rfl⟩ ⟨Nat.le_of_ble_eq_true rfl, Nat.le_of_ble_eq_true rfl⟩ hl (Nat.le_of_ble_eq_true rfl) rfl dX5_power_29 (fun H locs B => ?_)
        refine z_ifB_ne (tgt := 59) C dX5_power_32 (by decide) (fun h32 => ?_) (fun h32 => ?_)
        · exact absurd h32 (by decide)
        · refine lv_aload_n C.1 C.2.1 dX5_power_35 rfl (lv_at hl 0 rfl) ?_
          refine lv_iload_n C.1 C.2.1 dX5_power_36 rfl (lv_at hl 2 rfl) ?_
          refine z_iconst C dX5_power_37 ?_
          refine z_sipush C dX5_power_38 (by decide) ?_
          refine z_call C (c_X5_isIn l (t) (0 : Int) (255 : Int) (by first | assumption | omega | rfl | exact decide_eq_false (by omega) | exact decide_eq_true (by assumption) | exact decide_eq_true (by omega) | exact one_shl33 (by omega) | exact pm_lt _ _ | exact rm_lt (by first | assumption | exact pm_lt _ _) | exact Nat.lt_of_le_of_lt (Nat.shiftRight_le _ _) (by assumption) | exact Nat.lt_of_le_of_lt Nat.and_le_right (by omega)) (by first | assumption | omega | rfl | exact decide_eq_false (by omega) | exact decide_eq_true (by assumption) | exact decide_eq_true (by omega) | exact one_shl33 (by omega) | exact pm_lt _ _ | exact rm_lt (by first | assumption | exact pm_lt _ _) | exact Nat.lt_of_le_of_lt (Nat.shiftRight_le _ _) (by assumption) | exact Nat.lt_of_le_of_lt Nat.and_le_right (by omega)) (by first | assumption | omega | rfl | exact decide_eq_false (by omega) | exact decide_eq_true (by assumption) | exact decide_eq_true (by omega) | exact one_shl33 (by omega) | exact pm_lt _ _ | exact rm_lt (by first | assumption | exact pm_lt _ _) | exact Nat.lt_of_le_of_lt (Nat.shiftRight_le _ _) (by assumption) | exact Nat.lt_of_le_of_lt Nat.and_le_right (by omega))) ml_X5_21 ⟨by decide, by decide⟩ ⟨Nat.le_of_ble_eq_true rfl, Nat.le_of_ble_eq_true rfl⟩ hl (Nat.le_of_ble_eq_true rfl) rfl dX5_power_41 ?_
          refine z_ifB_ne (tgt := 51) C dX5_power_44 (by decide) (fun h44 => ?_) (fun h44 => ?_)
          · have g44 := of_decide_eq_true h44
            refine z_iconst C dX5_power_51 ?_
            refine z_iconst C dX5_power_52 ?_
            exfalso; omega
          · have g44 := of_decide_eq_false h44
            refine z_iconst C dX5_power_47 ?_
            refine lv_goto (tgt := 52) C.1 C.2.1 dX5_power_48 (by decide) ?_
            refine z_iconst C dX5_power_52 ?_
            refine zo_callD C B (r := some (.int (iZ (zB (true))))) (c_X5_refuse_bad l D cJ o a (c) (0) ((ac)) ((re)) ((kn)) (true) (2 : Int) (by first | assumption | omega | rfl | exact decide_eq_false (by omega) | exact decide_eq_true (by assumption) | exact decide_eq_true (by omega) | exact one_shl33 (by omega) | exact pm_lt _ _ | exact rm_lt (by first | assumption | exact pm_lt _ _) | exact Nat.lt_of_le_of_lt (Nat.shiftRight_le _ _) (by assumption) | exact Nat.lt_of_le_of_lt Nat.and_le_right (by omega)) (by first | assumption | omega | rfl | exact decide_eq_false (by omega) | exact decide_eq_true (by assumption) | exact decide_eq_true (by omega) | exact one_shl33 (by omega) | exact pm_lt _ _ | exact rm_lt (by first | assumption | exact pm_lt _ _) | exact Nat.lt_of_le_of_lt (Nat.shiftRight_le _ _) (by assumption) | exact Nat.lt_of_le_of_lt Nat.and_le_right (by omega)) (by first | assumption | omega | rfl | exact decide_eq_false (by omega) | exact decide_eq_true (by assumption) | exact decide_eq_true (by omega) | exact one_shl33 (by omega) | exact pm_lt _ _ | exact rm_lt (by first | assumption | exact pm_lt _ _) | exact Nat.lt_of_le_of_lt (Nat.shiftRight_le _ _) (by assumption) | exact Nat.lt_of_le_of_lt Nat.and_le_right (by omega))) ml_X5_17 rfl ⟨Nat.le_of_ble_eq_true rfl, Nat.le_of_ble_eq_true rfl⟩ ⟨Nat.le_of_ble_eq_true rfl, Nat.le_of_ble_eq_true rfl⟩ hl (Nat.le_of_ble_eq_true rfl) rfl dX5_power_53 (fun H locs B => ?_)
            refine z_ifB_eq (tgt := 61) C dX5_power_56 (by decide) (fun h56 => ?_) (fun h56 => ?_)
            · exact absurd h56 (by decide)
            · refine z_iconst C dX5_power_59 ?_
              exact zo_iret C B hr hk (Nat.le_of_ble_eq_true rfl) (Nat.le_of_ble_eq_true rfl) dX5_power_60 (by exact congrArg (fun z : Int => some (Value.int (iZ z))) (by rfl)) (by rfl) (by rfl)
      · exact absurd (of_decide_eq_true h20) (by omega)

set_option maxHeartbeats 4000000 in
set_option maxRecDepth 100000 in
theorem c_X5_nth_bad1 (l : Launch) (D : va_G) (cJ : ClassId) (o a : Nat) (c : Nat → Nat) (th : Int) (ac : Int32) (re : Int32) (kn : Int32) (d : Int) (r : Int) (z : Int) (r9d : -2147483648 ≤ d ∧ d ≤ 2147483647) (r9r : -2147483648 ≤ r ∧ r ≤ 2147483647) (r9z : -2147483648 ≤ z ∧ z ≤ 2147483647) (hbad : ¬ ((0 ≤ z ∧ z ≤ 5))) : zA l yX5_nth 2 70 0 0 D 4 cJ o a [.int (iZ (d)), .int (iZ (r)), .int (iZ (z))] c [.int (iZ (th)), .int (ac), .int (re), .int (kn)] (fun v => v = some (.int (iZ (0)))) (c) [.int (iZ (1)), .int (ac), .int (re), .int (kn)] := by
  refine zA.intro (lo := 44) (nA := 3) (own := RX5) zi_X5_nth (by decide) rfl rfl (by decide +kernel) rfl (Nat.le_of_ble_eq_true rfl) ?_
  intro p e s m below meth c0 ls C hr hk B hl
  have hl : lv_has ls 7 [(0, .ref o), (1, .int (iZ (d))), (2, .int (iZ (r))), (3, .int (iZ (z)))] := hl
  refine lv_aload_n C.1 C.2.1 dX5_nth_0 rfl (lv_at hl 0 rfl) ?_
  refine lv_iload_n C.1 C.2.1 dX5_nth_1 rfl (lv_at hl 3 rfl) ?_
  refine z_call C (c_X5_isNo l (z) (by first | assumption | omega | rfl | exact decide_eq_false (by omega) | exact decide_eq_true (by assumption) | exact decide_eq_true (by omega) | exact one_shl33 (by omega) | exact pm_lt _ _ | exact rm_lt (by first | assumption | exact pm_lt _ _) | exact Nat.lt_of_le_of_lt (Nat.shiftRight_le _ _) (by assumption) | exact Nat.lt_of_le_of_lt Nat.and_le_right (by omega))) ml_X5_67 ⟨by decide, by decide⟩ ⟨Nat.le_of_ble_eq_true rfl, Nat.le_of_ble_eq_true rfl⟩ hl (Nat.le_of_ble_eq_true rfl) rfl dX5_nth_2 ?_
  refine z_iconst C dX5_nth_5 ?_
  refine zo_callD C B (r := some (.int (iZ (zB (true))))) (c_X5_start_bad l D cJ o a (c) (th) (ac) (re) (kn) (decide (¬ (0 ≤ (z) ∧ (z) ≤ 5))) (1 : Int) (by first | assumption | omega | rfl | exact decide_eq_false (by omega) | exact decide_eq_true (by assumption) | exact decide_eq_true (by omega) | exact one_shl33 (by omega) | exact pm_lt _ _ | exact rm_lt (by first | assumption | exact pm_lt _ _) | exact Nat.lt_of_le_of_lt (Nat.shiftRight_le _ _) (by assumption) | exact Nat.lt_of_le_of_lt Nat.and_le_right (by omega)) (by first | assumption | omega | rfl | exact decide_eq_false (by omega) | exact decide_eq_true (by assumption) | exact decide_eq_true (by omega) | exact one_shl33 (by omega) | exact pm_lt _ _ | exact rm_lt (by first | assumption | exact pm_lt _ _) | exact Nat.lt_of_le_of_lt (Nat.shiftRight_le _ _) (by assumption) | exact Nat.lt_of_le_of_lt Nat.and_le_right (by omega))) ml_X5_71 rfl ⟨Nat.le_of_ble_eq_true rfl, Nat.le_of_ble_eq_true rfl⟩ ⟨Nat.le_of_ble_eq_true rfl, Nat.le_of_ble_eq_true rfl⟩ hl (Nat.le_of_ble_eq_true rfl) rfl dX5_nth_6 (fun H locs B => ?_)
  refine z_ifB_ne (tgt := 45) C dX5_nth_9 (by decide) (fun h9 => ?_) (fun h9 => ?_)
  · refine z_iconst C dX5_nth_45 ?_
    exact zo_iret C B hr hk (Nat.le_of_ble_eq_true rfl) (Nat.le_of_ble_eq_true rfl) dX5_nth_46 (by exact congrArg (fun z : Int => some (Value.int (iZ z))) (by rfl)) (by rfl) (by rfl)
  · exact absurd h9 (by decide)

set_option maxHeartbeats 4000000 in
set_option maxRecDepth 100000 in
theorem c_X5_nth_bad2 (l : Launch) (D : va_G) (cJ : ClassId) (o a : Nat) (c : Nat → Nat) (th : Int) (ac : Int32) (re : Int32) (kn : Int32) (d : Int) (r : Int) (z : Int) (r9d : -2147483648 ≤ d ∧ d ≤ 2147483647) (r9r : -2147483648 ≤ r ∧ r ≤ 2147483647) (r9z : -2147483648 ≤ z ∧ z ≤ 2147483647) (hcel : (0 ≤ z ∧ z ≤ 5)) (hbad : ¬ ((1 ≤ d ∧ d ≤ 8) ∧ (0 ≤ r ∧ r ≤ 40))) : zA l yX5_nth 2 70 0 0 D 4 cJ o a [.int (iZ (d)), .int (iZ (r)), .int (iZ (z))] c [.int (iZ (th)), .int (ac), .int (re), .int (kn)] (fun v => v = some (.int (iZ (0)))) (c) [.int (iZ (2)), .int (ac), .int (re), .int (kn)] := by
  refine zA.intro (lo := 44) (nA := 3) (own := RX5) zi_X5_nth (by decide) rfl rfl (by decide +kernel) rfl (Nat.le_of_ble_eq_true rfl) ?_
  intro p e s m below meth c0 ls C hr hk B hl
  have hl : lv_has ls 7 [(0, .ref o), (1, .int (iZ (d))), (2, .int (iZ (r))), (3, .int (iZ (z)))] := hl
  refine lv_aload_n C.1 C.2.1 dX5_nth_0 rfl (lv_at hl 0 rfl) ?_
  refine lv_iload_n C.1 C.2.1 dX5_nth_1 rfl (lv_at hl 3 rfl) ?_
  refine z_call C (c_X5_isNo l (z) (by first | assumption | omega | rfl | exact decide_eq_false (by omega) | exact decide_eq_true (by assumption) | exact decide_eq_true (by omega) | exact one_shl33 (by omega) | exact pm_lt _ _ | exact rm_lt (by first | assumption | exact pm_lt _ _) | exact Nat.lt_of_le_of_lt (Nat.shiftRight_le _ _) (by assumption) | exact Nat.lt_of_le_of_lt Nat.and_le_right (by omega))) ml_X5_67 ⟨by decide, by decide⟩ ⟨Nat.le_of_ble_eq_true rfl, Nat.le_of_ble_eq_true rfl⟩ hl (Nat.le_of_ble_eq_true rfl) rfl dX5_nth_2 ?_
  refine z_iconst C dX5_nth_5 ?_
  refine zo_callD C B (r := some (.int (iZ (zB (false))))) (c_X5_start_ok l D cJ o a (c) (th) (ac) (re) (kn) (decide (¬ (0 ≤ (z) ∧ (z) ≤ 5))) (1 : Int) (by first | assumption | omega | rfl | exact decide_eq_false (by omega) | exact decide_eq_true (by assumption) | exact decide_eq_true (by omega) | exact one_shl33 (by omega) | exact pm_lt _ _ | exact rm_lt (by first | assumption | exact pm_lt _ _) | exact Nat.lt_of_le_of_lt (Nat.shiftRight_le _ _) (by assumption) | exact Nat.lt_of_le_of_lt Nat.and_le_right (by omega))) ml_X5_71 rfl ⟨Nat.le_of_ble_eq_true rfl, Nat.le_of_ble_eq_true rfl⟩ ⟨Nat.le_of_ble_eq_true rfl, Nat.le_of_ble_eq_true rfl⟩ hl (Nat.le_of_ble_eq_true rfl) rfl dX5_nth_6 (fun H locs B => ?_)
  refine z_ifB_ne (tgt := 45) C dX5_nth_9 (by decide) (fun h9 => ?_) (fun h9 => ?_)
  · exact absurd h9 (by decide)
  · refine lv_aload_n C.1 C.2.1 dX5_nth_12 rfl (lv_at hl 0 rfl) ?_
    refine lv_iload_n C.1 C.2.1 dX5_nth_13 rfl (lv_at hl 1 rfl) ?_
    refine z_iconst C dX5_nth_14 ?_
    refine z_bipush C dX5_nth_15 (by decide) ?_
    refine z_call C (c_X5_isIn l (d) (1 : Int) (8 : Int) (by first | assumption | omega | rfl | exact decide_eq_false (by omega) | exact decide_eq_true (by assumption) | exact decide_eq_true (by omega) | exact one_shl33 (by omega) | exact pm_lt _ _ | exact rm_lt (by first | assumption | exact pm_lt _ _) | exact Nat.lt_of_le_of_lt (Nat.shiftRight_le _ _) (by assumption) | exact Nat.lt_of_le_of_lt Nat.and_le_right (by omega)) (by first | assumption | omega | rfl | exact decide_eq_false (by omega) | exact decide_eq_true (by assumption) | exact decide_eq_true (by omega) | exact one_shl33 (by omega) | exact pm_lt _ _ | exact rm_lt (by first | assumption | exact pm_lt _ _) | exact Nat.lt_of_le_of_lt (Nat.shiftRight_le _ _) (by assumption) | exact Nat.lt_of_le_of_lt Nat.and_le_right (by omega)) (by first | assumption | omega | rfl | exact decide_eq_false (by omega) | exact decide_eq_true (by assumption) | exact decide_eq_true (by omega) | exact one_shl33 (by omega) | exact pm_lt _ _ | exact rm_lt (by first | assumption | exact pm_lt _ _) | exact Nat.lt_of_le_of_lt (Nat.shiftRight_le _ _) (by assumption) | exact Nat.lt_of_le_of_lt Nat.and_le_right (by omega))) ml_X5_21 ⟨by decide, by decide⟩ ⟨Nat.le_of_ble_eq_true rfl, Nat.le_of_ble_eq_true rfl⟩ hl (Nat.le_of_ble_eq_true rfl) rfl dX5_nth_17 ?_
    refine z_ifB_eq (tgt := 33) C dX5_nth_20 (by decide) (fun h20 => ?_) (fun h20 => ?_)
    · have g20 := of_decide_eq_false h20
      refine z_iconst C dX5_nth_33 ?_
      refine lv_goto (tgt := 38) C.1 C.2.1 dX5_nth_34 (by decide) ?_
      refine z_iconst C dX5_nth_38 ?_
      refine zo_callD C B (r := some (.int (iZ (zB (true))))) (c_X5_refuse_bad l D cJ o a (c) (0) ((ac)) ((re)) ((kn)) (true) (2 : Int) (by first | assumption | omega | rfl | exact decide_eq_false (by omega) | exact decide_eq_true (by assumption) | exact decide_eq_true (by omega) | exact one_shl33 (by omega) | exact pm_lt _ _ | exact rm_lt (by first | assumption | exact pm_lt _ _) | exact Nat.lt_of_le_of_lt (Nat.shiftRight_le _ _) (by assumption) | exact Nat.lt_of_le_of_lt Nat.and_le_right (by omega)) (by first | assumption | omega | rfl | exact decide_eq_false (by omega) | exact decide_eq_true (by assumption) | exact decide_eq_true (by omega) | exact one_shl33 (by omega) | exact pm_lt _ _ | exact rm_lt (by first | assumption | exact pm_lt _ _) | exact Nat.lt_of_le_of_lt (Nat.shiftRight_le _ _) (by assumption) | exact Nat.lt_of_le_of_lt Nat.and_le_right (by omega)) (by first | assumption | omega | rfl | exact decide_eq_false (by omega) | exact decide_eq_true (by assumption) | exact decide_eq_true (by omega) | exact one_shl33 (by omega) | exact pm_lt _ _ | exact rm_lt (by first | assumption | exact pm_lt _ _) | exact Nat.lt_of_le_of_lt (Nat.shiftRight_le _ _) (by assumption) | exact Nat.lt_of_le_of_lt Nat.and_le_right (by omega))) ml_X5_17 rfl ⟨Nat.le_of_ble_eq_true rfl, Nat.le_of_ble_eq_true rfl⟩ ⟨Nat.le_of_ble_eq_true rfl, Nat.le_of_ble_eq_true rfl⟩ hl (Nat.le_of_ble_eq_true rfl) rfl dX5_nth_39 (fun H locs B => ?_)
      refine z_ifB_eq (tgt := 47) C dX5_nth_42 (by decide) (fun h42 => ?_) (fun h42 => ?_)
      · exact absurd h42 (by decide)
      · refine z_iconst C dX5_nth_45 ?_
        exact zo_iret C B hr hk (Nat.le_of_ble_eq_true rfl) (Nat.le_of_ble_eq_true rfl) dX5_nth_46 (by exact congrArg (fun z : Int => some (Value.int (iZ z))) (by rfl)) (by rfl) (by rfl)
    · have g20 := of_decide_eq_true h20
      refine lv_iload_n C.1 C.2.1 dX5_nth_23 rfl (lv_at hl 2 rfl) ?_
      refine z_iconst C dX5_nth_24 ?_
      refine z_bipush C dX5_nth_25 (by decide) ?_
      refine z_call C (c_X5_isIn l (r) (0 : Int) (40 : Int) (by first | assumption | omega | rfl | exact decide_eq_false (by omega) | exact decide_eq_true (by assumption) | exact decide_eq_true (by omega) | exact one_shl33 (by omega) | exact pm_lt _ _ | exact rm_lt (by first | assumption | exact pm_lt _ _) | exact Nat.lt_of_le_of_lt (Nat.shiftRight_le _ _) (by assumption) | exact Nat.lt_of_le_of_lt Nat.and_le_right (by omega)) (by first | assumption | omega | rfl | exact decide_eq_false (by omega) | exact decide_eq_true (by assumption) | exact decide_eq_true (by omega) | exact one_shl33 (by omega) | exact pm_lt _ _ | exact rm_lt (by first | assumption | exact pm_lt _ _) | exact Nat.lt_of_le_of_lt (Nat.shiftRight_le _ _) (by assumption) | exact Nat.lt_of_le_of_lt Nat.and_le_right (by omega)) (by first | assumption | omega | rfl | exact decide_eq_false (by omega) | exact decide_eq_true (by assumption) | exact decide_eq_true (by omega) | exact one_shl33 (by omega) | exact pm_lt _ _ | exact rm_lt (by first | assumption | exact pm_lt _ _) | exact Nat.lt_of_le_of_lt (Nat.shiftRight_le _ _) (by assumption) | exact Nat.lt_of_le_of_lt Nat.and_le_right (by omega))) ml_X5_21 ⟨by decide, by decide⟩ ⟨Nat.le_of_ble_eq_true rfl, Nat.le_of_ble_eq_true rfl⟩ hl (Nat.le_of_ble_eq_true rfl) rfl dX5_nth_27 ?_
      refine z_ifB_ne (tgt := 37) C dX5_nth_30 (by decide) (fun h30 => ?_) (fun h30 => ?_)
      · have g30 := of_decide_eq_true h30
        refine z_iconst C dX5_nth_37 ?_
        refine z_iconst C dX5_nth_38 ?_
        exfalso; omega
      · have g30 := of_decide_eq_false h30
        refine z_iconst C dX5_nth_33 ?_
        refine lv_goto (tgt := 38) C.1 C.2.1 dX5_nth_34 (by decide) ?_
        refine z_iconst C dX5_nth_38 ?_
        refine zo_callD C B (r := some (.int (iZ (zB (true))))) (c_X5_refuse_bad l D cJ o a (c) (0) ((ac)) ((re)) ((kn)) (true) (2 : Int) (by first | assumption | omega | rfl | exact decide_eq_false (by omega) | exact decide_eq_true (by assumption) | exact decide_eq_true (by omega) | exact one_shl33 (by omega) | exact pm_lt _ _ | exact rm_lt (by first | assumption | exact pm_lt _ _) | exact Nat.lt_of_le_of_lt (Nat.shiftRight_le _ _) (by assumption) | exact Nat.lt_of_le_of_lt Nat.and_le_right (by omega)) (by first | assumption | omega | rfl | exact decide_eq_false (by omega) | exact decide_eq_true (by assumption) | exact decide_eq_true (by omega) | exact one_shl33 (by omega) | exact pm_lt _ _ | exact rm_lt (by first | assumption | exact pm_lt _ _) | exact Nat.lt_of_le_of_lt (Nat.shiftRight_le _ _) (by assumption) | exact Nat.lt_of_le_of_lt Nat.and_le_right (by omega)) (by first | assumption | omega | rfl | exact decide_eq_false (by omega) | exact decide_eq_true (by assumption) | exact decide_eq_true (by omega) | exact one_shl33 (by omega) | exact pm_lt _ _ | exact rm_lt (by first | assumption | exact pm_lt _ _) | exact Nat.lt_of_le_of_lt (Nat.shiftRight_le _ _) (by assumption) | exact Nat.lt_of_le_of_lt Nat.and_le_right (by omega))) ml_X5_17 rfl ⟨Nat.le_of_ble_eq_true rfl, Nat.le_of_ble_eq_true rfl⟩ ⟨Nat.le_of_ble_eq_true rfl, Nat.le_of_ble_eq_true rfl⟩ hl (Nat.le_of_ble_eq_true rfl) rfl dX5_nth_39 (fun H locs B => ?_)
        refine z_ifB_eq (tgt := 47) C dX5_nth_42 (by decide) (fun h42 => ?_) (fun h42 => ?_)
        · exact absurd h42 (by decide)
        · refine z_iconst C dX5_nth_45 ?_
          exact zo_iret C B hr hk (Nat.le_of_ble_eq_true rfl) (Nat.le_of_ble_eq_true rfl) dX5_nth_46 (by exact congrArg (fun z : Int => some (Value.int (iZ z))) (by rfl)) (by rfl) (by rfl)

set_option maxHeartbeats 4000000 in
set_option maxRecDepth 100000 in
theorem c_X5_field_bad1 (l : Launch) (D : va_G) (cJ : ClassId) (o a : Nat) (c : Nat → Nat) (th : Int) (ac : Int32) (re : Int32) (kn : Int32) (n : Int) (z : Int) (r9n : -2147483648 ≤ n ∧ n ≤ 2147483647) (r9z : -2147483648 ≤ z ∧ z ≤ 2147483647) (hbad : ¬ ((0 ≤ z ∧ z ≤ 5))) : zA l yX5_field 2 70 0 0 D 4 cJ o a [.int (iZ (n)), .int (iZ (z))] c [.int (iZ (th)), .int (ac), .int (re), .int (kn)] (fun v => v = some (.int (iZ (0)))) (c) [.int (iZ (1)), .int (ac), .int (re), .int (kn)] := by
  refine zA.intro (lo := 44) (nA := 2) (own := RX5) zi_X5_field (by decide) rfl rfl (by decide +kernel) rfl (Nat.le_of_ble_eq_true rfl) ?_
  intro p e s m below meth c0 ls C hr hk B hl
  have hl : lv_has ls 7 [(0, .ref o), (1, .int (iZ (n))), (2, .int (iZ (z)))] := hl
  refine lv_aload_n C.1 C.2.1 dX5_field_0 rfl (lv_at hl 0 rfl) ?_
  refine lv_iload_n C.1 C.2.1 dX5_field_1 rfl (lv_at hl 2 rfl) ?_
  refine z_call C (c_X5_isNo l (z) (by first | assumption | omega | rfl | exact decide_eq_false (by omega) | exact decide_eq_true (by assumption) | exact decide_eq_true (by omega) | exact one_shl33 (by omega) | exact pm_lt _ _ | exact rm_lt (by first | assumption | exact pm_lt _ _) | exact Nat.lt_of_le_of_lt (Nat.shiftRight_le _ _) (by assumption) | exact Nat.lt_of_le_of_lt Nat.and_le_right (by omega))) ml_X5_67 ⟨by decide, by decide⟩ ⟨Nat.le_of_ble_eq_true rfl, Nat.le_of_ble_eq_true rfl⟩ hl (Nat.le_of_ble_eq_true rfl) rfl dX5_field_2 ?_
  refine z_iconst C dX5_field_5 ?_
  refine zo_callD C B (r := some (.int (iZ (zB (true))))) (c_X5_start_bad l D cJ o a (c) (th) (ac) (re) (kn) (decide (¬ (0 ≤ (z) ∧ (z) ≤ 5))) (1 : Int) (by first | assumption | omega | rfl | exact decide_eq_false (by omega) | exact decide_eq_true (by assumption) | exact decide_eq_true (by omega) | exact one_shl33 (by omega) | exact pm_lt _ _ | exact rm_lt (by first | assumption | exact pm_lt _ _) | exact Nat.lt_of_le_of_lt (Nat.shiftRight_le _ _) (by assumption) | exact Nat.lt_of_le_of_lt Nat.and_le_right (by omega)) (by first | assumption | omega | rfl | exact decide_eq_false (by omega) | exact decide_eq_true (by assumption) | exact decide_eq_true (by omega) | exact one_shl33 (by omega) | exact pm_lt _ _ | exact rm_lt (by first | assumption | exact pm_lt _ _) | exact Nat.lt_of_le_of_lt (Nat.shiftRight_le _ _) (by assumption) | exact Nat.lt_of_le_of_lt Nat.and_le_right (by omega))) ml_X5_71 rfl ⟨Nat.le_of_ble_eq_true rfl, Nat.le_of_ble_eq_true rfl⟩ ⟨Nat.le_of_ble_eq_true rfl, Nat.le_of_ble_eq_true rfl⟩ hl (Nat.le_of_ble_eq_true rfl) rfl dX5_field_6 (fun H locs B => ?_)
  refine z_ifB_ne (tgt := 34) C dX5_field_9 (by decide) (fun h9 => ?_) (fun h9 => ?_)
  · refine z_iconst C dX5_field_34 ?_
    exact zo_iret C B hr hk (Nat.le_of_ble_eq_true rfl) (Nat.le_of_ble_eq_true rfl) dX5_field_35 (by exact congrArg (fun z : Int => some (Value.int (iZ z))) (by rfl)) (by rfl) (by rfl)
  · exact absurd h9 (by decide)

set_option maxHeartbeats 4000000 in
set_option maxRecDepth 100000 in
theorem c_X5_field_bad2 (l : Launch) (D : va_G) (cJ : ClassId) (o a : Nat) (c : Nat → Nat) (th : Int) (ac : Int32) (re : Int32) (kn : Int32) (n : Int) (z : Int) (r9n : -2147483648 ≤ n ∧ n ≤ 2147483647) (r9z : -2147483648 ≤ z ∧ z ≤ 2147483647) (hcel : (0 ≤ z ∧ z ≤ 5)) (hbad : ¬ ((1 ≤ n ∧ n ≤ 5))) : zA l yX5_field 2 70 0 0 D 4 cJ o a [.int (iZ (n)), .int (iZ (z))] c [.int (iZ (th)), .int (ac), .int (re), .int (kn)] (fun v => v = some (.int (iZ (0)))) (c) [.int (iZ (2)), .int (ac), .int (re), .int (kn)] := by
  refine zA.intro (lo := 44) (nA := 2) (own := RX5) zi_X5_field (by decide) rfl rfl (by decide +kernel) rfl (Nat.le_of_ble_eq_true rfl) ?_
  intro p e s m below meth c0 ls C hr hk B hl
  have hl : lv_has ls 7 [(0, .ref o), (1, .int (iZ (n))), (2, .int (iZ (z)))] := hl
  refine lv_aload_n C.1 C.2.1 dX5_field_0 rfl (lv_at hl 0 rfl) ?_
  refine lv_iload_n C.1 C.2.1 dX5_field_1 rfl (lv_at hl 2 rfl) ?_
  refine z_call C (c_X5_isNo l (z) (by first | assumption | omega | rfl | exact decide_eq_false (by omega) | exact decide_eq_true (by assumption) | exact decide_eq_true (by omega) | exact one_shl33 (by omega) | exact pm_lt _ _ | exact rm_lt (by first | assumption | exact pm_lt _ _) | exact Nat.lt_of_le_of_lt (Nat.shiftRight_le _ _) (by assumption) | exact Nat.lt_of_le_of_lt Nat.and_le_right (by omega))) ml_X5_67 ⟨by decide, by decide⟩ ⟨Nat.le_of_ble_eq_true rfl, Nat.le_of_ble_eq_true rfl⟩ hl (Nat.le_of_ble_eq_true rfl) rfl dX5_field_2 ?_
  refine z_iconst C dX5_field_5 ?_
  refine zo_callD C B (r := some (.int (iZ (zB (false))))) (c_X5_start_ok l D cJ o a (c) (th) (ac) (re) (kn) (decide (¬ (0 ≤ (z) ∧ (z) ≤ 5))) (1 : Int) (by first | assumption | omega | rfl | exact decide_eq_false (by omega) | exact decide_eq_true (by assumption) | exact decide_eq_true (by omega) | exact one_shl33 (by omega) | exact pm_lt _ _ | exact rm_lt (by first | assumption | exact pm_lt _ _) | exact Nat.lt_of_le_of_lt (Nat.shiftRight_le _ _) (by assumption) | exact Nat.lt_of_le_of_lt Nat.and_le_right (by omega))) ml_X5_71 rfl ⟨Nat.le_of_ble_eq_true rfl, Nat.le_of_ble_eq_true rfl⟩ ⟨Nat.le_of_ble_eq_true rfl, Nat.le_of_ble_eq_true rfl⟩ hl (Nat.le_of_ble_eq_true rfl) rfl dX5_field_6 (fun H locs B => ?_)
  refine z_ifB_ne (tgt := 34) C dX5_field_9 (by decide) (fun h9 => ?_) (fun h9 => ?_)
  · exact absurd h9 (by decide)
  · refine lv_aload_n C.1 C.2.1 dX5_field_12 rfl (lv_at hl 0 rfl) ?_
    refine lv_iload_n C.1 C.2.1 dX5_field_13 rfl (lv_at hl 1 rfl) ?_
    refine z_iconst C dX5_field_14 ?_
    refine z_iconst C dX5_field_15 ?_
    refine z_call C (c_X5_isIn l (n) (1 : Int) (5 : Int) (by first | assumption | omega | rfl | exact decide_eq_false (by omega) | exact decide_eq_true (by assumption) | exact decide_eq_true (by omega) | exact one_shl33 (by omega) | exact pm_lt _ _ | exact rm_lt (by first | assumption | exact pm_lt _ _) | exact Nat.lt_of_le_of_lt (Nat.shiftRight_le _ _) (by assumption) | exact Nat.lt_of_le_of_lt Nat.and_le_right (by omega)) (by first | assumption | omega | rfl | exact decide_eq_false (by omega) | exact decide_eq_true (by assumption) | exact decide_eq_true (by omega) | exact one_shl33 (by omega) | exact pm_lt _ _ | exact rm_lt (by first | assumption | exact pm_lt _ _) | exact Nat.lt_of_le_of_lt (Nat.shiftRight_le _ _) (by assumption) | exact Nat.lt_of_le_of_lt Nat.and_le_right (by omega)) (by first | assumption | omega | rfl | exact decide_eq_false (by omega) | exact decide_eq_true (by assumption) | exact decide_eq_true (by omega) | exact one_shl33 (by omega) | exact pm_lt _ _ | exact rm_lt (by first | assumption | exact pm_lt _ _) | exact Nat.lt_of_le_of_lt (Nat.shiftRight_le _ _) (by assumption) | exact Nat.lt_of_le_of_lt Nat.and_le_right (by omega))) ml_X5_21 ⟨by decide, by decide⟩ ⟨Nat.le_of_ble_eq_true rfl, Nat.le_of_ble_eq_true rfl⟩ hl (Nat.le_of_ble_eq_true rfl) rfl dX5_field_16 ?_
    refine z_ifB_ne (tgt := 26) C dX5_field_19 (by decide) (fun h19 => ?_) (fun h19 => ?_)
    · have g19 := of_decide_eq_true h19
      refine z_iconst C dX5_field_26 ?_
      refine z_iconst C dX5_field_27 ?_
      exfalso; omega
    · have g19 := of_decide_eq_false h19
      refine z_iconst C dX5_field_22 ?_
      refine lv_goto (tgt := 27) C.1 C.2.1 dX5_field_23 (by decide) ?_
      refine z_iconst C dX5_field_27 ?_
      refine zo_callD C B (r := some (.int (iZ (zB (true))))) (c_X5_refuse_bad l D cJ o a (c) (0) ((ac)) ((re)) ((kn)) (true) (2 : Int) (by first | assumption | omega | rfl | exact decide_eq_false (by omega) | exact decide_eq_true (by assumption) | exact decide_eq_true (by omega) | exact one_shl33 (by omega) | exact pm_lt _ _ | exact rm_lt (by first | assumption | exact pm_lt _ _) | exact Nat.lt_of_le_of_lt (Nat.shiftRight_le _ _) (by assumption) | exact Nat.lt_of_le_of_lt Nat.and_le_right (by omega)) (by first | assumption | omega | rfl | exact decide_eq_false (by omega) | exact decide_eq_true (by assumption) | exact decide_eq_true (by omega) | exact one_shl33 (by omega) | exact pm_lt _ _ | exact rm_lt (by first | assumption | exact pm_lt _ _) | exact Nat.lt_of_le_of_lt (Nat.shiftRight_le _ _) (by assumption) | exact Nat.lt_of_le_of_lt Nat.and_le_right (by omega)) (by first | assumption | omega | rfl | exact decide_eq_false (by omega) | exact decide_eq_true (by assumption) | exact decide_eq_true (by omega) | exact one_shl33 (by omega) | exact pm_lt _ _ | exact rm_lt (by first | assumption | exact pm_lt _ _) | exact Nat.lt_of_le_of_lt (Nat.shiftRight_le _ _) (by assumption) | exact Nat.lt_of_le_of_lt Nat.and_le_right (by omega))) ml_X5_17 rfl ⟨Nat.le_of_ble_eq_true rfl, Nat.le_of_ble_eq_true rfl⟩ ⟨Nat.le_of_ble_eq_true rfl, Nat.le_of_ble_eq_true rfl⟩ hl (Nat.le_of_ble_eq_true rfl) rfl dX5_field_28 (fun H locs B => ?_)
      refine z_ifB_eq (tgt := 36) C dX5_field_31 (by decide) (fun h31 => ?_) (fun h31 => ?_)
      · exact absurd h31 (by decide)
      · refine z_iconst C dX5_field_34 ?_
        exact zo_iret C B hr hk (Nat.le_of_ble_eq_true rfl) (Nat.le_of_ble_eq_true rfl) dX5_field_35 (by exact congrArg (fun z : Int => some (Value.int (iZ z))) (by rfl)) (by rfl) (by rfl)

set_option maxHeartbeats 4000000 in
set_option maxRecDepth 100000 in
theorem c_X5_again_bad1 (l : Launch) (D : va_G) (cJ : ClassId) (o a : Nat) (c : Nat → Nat) (th : Int) (ac : Int32) (re : Int32) (kn : Int32) (f : Int) (r : Int) (z : Int) (r9f : -2147483648 ≤ f ∧ f ≤ 2147483647) (r9r : -2147483648 ≤ r ∧ r ≤ 2147483647) (r9z : -2147483648 ≤ z ∧ z ≤ 2147483647) (hbad : ¬ ((0 ≤ f ∧ f ≤ 5) ∧ (0 ≤ z ∧ z ≤ 5))) : zA l yX5_again 2 67 0 0 D 4 cJ o a [.int (iZ (f)), .int (iZ (r)), .int (iZ (z))] c [.int (iZ (th)), .int (ac), .int (re), .int (kn)] (fun v => v = some (.int (iZ (0)))) (c) [.int (iZ (1)), .int (ac), .int (re), .int (kn)] := by
  refine zA.intro (lo := 44) (nA := 3) (own := RX5) zi_X5_again (by decide) rfl rfl (by decide +kernel) rfl (Nat.le_of_ble_eq_true rfl) ?_
  intro p e s m below meth c0 ls C hr hk B hl
  have hl : lv_has ls 4 [(0, .ref o), (1, .int (iZ (f))), (2, .int (iZ (r))), (3, .int (iZ (z)))] := hl
  refine lv_aload_n C.1 C.2.1 dX5_again_0 rfl (lv_at hl 0 rfl) ?_
  refine lv_iload_n C.1 C.2.1 dX5_again_1 rfl (lv_at hl 1 rfl) ?_
  refine z_call C (c_X5_isNo l (f) (by first | assumption | omega | rfl | exact decide_eq_false (by omega) | exact decide_eq_true (by assumption) | exact decide_eq_true (by omega) | exact one_shl33 (by omega) | exact pm_lt _ _ | exact rm_lt (by first | assumption | exact pm_lt _ _) | exact Nat.lt_of_le_of_lt (Nat.shiftRight_le _ _) (by assumption) | exact Nat.lt_of_le_of_lt Nat.and_le_right (by omega))) ml_X5_67 ⟨by decide, by decide⟩ ⟨Nat.le_of_ble_eq_true rfl, Nat.le_of_ble_eq_true rfl⟩ hl (Nat.le_of_ble_eq_true rfl) rfl dX5_again_2 ?_
  refine z_ifB_ne (tgt := 15) C dX5_again_5 (by decide) (fun h5 => ?_) (fun h5 => ?_)
  · have g5 := of_decide_eq_true h5
    refine z_iconst C dX5_again_15 ?_
    refine lv_goto (tgt := 20) C.1 C.2.1 dX5_again_16 (by decide) ?_
    refine z_iconst C dX5_again_20 ?_
    refine zo_callD C B (r := some (.int (iZ (zB (true))))) (c_X5_start_bad l D cJ o a (c) (th) (ac) (re) (kn) (true) (1 : Int) (by first | assumption | omega | rfl | exact decide_eq_false (by omega) | exact decide_eq_true (by assumption) | exact decide_eq_true (by omega) | exact one_shl33 (by omega) | exact pm_lt _ _ | exact rm_lt (by first | assumption | exact pm_lt _ _) | exact Nat.lt_of_le_of_lt (Nat.shiftRight_le _ _) (by assumption) | exact Nat.lt_of_le_of_lt Nat.and_le_right (by omega)) (by first | assumption | omega | rfl | exact decide_eq_false (by omega) | exact decide_eq_true (by assumption) | exact decide_eq_true (by omega) | exact one_shl33 (by omega) | exact pm_lt _ _ | exact rm_lt (by first | assumption | exact pm_lt _ _) | exact Nat.lt_of_le_of_lt (Nat.shiftRight_le _ _) (by assumption) | exact Nat.lt_of_le_of_lt Nat.and_le_right (by omega))) ml_X5_71 rfl ⟨Nat.le_of_ble_eq_true rfl, Nat.le_of_ble_eq_true rfl⟩ ⟨Nat.le_of_ble_eq_true rfl, Nat.le_of_ble_eq_true rfl⟩ hl (Nat.le_of_ble_eq_true rfl) rfl dX5_again_21 (fun H locs B => ?_)
    refine z_ifB_ne (tgt := 50) C dX5_again_24 (by decide) (fun h24 => ?_) (fun h24 => ?_)
    · refine z_iconst C dX5_again_50 ?_
      refine lv_goto (tgt := 65) C.1 C.2.1 dX5_again_51 (by decide) ?_
      exact zo_iret C B hr hk (Nat.le_of_ble_eq_true rfl) (Nat.le_of_ble_eq_true rfl) dX5_again_65 (by exact congrArg (fun z : Int => some (Value.int (iZ z))) (by rfl)) (by rfl) (by rfl)
    · exact absurd h24 (by decide)
  · have g5 := of_decide_eq_false h5
    refine lv_iload_n C.1 C.2.1 dX5_again_8 rfl (lv_at hl 3 rfl) ?_
    refine z_call C (c_X5_isNo l (z) (by first | assumption | omega | rfl | exact decide_eq_false (by omega) | exact decide_eq_true (by assumption) | exact decide_eq_true (by omega) | exact one_shl33 (by omega) | exact pm_lt _ _ | exact rm_lt (by first | assumption | exact pm_lt _ _) | exact Nat.lt_of_le_of_lt (Nat.shiftRight_le _ _) (by assumption) | exact Nat.lt_of_le_of_lt Nat.and_le_right (by omega))) ml_X5_67 ⟨by decide, by decide⟩ ⟨Nat.le_of_ble_eq_true rfl, Nat.le_of_ble_eq_true rfl⟩ hl (Nat.le_of_ble_eq_true rfl) rfl dX5_again_9 ?_
    refine z_ifB_eq (tgt := 19) C dX5_again_12 (by decide) (fun h12 => ?_) (fun h12 => ?_)
    · have g12 := of_decide_eq_false h12
      refine z_iconst C dX5_again_19 ?_
      refine z_iconst C dX5_again_20 ?_
      exfalso; omega
    · have g12 := of_decide_eq_true h12
      refine z_iconst C dX5_again_15 ?_
      refine lv_goto (tgt := 20) C.1 C.2.1 dX5_again_16 (by decide) ?_
      refine z_iconst C dX5_again_20 ?_
      refine zo_callD C B (r := some (.int (iZ (zB (true))))) (c_X5_start_bad l D cJ o a (c) (th) (ac) (re) (kn) (true) (1 : Int) (by first | assumption | omega | rfl | exact decide_eq_false (by omega) | exact decide_eq_true (by assumption) | exact decide_eq_true (by omega) | exact one_shl33 (by omega) | exact pm_lt _ _ | exact rm_lt (by first | assumption | exact pm_lt _ _) | exact Nat.lt_of_le_of_lt (Nat.shiftRight_le _ _) (by assumption) | exact Nat.lt_of_le_of_lt Nat.and_le_right (by omega)) (by first | assumption | omega | rfl | exact decide_eq_false (by omega) | exact decide_eq_true (by assumption) | exact decide_eq_true (by omega) | exact one_shl33 (by omega) | exact pm_lt _ _ | exact rm_lt (by first | assumption | exact pm_lt _ _) | exact Nat.lt_of_le_of_lt (Nat.shiftRight_le _ _) (by assumption) | exact Nat.lt_of_le_of_lt Nat.and_le_right (by omega))) ml_X5_71 rfl ⟨Nat.le_of_ble_eq_true rfl, Nat.le_of_ble_eq_true rfl⟩ ⟨Nat.le_of_ble_eq_true rfl, Nat.le_of_ble_eq_true rfl⟩ hl (Nat.le_of_ble_eq_true rfl) rfl dX5_again_21 (fun H locs B => ?_)
      refine z_ifB_ne (tgt := 50) C dX5_again_24 (by decide) (fun h24 => ?_) (fun h24 => ?_)
      · refine z_iconst C dX5_again_50 ?_
        refine lv_goto (tgt := 65) C.1 C.2.1 dX5_again_51 (by decide) ?_
        exact zo_iret C B hr hk (Nat.le_of_ble_eq_true rfl) (Nat.le_of_ble_eq_true rfl) dX5_again_65 (by exact congrArg (fun z : Int => some (Value.int (iZ z))) (by rfl)) (by rfl) (by rfl)
      · exact absurd h24 (by decide)

set_option maxHeartbeats 4000000 in
set_option maxRecDepth 100000 in
theorem c_X5_again_bad2 (l : Launch) (D : va_G) (cJ : ClassId) (o a : Nat) (c : Nat → Nat) (th : Int) (ac : Int32) (re : Int32) (kn : Int32) (f : Int) (r : Int) (z : Int) (r9f : -2147483648 ≤ f ∧ f ≤ 2147483647) (r9r : -2147483648 ≤ r ∧ r ≤ 2147483647) (r9z : -2147483648 ≤ z ∧ z ≤ 2147483647) (hcel : (0 ≤ f ∧ f ≤ 5) ∧ (0 ≤ z ∧ z ≤ 5)) (hbad : ¬ ((2 ≤ r ∧ r ≤ 36))) : zA l yX5_again 2 67 0 0 D 4 cJ o a [.int (iZ (f)), .int (iZ (r)), .int (iZ (z))] c [.int (iZ (th)), .int (ac), .int (re), .int (kn)] (fun v => v = some (.int (iZ (0)))) (c) [.int (iZ (2)), .int (ac), .int (re), .int (kn)] := by
  refine zA.intro (lo := 44) (nA := 3) (own := RX5) zi_X5_again (by decide) rfl rfl (by decide +kernel) rfl (Nat.le_of_ble_eq_true rfl) ?_
  intro p e s m below meth c0 ls C hr hk B hl
  have hl : lv_has ls 4 [(0, .ref o), (1, .int (iZ (f))), (2, .int (iZ (r))), (3, .int (iZ (z)))] := hl
  refine lv_aload_n C.1 C.2.1 dX5_again_0 rfl (lv_at hl 0 rfl) ?_
  refine lv_iload_n C.1 C.2.1 dX5_again_1 rfl (lv_at hl 1 rfl) ?_
  refine z_call C (c_X5_isNo l (f) (by first | assumption | omega | rfl | exact decide_eq_false (by omega) | exact decide_eq_true (by assumption) | exact decide_eq_true (by omega) | exact one_shl33 (by omega) | exact pm_lt _ _ | exact rm_lt (by first | assumption | exact pm_lt _ _) | exact Nat.lt_of_le_of_lt (Nat.shiftRight_le _ _) (by assumption) | exact Nat.lt_of_le_of_lt Nat.and_le_right (by omega))) ml_X5_67 ⟨by decide, by decide⟩ ⟨Nat.le_of_ble_eq_true rfl, Nat.le_of_ble_eq_true rfl⟩ hl (Nat.le_of_ble_eq_true rfl) rfl dX5_again_2 ?_
  refine z_ifB_ne (tgt := 15) C dX5_again_5 (by decide) (fun h5 => ?_) (fun h5 => ?_)
  · exact absurd (of_decide_eq_true h5) (by omega)
  · refine lv_iload_n C.1 C.2.1 dX5_again_8 rfl (lv_at hl 3 rfl) ?_
    refine z_call C (c_X5_isNo l (z) (by first | assumption | omega | rfl | exact decide_eq_false (by omega) | exact decide_eq_true (by assumption) | exact decide_eq_true (by omega) | exact one_shl33 (by omega) | exact pm_lt _ _ | exact rm_lt (by first | assumption | exact pm_lt _ _) | exact Nat.lt_of_le_of_lt (Nat.shiftRight_le _ _) (by assumption) | exact Nat.lt_of_le_of_lt Nat.and_le_right (by omega))) ml_X5_67 ⟨by decide, by decide⟩ ⟨Nat.le_of_ble_eq_true rfl, Nat.le_of_ble_eq_true rfl⟩ hl (Nat.le_of_ble_eq_true rfl) rfl dX5_again_9 ?_
    refine z_ifB_eq (tgt := 19) C dX5_again_12 (by decide) (fun h12 => ?_) (fun h12 => ?_)
    · refine z_iconst C dX5_again_19 ?_
      refine z_iconst C dX5_again_20 ?_
      refine zo_callD C B (r := some (.int (iZ (zB (false))))) (c_X5_start_ok l D cJ o a (c) (th) (ac) (re) (kn) (false) (1 : Int) (by first | assumption | omega | rfl | exact decide_eq_false (by omega) | exact decide_eq_true (by assumption) | exact decide_eq_true (by omega) | exact one_shl33 (by omega) | exact pm_lt _ _ | exact rm_lt (by first | assumption | exact pm_lt _ _) | exact Nat.lt_of_le_of_lt (Nat.shiftRight_le _ _) (by assumption) | exact Nat.lt_of_le_of_lt Nat.and_le_right (by omega))) ml_X5_71 rfl ⟨Nat.le_of_ble_eq_true rfl, Nat.le_of_ble_eq_true rfl⟩ ⟨Nat.le_of_ble_eq_true rfl, Nat.le_of_ble_eq_true rfl⟩ hl (Nat.le_of_ble_eq_true rfl) rfl dX5_again_21 (fun H locs B => ?_)
      refine z_ifB_ne (tgt := 50) C dX5_again_24 (by decide) (fun h24 => ?_) (fun h24 => ?_)
      · exact absurd h24 (by decide)
      · refine lv_aload_n C.1 C.2.1 dX5_again_27 rfl (lv_at hl 0 rfl) ?_
        refine lv_iload_n C.1 C.2.1 dX5_again_28 rfl (lv_at hl 2 rfl) ?_
        refine z_iconst C dX5_again_29 ?_
        refine z_bipush C dX5_again_30 (by decide) ?_
        refine z_call C (c_X5_isIn l (r) (2 : Int) (36 : Int) (by first | assumption | omega | rfl | exact decide_eq_false (by omega) | exact decide_eq_true (by assumption) | exact decide_eq_true (by omega) | exact one_shl33 (by omega) | exact pm_lt _ _ | exact rm_lt (by first | assumption | exact pm_lt _ _) | exact Nat.lt_of_le_of_lt (Nat.shiftRight_le _ _) (by assumption) | exact Nat.lt_of_le_of_lt Nat.and_le_right (by omega)) (by first | assumption | omega | rfl | exact decide_eq_false (by omega) | exact decide_eq_true (by assumption) | exact decide_eq_true (by omega) | exact one_shl33 (by omega) | exact pm_lt _ _ | exact rm_lt (by first | assumption | exact pm_lt _ _) | exact Nat.lt_of_le_of_lt (Nat.shiftRight_le _ _) (by assumption) | exact Nat.lt_of_le_of_lt Nat.and_le_right (by omega)) (by first | assumption | omega | rfl | exact decide_eq_false (by omega) | exact decide_eq_true (by assumption) | exact decide_eq_true (by omega) | exact one_shl33 (by omega) | exact pm_lt _ _ | exact rm_lt (by first | assumption | exact pm_lt _ _) | exact Nat.lt_of_le_of_lt (Nat.shiftRight_le _ _) (by assumption) | exact Nat.lt_of_le_of_lt Nat.and_le_right (by omega))) ml_X5_21 ⟨by decide, by decide⟩ ⟨Nat.le_of_ble_eq_true rfl, Nat.le_of_ble_eq_true rfl⟩ hl (Nat.le_of_ble_eq_true rfl) rfl dX5_again_32 ?_
        refine z_ifB_ne (tgt := 42) C dX5_again_35 (by decide) (fun h35 => ?_) (fun h35 => ?_)
        · have g35 := of_decide_eq_true h35
          refine z_iconst C dX5_again_42 ?_
          refine z_iconst C dX5_again_43 ?_
          exfalso; omega
        · have g35 := of_decide_eq_false h35
          refine z_iconst C dX5_again_38 ?_
          refine lv_goto (tgt := 43) C.1 C.2.1 dX5_again_39 (by decide) ?_
          refine z_iconst C dX5_again_43 ?_
          refine zo_callD C B (r := some (.int (iZ (zB (true))))) (c_X5_refuse_bad l D cJ o a (c) (0) ((ac)) ((re)) ((kn)) (true) (2 : Int) (by first | assumption | omega | rfl | exact decide_eq_false (by omega) | exact decide_eq_true (by assumption) | exact decide_eq_true (by omega) | exact one_shl33 (by omega) | exact pm_lt _ _ | exact rm_lt (by first | assumption | exact pm_lt _ _) | exact Nat.lt_of_le_of_lt (Nat.shiftRight_le _ _) (by assumption) | exact Nat.lt_of_le_of_lt Nat.and_le_right (by omega)) (by first | assumption | omega | rfl | exact decide_eq_false (by omega) | exact decide_eq_true (by assumption) | exact decide_eq_true (by omega) | exact one_shl33 (by omega) | exact pm_lt _ _ | exact rm_lt (by first | assumption | exact pm_lt _ _) | exact Nat.lt_of_le_of_lt (Nat.shiftRight_le _ _) (by assumption) | exact Nat.lt_of_le_of_lt Nat.and_le_right (by omega)) (by first | assumption | omega | rfl | exact decide_eq_false (by omega) | exact decide_eq_true (by assumption) | exact decide_eq_true (by omega) | exact one_shl33 (by omega) | exact pm_lt _ _ | exact rm_lt (by first | assumption | exact pm_lt _ _) | exact Nat.lt_of_le_of_lt (Nat.shiftRight_le _ _) (by assumption) | exact Nat.lt_of_le_of_lt Nat.and_le_right (by omega))) ml_X5_17 rfl ⟨Nat.le_of_ble_eq_true rfl, Nat.le_of_ble_eq_true rfl⟩ ⟨Nat.le_of_ble_eq_true rfl, Nat.le_of_ble_eq_true rfl⟩ hl (Nat.le_of_ble_eq_true rfl) rfl dX5_again_44 (fun H locs B => ?_)
          refine z_ifB_eq (tgt := 54) C dX5_again_47 (by decide) (fun h47 => ?_) (fun h47 => ?_)
          · exact absurd h47 (by decide)
          · refine z_iconst C dX5_again_50 ?_
            refine lv_goto (tgt := 65) C.1 C.2.1 dX5_again_51 (by decide) ?_
            exact zo_iret C B hr hk (Nat.le_of_ble_eq_true rfl) (Nat.le_of_ble_eq_true rfl) dX5_again_65 (by exact congrArg (fun z : Int => some (Value.int (iZ z))) (by rfl)) (by rfl) (by rfl)
    · exact absurd (of_decide_eq_true h12) (by omega)

set_option maxHeartbeats 4000000 in
set_option maxRecDepth 100000 in
theorem c_X5_degree_bad1 (l : Launch) (D : va_G) (cJ : ClassId) (o a : Nat) (c : Nat → Nat) (th : Int) (ac : Int32) (re : Int32) (kn : Int32) (z : Int) (r9z : -2147483648 ≤ z ∧ z ≤ 2147483647) (hbad : ¬ ((0 ≤ z ∧ z ≤ 5))) : zA l yX5_degree 2 65 0 0 D 4 cJ o a [.int (iZ (z))] c [.int (iZ (th)), .int (ac), .int (re), .int (kn)] (fun v => v = some (.int (iZ (0)))) (c) [.int (iZ (1)), .int (ac), .int (re), .int (kn)] := by
  refine zA.intro (lo := 44) (nA := 1) (own := RX5) zi_X5_degree (by decide) rfl rfl (by decide +kernel) rfl (Nat.le_of_ble_eq_true rfl) ?_
  intro p e s m below meth c0 ls C hr hk B hl
  have hl : lv_has ls 2 [(0, .ref o), (1, .int (iZ (z)))] := hl
  refine lv_aload_n C.1 C.2.1 dX5_degree_0 rfl (lv_at hl 0 rfl) ?_
  refine lv_iload_n C.1 C.2.1 dX5_degree_1 rfl (lv_at hl 1 rfl) ?_
  refine z_call C (c_X5_isNo l (z) (by first | assumption | omega | rfl | exact decide_eq_false (by omega) | exact decide_eq_true (by assumption) | exact decide_eq_true (by omega) | exact one_shl33 (by omega) | exact pm_lt _ _ | exact rm_lt (by first | assumption | exact pm_lt _ _) | exact Nat.lt_of_le_of_lt (Nat.shiftRight_le _ _) (by assumption) | exact Nat.lt_of_le_of_lt Nat.and_le_right (by omega))) ml_X5_67 ⟨by decide, by decide⟩ ⟨Nat.le_of_ble_eq_true rfl, Nat.le_of_ble_eq_true rfl⟩ hl (Nat.le_of_ble_eq_true rfl) rfl dX5_degree_2 ?_
  refine z_iconst C dX5_degree_5 ?_
  refine zo_callD C B (r := some (.int (iZ (zB (true))))) (c_X5_start_bad l D cJ o a (c) (th) (ac) (re) (kn) (decide (¬ (0 ≤ (z) ∧ (z) ≤ 5))) (1 : Int) (by first | assumption | omega | rfl | exact decide_eq_false (by omega) | exact decide_eq_true (by assumption) | exact decide_eq_true (by omega) | exact one_shl33 (by omega) | exact pm_lt _ _ | exact rm_lt (by first | assumption | exact pm_lt _ _) | exact Nat.lt_of_le_of_lt (Nat.shiftRight_le _ _) (by assumption) | exact Nat.lt_of_le_of_lt Nat.and_le_right (by omega)) (by first | assumption | omega | rfl | exact decide_eq_false (by omega) | exact decide_eq_true (by assumption) | exact decide_eq_true (by omega) | exact one_shl33 (by omega) | exact pm_lt _ _ | exact rm_lt (by first | assumption | exact pm_lt _ _) | exact Nat.lt_of_le_of_lt (Nat.shiftRight_le _ _) (by assumption) | exact Nat.lt_of_le_of_lt Nat.and_le_right (by omega))) ml_X5_71 rfl ⟨Nat.le_of_ble_eq_true rfl, Nat.le_of_ble_eq_true rfl⟩ ⟨Nat.le_of_ble_eq_true rfl, Nat.le_of_ble_eq_true rfl⟩ hl (Nat.le_of_ble_eq_true rfl) rfl dX5_degree_6 (fun H locs B => ?_)
  refine z_ifB_eq (tgt := 16) C dX5_degree_9 (by decide) (fun h9 => ?_) (fun h9 => ?_)
  · exact absurd h9 (by decide)
  · refine z_iconst C dX5_degree_12 ?_
    refine lv_goto (tgt := 25) C.1 C.2.1 dX5_degree_13 (by decide) ?_
    exact zo_iret C B hr hk (Nat.le_of_ble_eq_true rfl) (Nat.le_of_ble_eq_true rfl) dX5_degree_25 (by exact congrArg (fun z : Int => some (Value.int (iZ z))) (by rfl)) (by rfl) (by rfl)

set_option maxHeartbeats 4000000 in
set_option maxRecDepth 100000 in
theorem c_X5_low_bad1 (l : Launch) (D : va_G) (cJ : ClassId) (o a : Nat) (c : Nat → Nat) (th : Int) (ac : Int32) (re : Int32) (kn : Int32) (z : Int) (r9z : -2147483648 ≤ z ∧ z ≤ 2147483647) (hbad : ¬ ((0 ≤ z ∧ z ≤ 5))) : zA l yX5_low 2 65 0 0 D 4 cJ o a [.int (iZ (z))] c [.int (iZ (th)), .int (ac), .int (re), .int (kn)] (fun v => v = some (.int (iZ (0)))) (c) [.int (iZ (1)), .int (ac), .int (re), .int (kn)] := by
  refine zA.intro (lo := 44) (nA := 1) (own := RX5) zi_X5_low (by decide) rfl rfl (by decide +kernel) rfl (Nat.le_of_ble_eq_true rfl) ?_
  intro p e s m below meth c0 ls C hr hk B hl
  have hl : lv_has ls 2 [(0, .ref o), (1, .int (iZ (z)))] := hl
  refine lv_aload_n C.1 C.2.1 dX5_low_0 rfl (lv_at hl 0 rfl) ?_
  refine lv_iload_n C.1 C.2.1 dX5_low_1 rfl (lv_at hl 1 rfl) ?_
  refine z_call C (c_X5_isNo l (z) (by first | assumption | omega | rfl | exact decide_eq_false (by omega) | exact decide_eq_true (by assumption) | exact decide_eq_true (by omega) | exact one_shl33 (by omega) | exact pm_lt _ _ | exact rm_lt (by first | assumption | exact pm_lt _ _) | exact Nat.lt_of_le_of_lt (Nat.shiftRight_le _ _) (by assumption) | exact Nat.lt_of_le_of_lt Nat.and_le_right (by omega))) ml_X5_67 ⟨by decide, by decide⟩ ⟨Nat.le_of_ble_eq_true rfl, Nat.le_of_ble_eq_true rfl⟩ hl (Nat.le_of_ble_eq_true rfl) rfl dX5_low_2 ?_
  refine z_iconst C dX5_low_5 ?_
  refine zo_callD C B (r := some (.int (iZ (zB (true))))) (c_X5_start_bad l D cJ o a (c) (th) (ac) (re) (kn) (decide (¬ (0 ≤ (z) ∧ (z) ≤ 5))) (1 : Int) (by first | assumption | omega | rfl | exact decide_eq_false (by omega) | exact decide_eq_true (by assumption) | exact decide_eq_true (by omega) | exact one_shl33 (by omega) | exact pm_lt _ _ | exact rm_lt (by first | assumption | exact pm_lt _ _) | exact Nat.lt_of_le_of_lt (Nat.shiftRight_le _ _) (by assumption) | exact Nat.lt_of_le_of_lt Nat.and_le_right (by omega)) (by first | assumption | omega | rfl | exact decide_eq_false (by omega) | exact decide_eq_true (by assumption) | exact decide_eq_true (by omega) | exact one_shl33 (by omega) | exact pm_lt _ _ | exact rm_lt (by first | assumption | exact pm_lt _ _) | exact Nat.lt_of_le_of_lt (Nat.shiftRight_le _ _) (by assumption) | exact Nat.lt_of_le_of_lt Nat.and_le_right (by omega))) ml_X5_71 rfl ⟨Nat.le_of_ble_eq_true rfl, Nat.le_of_ble_eq_true rfl⟩ ⟨Nat.le_of_ble_eq_true rfl, Nat.le_of_ble_eq_true rfl⟩ hl (Nat.le_of_ble_eq_true rfl) rfl dX5_low_6 (fun H locs B => ?_)
  refine z_ifB_eq (tgt := 16) C dX5_low_9 (by decide) (fun h9 => ?_) (fun h9 => ?_)
  · exact absurd h9 (by decide)
  · refine z_iconst C dX5_low_12 ?_
    refine lv_goto (tgt := 25) C.1 C.2.1 dX5_low_13 (by decide) ?_
    exact zo_iret C B hr hk (Nat.le_of_ble_eq_true rfl) (Nat.le_of_ble_eq_true rfl) dX5_low_25 (by exact congrArg (fun z : Int => some (Value.int (iZ z))) (by rfl)) (by rfl) (by rfl)

set_option maxHeartbeats 4000000 in
set_option maxRecDepth 100000 in
theorem c_X5_weight_bad1 (l : Launch) (D : va_G) (cJ : ClassId) (o a : Nat) (c : Nat → Nat) (th : Int) (ac : Int32) (re : Int32) (kn : Int32) (z : Int) (r9z : -2147483648 ≤ z ∧ z ≤ 2147483647) (hbad : ¬ ((0 ≤ z ∧ z ≤ 5))) : zA l yX5_weight 2 65 0 0 D 4 cJ o a [.int (iZ (z))] c [.int (iZ (th)), .int (ac), .int (re), .int (kn)] (fun v => v = some (.int (iZ (0)))) (c) [.int (iZ (1)), .int (ac), .int (re), .int (kn)] := by
  refine zA.intro (lo := 44) (nA := 1) (own := RX5) zi_X5_weight (by decide) rfl rfl (by decide +kernel) rfl (Nat.le_of_ble_eq_true rfl) ?_
  intro p e s m below meth c0 ls C hr hk B hl
  have hl : lv_has ls 2 [(0, .ref o), (1, .int (iZ (z)))] := hl
  refine lv_aload_n C.1 C.2.1 dX5_weight_0 rfl (lv_at hl 0 rfl) ?_
  refine lv_iload_n C.1 C.2.1 dX5_weight_1 rfl (lv_at hl 1 rfl) ?_
  refine z_call C (c_X5_isNo l (z) (by first | assumption | omega | rfl | exact decide_eq_false (by omega) | exact decide_eq_true (by assumption) | exact decide_eq_true (by omega) | exact one_shl33 (by omega) | exact pm_lt _ _ | exact rm_lt (by first | assumption | exact pm_lt _ _) | exact Nat.lt_of_le_of_lt (Nat.shiftRight_le _ _) (by assumption) | exact Nat.lt_of_le_of_lt Nat.and_le_right (by omega))) ml_X5_67 ⟨by decide, by decide⟩ ⟨Nat.le_of_ble_eq_true rfl, Nat.le_of_ble_eq_true rfl⟩ hl (Nat.le_of_ble_eq_true rfl) rfl dX5_weight_2 ?_
  refine z_iconst C dX5_weight_5 ?_
  refine zo_callD C B (r := some (.int (iZ (zB (true))))) (c_X5_start_bad l D cJ o a (c) (th) (ac) (re) (kn) (decide (¬ (0 ≤ (z) ∧ (z) ≤ 5))) (1 : Int) (by first | assumption | omega | rfl | exact decide_eq_false (by omega) | exact decide_eq_true (by assumption) | exact decide_eq_true (by omega) | exact one_shl33 (by omega) | exact pm_lt _ _ | exact rm_lt (by first | assumption | exact pm_lt _ _) | exact Nat.lt_of_le_of_lt (Nat.shiftRight_le _ _) (by assumption) | exact Nat.lt_of_le_of_lt Nat.and_le_right (by omega)) (by first | assumption | omega | rfl | exact decide_eq_false (by omega) | exact decide_eq_true (by assumption) | exact decide_eq_true (by omega) | exact one_shl33 (by omega) | exact pm_lt _ _ | exact rm_lt (by first | assumption | exact pm_lt _ _) | exact Nat.lt_of_le_of_lt (Nat.shiftRight_le _ _) (by assumption) | exact Nat.lt_of_le_of_lt Nat.and_le_right (by omega))) ml_X5_71 rfl ⟨Nat.le_of_ble_eq_true rfl, Nat.le_of_ble_eq_true rfl⟩ ⟨Nat.le_of_ble_eq_true rfl, Nat.le_of_ble_eq_true rfl⟩ hl (Nat.le_of_ble_eq_true rfl) rfl dX5_weight_6 (fun H locs B => ?_)
  refine z_ifB_eq (tgt := 16) C dX5_weight_9 (by decide) (fun h9 => ?_) (fun h9 => ?_)
  · exact absurd h9 (by decide)
  · refine z_iconst C dX5_weight_12 ?_
    refine lv_goto (tgt := 25) C.1 C.2.1 dX5_weight_13 (by decide) ?_
    exact zo_iret C B hr hk (Nat.le_of_ble_eq_true rfl) (Nat.le_of_ble_eq_true rfl) dX5_weight_25 (by exact congrArg (fun z : Int => some (Value.int (iZ z))) (by rfl)) (by rfl) (by rfl)

set_option maxHeartbeats 4000000 in
set_option maxRecDepth 100000 in
theorem c_X5_digits_bad1 (l : Launch) (D : va_G) (cJ : ClassId) (o a : Nat) (c : Nat → Nat) (th : Int) (ac : Int32) (re : Int32) (kn : Int32) (z : Int) (r9z : -2147483648 ≤ z ∧ z ≤ 2147483647) (hbad : ¬ ((0 ≤ z ∧ z ≤ 5))) : zA l yX5_digits 2 65 0 0 D 4 cJ o a [.int (iZ (z))] c [.int (iZ (th)), .int (ac), .int (re), .int (kn)] (fun v => v = some (.int (iZ (0)))) (c) [.int (iZ (1)), .int (ac), .int (re), .int (kn)] := by
  refine zA.intro (lo := 44) (nA := 1) (own := RX5) zi_X5_digits (by decide) rfl rfl (by decide +kernel) rfl (Nat.le_of_ble_eq_true rfl) ?_
  intro p e s m below meth c0 ls C hr hk B hl
  have hl : lv_has ls 2 [(0, .ref o), (1, .int (iZ (z)))] := hl
  refine lv_aload_n C.1 C.2.1 dX5_digits_0 rfl (lv_at hl 0 rfl) ?_
  refine lv_iload_n C.1 C.2.1 dX5_digits_1 rfl (lv_at hl 1 rfl) ?_
  refine z_call C (c_X5_isNo l (z) (by first | assumption | omega | rfl | exact decide_eq_false (by omega) | exact decide_eq_true (by assumption) | exact decide_eq_true (by omega) | exact one_shl33 (by omega) | exact pm_lt _ _ | exact rm_lt (by first | assumption | exact pm_lt _ _) | exact Nat.lt_of_le_of_lt (Nat.shiftRight_le _ _) (by assumption) | exact Nat.lt_of_le_of_lt Nat.and_le_right (by omega))) ml_X5_67 ⟨by decide, by decide⟩ ⟨Nat.le_of_ble_eq_true rfl, Nat.le_of_ble_eq_true rfl⟩ hl (Nat.le_of_ble_eq_true rfl) rfl dX5_digits_2 ?_
  refine z_iconst C dX5_digits_5 ?_
  refine zo_callD C B (r := some (.int (iZ (zB (true))))) (c_X5_start_bad l D cJ o a (c) (th) (ac) (re) (kn) (decide (¬ (0 ≤ (z) ∧ (z) ≤ 5))) (1 : Int) (by first | assumption | omega | rfl | exact decide_eq_false (by omega) | exact decide_eq_true (by assumption) | exact decide_eq_true (by omega) | exact one_shl33 (by omega) | exact pm_lt _ _ | exact rm_lt (by first | assumption | exact pm_lt _ _) | exact Nat.lt_of_le_of_lt (Nat.shiftRight_le _ _) (by assumption) | exact Nat.lt_of_le_of_lt Nat.and_le_right (by omega)) (by first | assumption | omega | rfl | exact decide_eq_false (by omega) | exact decide_eq_true (by assumption) | exact decide_eq_true (by omega) | exact one_shl33 (by omega) | exact pm_lt _ _ | exact rm_lt (by first | assumption | exact pm_lt _ _) | exact Nat.lt_of_le_of_lt (Nat.shiftRight_le _ _) (by assumption) | exact Nat.lt_of_le_of_lt Nat.and_le_right (by omega))) ml_X5_71 rfl ⟨Nat.le_of_ble_eq_true rfl, Nat.le_of_ble_eq_true rfl⟩ ⟨Nat.le_of_ble_eq_true rfl, Nat.le_of_ble_eq_true rfl⟩ hl (Nat.le_of_ble_eq_true rfl) rfl dX5_digits_6 (fun H locs B => ?_)
  refine z_ifB_eq (tgt := 16) C dX5_digits_9 (by decide) (fun h9 => ?_) (fun h9 => ?_)
  · exact absurd h9 (by decide)
  · refine z_iconst C dX5_digits_12 ?_
    refine lv_goto (tgt := 23) C.1 C.2.1 dX5_digits_13 (by decide) ?_
    exact zo_iret C B hr hk (Nat.le_of_ble_eq_true rfl) (Nat.le_of_ble_eq_true rfl) dX5_digits_23 (by exact congrArg (fun z : Int => some (Value.int (iZ z))) (by rfl)) (by rfl) (by rfl)

set_option maxHeartbeats 4000000 in
set_option maxRecDepth 100000 in
theorem c_X5_at_bad1 (l : Launch) (D : va_G) (cJ : ClassId) (o a : Nat) (c : Nat → Nat) (th : Int) (ac : Int32) (re : Int32) (kn : Int32) (z : Int) (g : Int) (r9z : -2147483648 ≤ z ∧ z ≤ 2147483647) (r9g : -2147483648 ≤ g ∧ g ≤ 2147483647) (hbad : ¬ ((0 ≤ z ∧ z ≤ 5))) : zA l yX5_at 2 66 0 0 D 4 cJ o a [.int (iZ (z)), .int (iZ (g))] c [.int (iZ (th)), .int (ac), .int (re), .int (kn)] (fun v => v = some (.int (iZ (0)))) (c) [.int (iZ (1)), .int (ac), .int (re), .int (kn)] := by
  refine zA.intro (lo := 44) (nA := 2) (own := RX5) zi_X5_at (by decide) rfl rfl (by decide +kernel) rfl (Nat.le_of_ble_eq_true rfl) ?_
  intro p e s m below meth c0 ls C hr hk B hl
  have hl : lv_has ls 3 [(0, .ref o), (1, .int (iZ (z))), (2, .int (iZ (g)))] := hl
  refine lv_aload_n C.1 C.2.1 dX5_at_0 rfl (lv_at hl 0 rfl) ?_
  refine lv_iload_n C.1 C.2.1 dX5_at_1 rfl (lv_at hl 1 rfl) ?_
  refine z_call C (c_X5_isNo l (z) (by first | assumption | omega | rfl | exact decide_eq_false (by omega) | exact decide_eq_true (by assumption) | exact decide_eq_true (by omega) | exact one_shl33 (by omega) | exact pm_lt _ _ | exact rm_lt (by first | assumption | exact pm_lt _ _) | exact Nat.lt_of_le_of_lt (Nat.shiftRight_le _ _) (by assumption) | exact Nat.lt_of_le_of_lt Nat.and_le_right (by omega))) ml_X5_67 ⟨by decide, by decide⟩ ⟨Nat.le_of_ble_eq_true rfl, Nat.le_of_ble_eq_true rfl⟩ hl (Nat.le_of_ble_eq_true rfl) rfl dX5_at_2 ?_
  refine z_iconst C dX5_at_5 ?_
  refine zo_callD C B (r := some (.int (iZ (zB (true))))) (c_X5_start_bad l D cJ o a (c) (th) (ac) (re) (kn) (decide (¬ (0 ≤ (z) ∧ (z) ≤ 5))) (1 : Int) (by first | assumption | omega | rfl | exact decide_eq_false (by omega) | exact decide_eq_true (by assumption) | exact decide_eq_true (by omega) | exact one_shl33 (by omega) | exact pm_lt _ _ | exact rm_lt (by first | assumption | exact pm_lt _ _) | exact Nat.lt_of_le_of_lt (Nat.shiftRight_le _ _) (by assumption) | exact Nat.lt_of_le_of_lt Nat.and_le_right (by omega)) (by first | assumption | omega | rfl | exact decide_eq_false (by omega) | exact decide_eq_true (by assumption) | exact decide_eq_true (by omega) | exact one_shl33 (by omega) | exact pm_lt _ _ | exact rm_lt (by first | assumption | exact pm_lt _ _) | exact Nat.lt_of_le_of_lt (Nat.shiftRight_le _ _) (by assumption) | exact Nat.lt_of_le_of_lt Nat.and_le_right (by omega))) ml_X5_71 rfl ⟨Nat.le_of_ble_eq_true rfl, Nat.le_of_ble_eq_true rfl⟩ ⟨Nat.le_of_ble_eq_true rfl, Nat.le_of_ble_eq_true rfl⟩ hl (Nat.le_of_ble_eq_true rfl) rfl dX5_at_6 (fun H locs B => ?_)
  refine z_ifB_ne (tgt := 52) C dX5_at_9 (by decide) (fun h9 => ?_) (fun h9 => ?_)
  · refine z_iconst C dX5_at_52 ?_
    exact zo_zret C B hr hk (Nat.le_of_ble_eq_true rfl) (Nat.le_of_ble_eq_true rfl) dX5_at_53 (by decide) (by exact congrArg (fun z : Int => some (Value.int (iZ z))) (by rfl)) (by rfl) (by rfl)
  · exact absurd h9 (by decide)

set_option maxHeartbeats 4000000 in
set_option maxRecDepth 100000 in
theorem c_X5_at_bad2 (l : Launch) (D : va_G) (cJ : ClassId) (o a : Nat) (c : Nat → Nat) (th : Int) (ac : Int32) (re : Int32) (kn : Int32) (z : Int) (g : Int) (r9z : -2147483648 ≤ z ∧ z ≤ 2147483647) (r9g : -2147483648 ≤ g ∧ g ≤ 2147483647) (hcel : (0 ≤ z ∧ z ≤ 5)) (hbad : ¬ ((0 ≤ g ∧ g ≤ 99))) : zA l yX5_at 2 66 0 0 D 4 cJ o a [.int (iZ (z)), .int (iZ (g))] c [.int (iZ (th)), .int (ac), .int (re), .int (kn)] (fun v => v = some (.int (iZ (0)))) (c) [.int (iZ (2)), .int (ac), .int (re), .int (kn)] := by
  refine zA.intro (lo := 44) (nA := 2) (own := RX5) zi_X5_at (by decide) rfl rfl (by decide +kernel) rfl (Nat.le_of_ble_eq_true rfl) ?_
  intro p e s m below meth c0 ls C hr hk B hl
  have hl : lv_has ls 3 [(0, .ref o), (1, .int (iZ (z))), (2, .int (iZ (g)))] := hl
  refine lv_aload_n C.1 C.2.1 dX5_at_0 rfl (lv_at hl 0 rfl) ?_
  refine lv_iload_n C.1 C.2.1 dX5_at_1 rfl (lv_at hl 1 rfl) ?_
  refine z_call C (c_X5_isNo l (z) (by first | assumption | omega | rfl | exact decide_eq_false (by omega) | exact decide_eq_true (by assumption) | exact decide_eq_true (by omega) | exact one_shl33 (by omega) | exact pm_lt _ _ | exact rm_lt (by first | assumption | exact pm_lt _ _) | exact Nat.lt_of_le_of_lt (Nat.shiftRight_le _ _) (by assumption) | exact Nat.lt_of_le_of_lt Nat.and_le_right (by omega))) ml_X5_67 ⟨by decide, by decide⟩ ⟨Nat.le_of_ble_eq_true rfl, Nat.le_of_ble_eq_true rfl⟩ hl (Nat.le_of_ble_eq_true rfl) rfl dX5_at_2 ?_
  refine z_iconst C dX5_at_5 ?_
  refine zo_callD C B (r := some (.int (iZ (zB (false))))) (c_X5_start_ok l D cJ o a (c) (th) (ac) (re) (kn) (decide (¬ (0 ≤ (z) ∧ (z) ≤ 5))) (1 : Int) (by first | assumption | omega | rfl | exact decide_eq_false (by omega) | exact decide_eq_true (by assumption) | exact decide_eq_true (by omega) | exact one_shl33 (by omega) | exact pm_lt _ _ | exact rm_lt (by first | assumption | exact pm_lt _ _) | exact Nat.lt_of_le_of_lt (Nat.shiftRight_le _ _) (by assumption) | exact Nat.lt_of_le_of_lt Nat.and_le_right (by omega))) ml_X5_71 rfl ⟨Nat.le_of_ble_eq_true rfl, Nat.le_of_ble_eq_true rfl⟩ ⟨Nat.le_of_ble_eq_true rfl, Nat.le_of_ble_eq_true rfl⟩ hl (Nat.le_of_ble_eq_true rfl) rfl dX5_at_6 (fun H locs B => ?_)
  refine z_ifB_ne (tgt := 52) C dX5_at_9 (by decide) (fun h9 => ?_) (fun h9 => ?_)
  · exact absurd h9 (by decide)
  · refine lv_aload_n C.1 C.2.1 dX5_at_12 rfl (lv_at hl 0 rfl) ?_
    refine lv_iload_n C.1 C.2.1 dX5_at_13 rfl (lv_at hl 2 rfl) ?_
    refine z_iconst C dX5_at_14 ?_
    refine z_bipush C dX5_at_15 (by decide) ?_
    refine z_call C (c_X5_isIn l (g) (0 : Int) (99 : Int) (by first | assumption | omega | rfl | exact decide_eq_false (by omega) | exact decide_eq_true (by assumption) | exact decide_eq_true (by omega) | exact one_shl33 (by omega) | exact pm_lt _ _ | exact rm_lt (by first | assumption | exact pm_lt _ _) | exact Nat.lt_of_le_of_lt (Nat.shiftRight_le _ _) (by assumption) | exact Nat.lt_of_le_of_lt Nat.and_le_right (by omega)) (by first | assumption | omega | rfl | exact decide_eq_false (by omega) | exact decide_eq_true (by assumption) | exact decide_eq_true (by omega) | exact one_shl33 (by omega) | exact pm_lt _ _ | exact rm_lt (by first | assumption | exact pm_lt _ _) | exact Nat.lt_of_le_of_lt (Nat.shiftRight_le _ _) (by assumption) | exact Nat.lt_of_le_of_lt Nat.and_le_right (by omega)) (by first | assumption | omega | rfl | exact decide_eq_false (by omega) | exact decide_eq_true (by assumption) | exact decide_eq_true (by omega) | exact one_shl33 (by omega) | exact pm_lt _ _ | exact rm_lt (by first | assumption | exact pm_lt _ _) | exact Nat.lt_of_le_of_lt (Nat.shiftRight_le _ _) (by assumption) | exact Nat.lt_of_le_of_lt Nat.and_le_right (by omega))) ml_X5_21 ⟨by decide, by decide⟩ ⟨Nat.le_of_ble_eq_true rfl, Nat.le_of_ble_eq_true rfl⟩ hl (Nat.le_of_ble_eq_true rfl) rfl dX5_at_17 ?_
    refine z_ifB_ne (tgt := 27) C dX5_at_20 (by decide) (fun h20 => ?_) (fun h20 => ?_)
    · have g20 := of_decide_eq_true h20
      refine z_iconst C dX5_at_27 ?_
      refine z_iconst C dX5_at_28 ?_
      exfalso; omega
    · have g20 := of_decide_eq_false h20
      refine z_iconst C dX5_at_23 ?_
      refine lv_goto (tgt := 28) C.1 C.2.1 dX5_at_24 (by decide) ?_
      refine z_iconst C dX5_at_28 ?_
      refine zo_callD C B (r := some (.int (iZ (zB (true))))) (c_X5_refuse_bad l D cJ o a (c) (0) ((ac)) ((re)) ((kn)) (true) (2 : Int) (by first | assumption | omega | rfl | exact decide_eq_false (by omega) | exact decide_eq_true (by assumption) | exact decide_eq_true (by omega) | exact one_shl33 (by omega) | exact pm_lt _ _ | exact rm_lt (by first | assumption | exact pm_lt _ _) | exact Nat.lt_of_le_of_lt (Nat.shiftRight_le _ _) (by assumption) | exact Nat.lt_of_le_of_lt Nat.and_le_right (by omega)) (by first | assumption | omega | rfl | exact decide_eq_false (by omega) | exact decide_eq_true (by assumption) | exact decide_eq_true (by omega) | exact one_shl33 (by omega) | exact pm_lt _ _ | exact rm_lt (by first | assumption | exact pm_lt _ _) | exact Nat.lt_of_le_of_lt (Nat.shiftRight_le _ _) (by assumption) | exact Nat.lt_of_le_of_lt Nat.and_le_right (by omega)) (by first | assumption | omega | rfl | exact decide_eq_false (by omega) | exact decide_eq_true (by assumption) | exact decide_eq_true (by omega) | exact one_shl33 (by omega) | exact pm_lt _ _ | exact rm_lt (by first | assumption | exact pm_lt _ _) | exact Nat.lt_of_le_of_lt (Nat.shiftRight_le _ _) (by assumption) | exact Nat.lt_of_le_of_lt Nat.and_le_right (by omega))) ml_X5_17 rfl ⟨Nat.le_of_ble_eq_true rfl, Nat.le_of_ble_eq_true rfl⟩ ⟨Nat.le_of_ble_eq_true rfl, Nat.le_of_ble_eq_true rfl⟩ hl (Nat.le_of_ble_eq_true rfl) rfl dX5_at_29 (fun H locs B => ?_)
      refine z_ifB_ne (tgt := 52) C dX5_at_32 (by decide) (fun h32 => ?_) (fun h32 => ?_)
      · refine z_iconst C dX5_at_52 ?_
        exact zo_zret C B hr hk (Nat.le_of_ble_eq_true rfl) (Nat.le_of_ble_eq_true rfl) dX5_at_53 (by decide) (by exact congrArg (fun z : Int => some (Value.int (iZ z))) (by rfl)) (by rfl) (by rfl)
      · exact absurd h32 (by decide)

set_option maxHeartbeats 4000000 in
set_option maxRecDepth 100000 in
theorem c_X5_order_bad1 (l : Launch) (D : va_G) (cJ : ClassId) (o a : Nat) (c : Nat → Nat) (th : Int) (ac : Int32) (re : Int32) (kn : Int32) (f : Int) (z : Int) (r9f : -2147483648 ≤ f ∧ f ≤ 2147483647) (r9z : -2147483648 ≤ z ∧ z ≤ 2147483647) (hbad : ¬ ((0 ≤ f ∧ f ≤ 5) ∧ (0 ≤ z ∧ z ≤ 5))) : zA l yX5_order 2 66 0 0 D 4 cJ o a [.int (iZ (f)), .int (iZ (z))] c [.int (iZ (th)), .int (ac), .int (re), .int (kn)] (fun v => v = some (.int (iZ (0)))) (c) [.int (iZ (1)), .int (ac), .int (re), .int (kn)] := by
  refine zA.intro (lo := 44) (nA := 2) (own := RX5) zi_X5_order (by decide) rfl rfl (by decide +kernel) rfl (Nat.le_of_ble_eq_true rfl) ?_
  intro p e s m below meth c0 ls C hr hk B hl
  have hl : lv_has ls 3 [(0, .ref o), (1, .int (iZ (f))), (2, .int (iZ (z)))] := hl
  refine lv_aload_n C.1 C.2.1 dX5_order_0 rfl (lv_at hl 0 rfl) ?_
  refine lv_iload_n C.1 C.2.1 dX5_order_1 rfl (lv_at hl 1 rfl) ?_
  refine z_call C (c_X5_isNo l (f) (by first | assumption | omega | rfl | exact decide_eq_false (by omega) | exact decide_eq_true (by assumption) | exact decide_eq_true (by omega) | exact one_shl33 (by omega) | exact pm_lt _ _ | exact rm_lt (by first | assumption | exact pm_lt _ _) | exact Nat.lt_of_le_of_lt (Nat.shiftRight_le _ _) (by assumption) | exact Nat.lt_of_le_of_lt Nat.and_le_right (by omega))) ml_X5_67 ⟨by decide, by decide⟩ ⟨Nat.le_of_ble_eq_true rfl, Nat.le_of_ble_eq_true rfl⟩ hl (Nat.le_of_ble_eq_true rfl) rfl dX5_order_2 ?_
  refine z_ifB_ne (tgt := 15) C dX5_order_5 (by decide) (fun h5 => ?_) (fun h5 => ?_)
  · have g5 := of_decide_eq_true h5
    refine z_iconst C dX5_order_15 ?_
    refine lv_goto (tgt := 20) C.1 C.2.1 dX5_order_16 (by decide) ?_
    refine z_iconst C dX5_order_20 ?_
    refine zo_callD C B (r := some (.int (iZ (zB (true))))) (c_X5_start_bad l D cJ o a (c) (th) (ac) (re) (kn) (true) (1 : Int) (by first | assumption | omega | rfl | exact decide_eq_false (by omega) | exact decide_eq_true (by assumption) | exact decide_eq_true (by omega) | exact one_shl33 (by omega) | exact pm_lt _ _ | exact rm_lt (by first | assumption | exact pm_lt _ _) | exact Nat.lt_of_le_of_lt (Nat.shiftRight_le _ _) (by assumption) | exact Nat.lt_of_le_of_lt Nat.and_le_right (by omega)) (by first | assumption | omega | rfl | exact decide_eq_false (by omega) | exact decide_eq_true (by assumption) | exact decide_eq_true (by omega) | exact one_shl33 (by omega) | exact pm_lt _ _ | exact rm_lt (by first | assumption | exact pm_lt _ _) | exact Nat.lt_of_le_of_lt (Nat.shiftRight_le _ _) (by assumption) | exact Nat.lt_of_le_of_lt Nat.and_le_right (by omega))) ml_X5_71 rfl ⟨Nat.le_of_ble_eq_true rfl, Nat.le_of_ble_eq_true rfl⟩ ⟨Nat.le_of_ble_eq_true rfl, Nat.le_of_ble_eq_true rfl⟩ hl (Nat.le_of_ble_eq_true rfl) rfl dX5_order_21 (fun H locs B => ?_)
    refine z_ifB_eq (tgt := 31) C dX5_order_24 (by decide) (fun h24 => ?_) (fun h24 => ?_)
    · exact absurd h24 (by decide)
    · refine z_iconst C dX5_order_27 ?_
      refine lv_goto (tgt := 37) C.1 C.2.1 dX5_order_28 (by decide) ?_
      exact zo_iret C B hr hk (Nat.le_of_ble_eq_true rfl) (Nat.le_of_ble_eq_true rfl) dX5_order_37 (by exact congrArg (fun z : Int => some (Value.int (iZ z))) (by rfl)) (by rfl) (by rfl)
  · have g5 := of_decide_eq_false h5
    refine lv_iload_n C.1 C.2.1 dX5_order_8 rfl (lv_at hl 2 rfl) ?_
    refine z_call C (c_X5_isNo l (z) (by first | assumption | omega | rfl | exact decide_eq_false (by omega) | exact decide_eq_true (by assumption) | exact decide_eq_true (by omega) | exact one_shl33 (by omega) | exact pm_lt _ _ | exact rm_lt (by first | assumption | exact pm_lt _ _) | exact Nat.lt_of_le_of_lt (Nat.shiftRight_le _ _) (by assumption) | exact Nat.lt_of_le_of_lt Nat.and_le_right (by omega))) ml_X5_67 ⟨by decide, by decide⟩ ⟨Nat.le_of_ble_eq_true rfl, Nat.le_of_ble_eq_true rfl⟩ hl (Nat.le_of_ble_eq_true rfl) rfl dX5_order_9 ?_
    refine z_ifB_eq (tgt := 19) C dX5_order_12 (by decide) (fun h12 => ?_) (fun h12 => ?_)
    · have g12 := of_decide_eq_false h12
      refine z_iconst C dX5_order_19 ?_
      refine z_iconst C dX5_order_20 ?_
      exfalso; omega
    · have g12 := of_decide_eq_true h12
      refine z_iconst C dX5_order_15 ?_
      refine lv_goto (tgt := 20) C.1 C.2.1 dX5_order_16 (by decide) ?_
      refine z_iconst C dX5_order_20 ?_
      refine zo_callD C B (r := some (.int (iZ (zB (true))))) (c_X5_start_bad l D cJ o a (c) (th) (ac) (re) (kn) (true) (1 : Int) (by first | assumption | omega | rfl | exact decide_eq_false (by omega) | exact decide_eq_true (by assumption) | exact decide_eq_true (by omega) | exact one_shl33 (by omega) | exact pm_lt _ _ | exact rm_lt (by first | assumption | exact pm_lt _ _) | exact Nat.lt_of_le_of_lt (Nat.shiftRight_le _ _) (by assumption) | exact Nat.lt_of_le_of_lt Nat.and_le_right (by omega)) (by first | assumption | omega | rfl | exact decide_eq_false (by omega) | exact decide_eq_true (by assumption) | exact decide_eq_true (by omega) | exact one_shl33 (by omega) | exact pm_lt _ _ | exact rm_lt (by first | assumption | exact pm_lt _ _) | exact Nat.lt_of_le_of_lt (Nat.shiftRight_le _ _) (by assumption) | exact Nat.lt_of_le_of_lt Nat.and_le_right (by omega))) ml_X5_71 rfl ⟨Nat.le_of_ble_eq_true rfl, Nat.le_of_ble_eq_true rfl⟩ ⟨Nat.le_of_ble_eq_true rfl, Nat.le_of_ble_eq_true rfl⟩ hl (Nat.le_of_ble_eq_true rfl) rfl dX5_order_21 (fun H locs B => ?_)
      refine z_ifB_eq (tgt := 31) C dX5_order_24 (by decide) (fun h24 => ?_) (fun h24 => ?_)
      · exact absurd h24 (by decide)
      · refine z_iconst C dX5_order_27 ?_
        refine lv_goto (tgt := 37) C.1 C.2.1 dX5_order_28 (by decide) ?_
        exact zo_iret C B hr hk (Nat.le_of_ble_eq_true rfl) (Nat.le_of_ble_eq_true rfl) dX5_order_37 (by exact congrArg (fun z : Int => some (Value.int (iZ z))) (by rfl)) (by rfl) (by rfl)

set_option maxHeartbeats 4000000 in
set_option maxRecDepth 100000 in
theorem c_X5_isSame_bad1 (l : Launch) (D : va_G) (cJ : ClassId) (o a : Nat) (c : Nat → Nat) (th : Int) (ac : Int32) (re : Int32) (kn : Int32) (f : Int) (z : Int) (r9f : -2147483648 ≤ f ∧ f ≤ 2147483647) (r9z : -2147483648 ≤ z ∧ z ≤ 2147483647) (hbad : ¬ ((0 ≤ f ∧ f ≤ 5) ∧ (0 ≤ z ∧ z ≤ 5))) : zA l yX5_isSame 2 66 0 0 D 4 cJ o a [.int (iZ (f)), .int (iZ (z))] c [.int (iZ (th)), .int (ac), .int (re), .int (kn)] (fun v => v = some (.int (iZ (0)))) (c) [.int (iZ (1)), .int (ac), .int (re), .int (kn)] := by
  refine zA.intro (lo := 44) (nA := 2) (own := RX5) zi_X5_isSame (by decide) rfl rfl (by decide +kernel) rfl (Nat.le_of_ble_eq_true rfl) ?_
  intro p e s m below meth c0 ls C hr hk B hl
  have hl : lv_has ls 3 [(0, .ref o), (1, .int (iZ (f))), (2, .int (iZ (z)))] := hl
  refine lv_aload_n C.1 C.2.1 dX5_isSame_0 rfl (lv_at hl 0 rfl) ?_
  refine lv_iload_n C.1 C.2.1 dX5_isSame_1 rfl (lv_at hl 1 rfl) ?_
  refine z_call C (c_X5_isNo l (f) (by first | assumption | omega | rfl | exact decide_eq_false (by omega) | exact decide_eq_true (by assumption) | exact decide_eq_true (by omega) | exact one_shl33 (by omega) | exact pm_lt _ _ | exact rm_lt (by first | assumption | exact pm_lt _ _) | exact Nat.lt_of_le_of_lt (Nat.shiftRight_le _ _) (by assumption) | exact Nat.lt_of_le_of_lt Nat.and_le_right (by omega))) ml_X5_67 ⟨by decide, by decide⟩ ⟨Nat.le_of_ble_eq_true rfl, Nat.le_of_ble_eq_true rfl⟩ hl (Nat.le_of_ble_eq_true rfl) rfl dX5_isSame_2 ?_
  refine z_ifB_ne (tgt := 15) C dX5_isSame_5 (by decide) (fun h5 => ?_) (fun h5 => ?_)
  · have g5 := of_decide_eq_true h5
    refine z_iconst C dX5_isSame_15 ?_
    refine lv_goto (tgt := 20) C.1 C.2.1 dX5_isSame_16 (by decide) ?_
    refine z_iconst C dX5_isSame_20 ?_
    refine zo_callD C B (r := some (.int (iZ (zB (true))))) (c_X5_start_bad l D cJ o a (c) (th) (ac) (re) (kn) (true) (1 : Int) (by first | assumption | omega | rfl | exact decide_eq_false (by omega) | exact decide_eq_true (by assumption) | exact decide_eq_true (by omega) | exact one_shl33 (by omega) | exact pm_lt _ _ | exact rm_lt (by first | assumption | exact pm_lt _ _) | exact Nat.lt_of_le_of_lt (Nat.shiftRight_le _ _) (by assumption) | exact Nat.lt_of_le_of_lt Nat.and_le_right (by omega)) (by first | assumption | omega | rfl | exact decide_eq_false (by omega) | exact decide_eq_true (by assumption) | exact decide_eq_true (by omega) | exact one_shl33 (by omega) | exact pm_lt _ _ | exact rm_lt (by first | assumption | exact pm_lt _ _) | exact Nat.lt_of_le_of_lt (Nat.shiftRight_le _ _) (by assumption) | exact Nat.lt_of_le_of_lt Nat.and_le_right (by omega))) ml_X5_71 rfl ⟨Nat.le_of_ble_eq_true rfl, Nat.le_of_ble_eq_true rfl⟩ ⟨Nat.le_of_ble_eq_true rfl, Nat.le_of_ble_eq_true rfl⟩ hl (Nat.le_of_ble_eq_true rfl) rfl dX5_isSame_21 (fun H locs B => ?_)
    refine z_ifB_ne (tgt := 47) C dX5_isSame_24 (by decide) (fun h24 => ?_) (fun h24 => ?_)
    · refine z_iconst C dX5_isSame_47 ?_
      exact zo_zret C B hr hk (Nat.le_of_ble_eq_true rfl) (Nat.le_of_ble_eq_true rfl) dX5_isSame_48 (by decide) (by exact congrArg (fun z : Int => some (Value.int (iZ z))) (by rfl)) (by rfl) (by rfl)
    · exact absurd h24 (by decide)
  · have g5 := of_decide_eq_false h5
    refine lv_iload_n C.1 C.2.1 dX5_isSame_8 rfl (lv_at hl 2 rfl) ?_
    refine z_call C (c_X5_isNo l (z) (by first | assumption | omega | rfl | exact decide_eq_false (by omega) | exact decide_eq_true (by assumption) | exact decide_eq_true (by omega) | exact one_shl33 (by omega) | exact pm_lt _ _ | exact rm_lt (by first | assumption | exact pm_lt _ _) | exact Nat.lt_of_le_of_lt (Nat.shiftRight_le _ _) (by assumption) | exact Nat.lt_of_le_of_lt Nat.and_le_right (by omega))) ml_X5_67 ⟨by decide, by decide⟩ ⟨Nat.le_of_ble_eq_true rfl, Nat.le_of_ble_eq_true rfl⟩ hl (Nat.le_of_ble_eq_true rfl) rfl dX5_isSame_9 ?_
    refine z_ifB_eq (tgt := 19) C dX5_isSame_12 (by decide) (fun h12 => ?_) (fun h12 => ?_)
    · have g12 := of_decide_eq_false h12
      refine z_iconst C dX5_isSame_19 ?_
      refine z_iconst C dX5_isSame_20 ?_
      exfalso; omega
    · have g12 := of_decide_eq_true h12
      refine z_iconst C dX5_isSame_15 ?_
      refine lv_goto (tgt := 20) C.1 C.2.1 dX5_isSame_16 (by decide) ?_
      refine z_iconst C dX5_isSame_20 ?_
      refine zo_callD C B (r := some (.int (iZ (zB (true))))) (c_X5_start_bad l D cJ o a (c) (th) (ac) (re) (kn) (true) (1 : Int) (by first | assumption | omega | rfl | exact decide_eq_false (by omega) | exact decide_eq_true (by assumption) | exact decide_eq_true (by omega) | exact one_shl33 (by omega) | exact pm_lt _ _ | exact rm_lt (by first | assumption | exact pm_lt _ _) | exact Nat.lt_of_le_of_lt (Nat.shiftRight_le _ _) (by assumption) | exact Nat.lt_of_le_of_lt Nat.and_le_right (by omega)) (by first | assumption | omega | rfl | exact decide_eq_false (by omega) | exact decide_eq_true (by assumption) | exact decide_eq_true (by omega) | exact one_shl33 (by omega) | exact pm_lt _ _ | exact rm_lt (by first | assumption | exact pm_lt _ _) | exact Nat.lt_of_le_of_lt (Nat.shiftRight_le _ _) (by assumption) | exact Nat.lt_of_le_of_lt Nat.and_le_right (by omega))) ml_X5_71 rfl ⟨Nat.le_of_ble_eq_true rfl, Nat.le_of_ble_eq_true rfl⟩ ⟨Nat.le_of_ble_eq_true rfl, Nat.le_of_ble_eq_true rfl⟩ hl (Nat.le_of_ble_eq_true rfl) rfl dX5_isSame_21 (fun H locs B => ?_)
      refine z_ifB_ne (tgt := 47) C dX5_isSame_24 (by decide) (fun h24 => ?_) (fun h24 => ?_)
      · refine z_iconst C dX5_isSame_47 ?_
        exact zo_zret C B hr hk (Nat.le_of_ble_eq_true rfl) (Nat.le_of_ble_eq_true rfl) dX5_isSame_48 (by decide) (by exact congrArg (fun z : Int => some (Value.int (iZ z))) (by rfl)) (by rfl) (by rfl)
      · exact absurd h24 (by decide)

set_option maxHeartbeats 4000000 in
set_option maxRecDepth 100000 in
theorem c_X5_value_bad1 (l : Launch) (D : va_G) (cJ : ClassId) (o a : Nat) (c : Nat → Nat) (th : Int) (ac : Int32) (re : Int32) (kn : Int32) (z : Int) (b : Bool) (r9z : -2147483648 ≤ z ∧ z ≤ 2147483647) (hbad : ¬ ((0 ≤ z ∧ z ≤ 5))) : zA l yX5_value 2 66 0 0 D 4 cJ o a [.int (iZ (z)), .int (iZ (zB (b)))] c [.int (iZ (th)), .int (ac), .int (re), .int (kn)] (fun v => v = some (.int (iZ (0)))) (c) [.int (iZ (1)), .int (ac), .int (re), .int (kn)] := by
  refine zA.intro (lo := 44) (nA := 2) (own := RX5) zi_X5_value (by decide) rfl rfl (by decide +kernel) rfl (Nat.le_of_ble_eq_true rfl) ?_
  intro p e s m below meth c0 ls C hr hk B hl
  have hl : lv_has ls 3 [(0, .ref o), (1, .int (iZ (z))), (2, .int (iZ (zB (b))))] := hl
  refine lv_aload_n C.1 C.2.1 dX5_value_0 rfl (lv_at hl 0 rfl) ?_
  refine lv_iload_n C.1 C.2.1 dX5_value_1 rfl (lv_at hl 1 rfl) ?_
  refine z_call C (c_X5_isNo l (z) (by first | assumption | omega | rfl | exact decide_eq_false (by omega) | exact decide_eq_true (by assumption) | exact decide_eq_true (by omega) | exact one_shl33 (by omega) | exact pm_lt _ _ | exact rm_lt (by first | assumption | exact pm_lt _ _) | exact Nat.lt_of_le_of_lt (Nat.shiftRight_le _ _) (by assumption) | exact Nat.lt_of_le_of_lt Nat.and_le_right (by omega))) ml_X5_67 ⟨by decide, by decide⟩ ⟨Nat.le_of_ble_eq_true rfl, Nat.le_of_ble_eq_true rfl⟩ hl (Nat.le_of_ble_eq_true rfl) rfl dX5_value_2 ?_
  refine z_iconst C dX5_value_5 ?_
  refine zo_callD C B (r := some (.int (iZ (zB (true))))) (c_X5_start_bad l D cJ o a (c) (th) (ac) (re) (kn) (decide (¬ (0 ≤ (z) ∧ (z) ≤ 5))) (1 : Int) (by first | assumption | omega | rfl | exact decide_eq_false (by omega) | exact decide_eq_true (by assumption) | exact decide_eq_true (by omega) | exact one_shl33 (by omega) | exact pm_lt _ _ | exact rm_lt (by first | assumption | exact pm_lt _ _) | exact Nat.lt_of_le_of_lt (Nat.shiftRight_le _ _) (by assumption) | exact Nat.lt_of_le_of_lt Nat.and_le_right (by omega)) (by first | assumption | omega | rfl | exact decide_eq_false (by omega) | exact decide_eq_true (by assumption) | exact decide_eq_true (by omega) | exact one_shl33 (by omega) | exact pm_lt _ _ | exact rm_lt (by first | assumption | exact pm_lt _ _) | exact Nat.lt_of_le_of_lt (Nat.shiftRight_le _ _) (by assumption) | exact Nat.lt_of_le_of_lt Nat.and_le_right (by omega))) ml_X5_71 rfl ⟨Nat.le_of_ble_eq_true rfl, Nat.le_of_ble_eq_true rfl⟩ ⟨Nat.le_of_ble_eq_true rfl, Nat.le_of_ble_eq_true rfl⟩ hl (Nat.le_of_ble_eq_true rfl) rfl dX5_value_6 (fun H locs B => ?_)
  refine z_ifB_eq (tgt := 16) C dX5_value_9 (by decide) (fun h9 => ?_) (fun h9 => ?_)
  · exact absurd h9 (by decide)
  · refine z_iconst C dX5_value_12 ?_
    refine lv_goto (tgt := 47) C.1 C.2.1 dX5_value_13 (by decide) ?_
    exact zo_iret C B hr hk (Nat.le_of_ble_eq_true rfl) (Nat.le_of_ble_eq_true rfl) dX5_value_47 (by exact congrArg (fun z : Int => some (Value.int (iZ z))) (by rfl)) (by rfl) (by rfl)

set_option maxHeartbeats 4000000 in
set_option maxRecDepth 100000 in
theorem c_X5_divides_bad1 (l : Launch) (D : va_G) (cJ : ClassId) (o a : Nat) (c : Nat → Nat) (th : Int) (ac : Int32) (re : Int32) (kn : Int32) (f : Int) (z : Int) (r9f : -2147483648 ≤ f ∧ f ≤ 2147483647) (r9z : -2147483648 ≤ z ∧ z ≤ 2147483647) (hbad : ¬ ((0 ≤ f ∧ f ≤ 5) ∧ (0 ≤ z ∧ z ≤ 5))) : zA l yX5_divides 2 66 0 0 D 4 cJ o a [.int (iZ (f)), .int (iZ (z))] c [.int (iZ (th)), .int (ac), .int (re), .int (kn)] (fun v => v = some (.int (iZ (0)))) (c) [.int (iZ (1)), .int (ac), .int (re), .int (kn)] := by
  refine zA.intro (lo := 44) (nA := 2) (own := RX5) zi_X5_divides (by decide) rfl rfl (by decide +kernel) rfl (Nat.le_of_ble_eq_true rfl) ?_
  intro p e s m below meth c0 ls C hr hk B hl
  have hl : lv_has ls 3 [(0, .ref o), (1, .int (iZ (f))), (2, .int (iZ (z)))] := hl
  refine lv_aload_n C.1 C.2.1 dX5_divides_0 rfl (lv_at hl 0 rfl) ?_
  refine lv_iload_n C.1 C.2.1 dX5_divides_1 rfl (lv_at hl 1 rfl) ?_
  refine z_call C (c_X5_isNo l (f) (by first | assumption | omega | rfl | exact decide_eq_false (by omega) | exact decide_eq_true (by assumption) | exact decide_eq_true (by omega) | exact one_shl33 (by omega) | exact pm_lt _ _ | exact rm_lt (by first | assumption | exact pm_lt _ _) | exact Nat.lt_of_le_of_lt (Nat.shiftRight_le _ _) (by assumption) | exact Nat.lt_of_le_of_lt Nat.and_le_right (by omega))) ml_X5_67 ⟨by decide, by decide⟩ ⟨Nat.le_of_ble_eq_true rfl, Nat.le_of_ble_eq_true rfl⟩ hl (Nat.le_of_ble_eq_true rfl) rfl dX5_divides_2 ?_
  refine z_ifB_ne (tgt := 15) C dX5_divides_5 (by decide) (fun h5 => ?_) (fun h5 => ?_)
  · have g5 := of_decide_eq_true h5
    refine z_iconst C dX5_divides_15 ?_
    refine lv_goto (tgt := 20) C.1 C.2.1 dX5_divides_16 (by decide) ?_
    refine z_iconst C dX5_divides_20 ?_
    refine zo_callD C B (r := some (.int (iZ (zB (true))))) (c_X5_start_bad l D cJ o a (c) (th) (ac) (re) (kn) (true) (1 : Int) (by first | assumption | omega | rfl | exact decide_eq_false (by omega) | exact decide_eq_true (by assumption) | exact decide_eq_true (by omega) | exact one_shl33 (by omega) | exact pm_lt _ _ | exact rm_lt (by first | assumption | exact pm_lt _ _) | exact Nat.lt_of_le_of_lt (Nat.shiftRight_le _ _) (by assumption) | exact Nat.lt_of_le_of_lt Nat.and_le_right (by omega)) (by first | assumption | omega | rfl | exact decide_eq_false (by omega) | exact decide_eq_true (by assumption) | exact decide_eq_true (by omega) | exact one_shl33 (by omega) | exact pm_lt _ _ | exact rm_lt (by first | assumption | exact pm_lt _ _) | exact Nat.lt_of_le_of_lt (Nat.shiftRight_le _ _) (by assumption) | exact Nat.lt_of_le_of_lt Nat.and_le_right (by omega))) ml_X5_71 rfl ⟨Nat.le_of_ble_eq_true rfl, Nat.le_of_ble_eq_true rfl⟩ ⟨Nat.le_of_ble_eq_true rfl, Nat.le_of_ble_eq_true rfl⟩ hl (Nat.le_of_ble_eq_true rfl) rfl dX5_divides_21 (fun H locs B => ?_)
    refine z_ifB_eq (tgt := 29) C dX5_divides_24 (by decide) (fun h24 => ?_) (fun h24 => ?_)
    · exact absurd h24 (by decide)
    · refine z_iconst C dX5_divides_27 ?_
      exact zo_zret C B hr hk (Nat.le_of_ble_eq_true rfl) (Nat.le_of_ble_eq_true rfl) dX5_divides_28 (by decide) (by exact congrArg (fun z : Int => some (Value.int (iZ z))) (by rfl)) (by rfl) (by rfl)
  · have g5 := of_decide_eq_false h5
    refine lv_iload_n C.1 C.2.1 dX5_divides_8 rfl (lv_at hl 2 rfl) ?_
    refine z_call C (c_X5_isNo l (z) (by first | assumption | omega | rfl | exact decide_eq_false (by omega) | exact decide_eq_true (by assumption) | exact decide_eq_true (by omega) | exact one_shl33 (by omega) | exact pm_lt _ _ | exact rm_lt (by first | assumption | exact pm_lt _ _) | exact Nat.lt_of_le_of_lt (Nat.shiftRight_le _ _) (by assumption) | exact Nat.lt_of_le_of_lt Nat.and_le_right (by omega))) ml_X5_67 ⟨by decide, by decide⟩ ⟨Nat.le_of_ble_eq_true rfl, Nat.le_of_ble_eq_true rfl⟩ hl (Nat.le_of_ble_eq_true rfl) rfl dX5_divides_9 ?_
    refine z_ifB_eq (tgt := 19) C dX5_divides_12 (by decide) (fun h12 => ?_) (fun h12 => ?_)
    · have g12 := of_decide_eq_false h12
      refine z_iconst C dX5_divides_19 ?_
      refine z_iconst C dX5_divides_20 ?_
      exfalso; omega
    · have g12 := of_decide_eq_true h12
      refine z_iconst C dX5_divides_15 ?_
      refine lv_goto (tgt := 20) C.1 C.2.1 dX5_divides_16 (by decide) ?_
      refine z_iconst C dX5_divides_20 ?_
      refine zo_callD C B (r := some (.int (iZ (zB (true))))) (c_X5_start_bad l D cJ o a (c) (th) (ac) (re) (kn) (true) (1 : Int) (by first | assumption | omega | rfl | exact decide_eq_false (by omega) | exact decide_eq_true (by assumption) | exact decide_eq_true (by omega) | exact one_shl33 (by omega) | exact pm_lt _ _ | exact rm_lt (by first | assumption | exact pm_lt _ _) | exact Nat.lt_of_le_of_lt (Nat.shiftRight_le _ _) (by assumption) | exact Nat.lt_of_le_of_lt Nat.and_le_right (by omega)) (by first | assumption | omega | rfl | exact decide_eq_false (by omega) | exact decide_eq_true (by assumption) | exact decide_eq_true (by omega) | exact one_shl33 (by omega) | exact pm_lt _ _ | exact rm_lt (by first | assumption | exact pm_lt _ _) | exact Nat.lt_of_le_of_lt (Nat.shiftRight_le _ _) (by assumption) | exact Nat.lt_of_le_of_lt Nat.and_le_right (by omega))) ml_X5_71 rfl ⟨Nat.le_of_ble_eq_true rfl, Nat.le_of_ble_eq_true rfl⟩ ⟨Nat.le_of_ble_eq_true rfl, Nat.le_of_ble_eq_true rfl⟩ hl (Nat.le_of_ble_eq_true rfl) rfl dX5_divides_21 (fun H locs B => ?_)
      refine z_ifB_eq (tgt := 29) C dX5_divides_24 (by decide) (fun h24 => ?_) (fun h24 => ?_)
      · exact absurd h24 (by decide)
      · refine z_iconst C dX5_divides_27 ?_
        exact zo_zret C B hr hk (Nat.le_of_ble_eq_true rfl) (Nat.le_of_ble_eq_true rfl) dX5_divides_28 (by decide) (by exact congrArg (fun z : Int => some (Value.int (iZ z))) (by rfl)) (by rfl) (by rfl)

set_option maxHeartbeats 4000000 in
set_option maxRecDepth 100000 in
theorem c_X5_isFree_bad1 (l : Launch) (D : va_G) (cJ : ClassId) (o a : Nat) (c : Nat → Nat) (th : Int) (ac : Int32) (re : Int32) (kn : Int32) (z : Int) (r9z : -2147483648 ≤ z ∧ z ≤ 2147483647) (hbad : ¬ ((0 ≤ z ∧ z ≤ 5))) : zA l yX5_isFree 2 65 0 0 D 4 cJ o a [.int (iZ (z))] c [.int (iZ (th)), .int (ac), .int (re), .int (kn)] (fun v => v = some (.int (iZ (0)))) (c) [.int (iZ (1)), .int (ac), .int (re), .int (kn)] := by
  refine zA.intro (lo := 44) (nA := 1) (own := RX5) zi_X5_isFree (by decide) rfl rfl (by decide +kernel) rfl (Nat.le_of_ble_eq_true rfl) ?_
  intro p e s m below meth c0 ls C hr hk B hl
  have hl : lv_has ls 2 [(0, .ref o), (1, .int (iZ (z)))] := hl
  refine lv_aload_n C.1 C.2.1 dX5_isFree_0 rfl (lv_at hl 0 rfl) ?_
  refine lv_iload_n C.1 C.2.1 dX5_isFree_1 rfl (lv_at hl 1 rfl) ?_
  refine z_call C (c_X5_isNo l (z) (by first | assumption | omega | rfl | exact decide_eq_false (by omega) | exact decide_eq_true (by assumption) | exact decide_eq_true (by omega) | exact one_shl33 (by omega) | exact pm_lt _ _ | exact rm_lt (by first | assumption | exact pm_lt _ _) | exact Nat.lt_of_le_of_lt (Nat.shiftRight_le _ _) (by assumption) | exact Nat.lt_of_le_of_lt Nat.and_le_right (by omega))) ml_X5_67 ⟨by decide, by decide⟩ ⟨Nat.le_of_ble_eq_true rfl, Nat.le_of_ble_eq_true rfl⟩ hl (Nat.le_of_ble_eq_true rfl) rfl dX5_isFree_2 ?_
  refine z_iconst C dX5_isFree_5 ?_
  refine zo_callD C B (r := some (.int (iZ (zB (true))))) (c_X5_start_bad l D cJ o a (c) (th) (ac) (re) (kn) (decide (¬ (0 ≤ (z) ∧ (z) ≤ 5))) (1 : Int) (by first | assumption | omega | rfl | exact decide_eq_false (by omega) | exact decide_eq_true (by assumption) | exact decide_eq_true (by omega) | exact one_shl33 (by omega) | exact pm_lt _ _ | exact rm_lt (by first | assumption | exact pm_lt _ _) | exact Nat.lt_of_le_of_lt (Nat.shiftRight_le _ _) (by assumption) | exact Nat.lt_of_le_of_lt Nat.and_le_right (by omega)) (by first | assumption | omega | rfl | exact decide_eq_false (by omega) | exact decide_eq_true (by assumption) | exact decide_eq_true (by omega) | exact one_shl33 (by omega) | exact pm_lt _ _ | exact rm_lt (by first | assumption | exact pm_lt _ _) | exact Nat.lt_of_le_of_lt (Nat.shiftRight_le _ _) (by assumption) | exact Nat.lt_of_le_of_lt Nat.and_le_right (by omega))) ml_X5_71 rfl ⟨Nat.le_of_ble_eq_true rfl, Nat.le_of_ble_eq_true rfl⟩ ⟨Nat.le_of_ble_eq_true rfl, Nat.le_of_ble_eq_true rfl⟩ hl (Nat.le_of_ble_eq_true rfl) rfl dX5_isFree_6 (fun H locs B => ?_)
  refine z_ifB_ne (tgt := 45) C dX5_isFree_9 (by decide) (fun h9 => ?_) (fun h9 => ?_)
  · refine z_iconst C dX5_isFree_45 ?_
    exact zo_zret C B hr hk (Nat.le_of_ble_eq_true rfl) (Nat.le_of_ble_eq_true rfl) dX5_isFree_46 (by decide) (by exact congrArg (fun z : Int => some (Value.int (iZ z))) (by rfl)) (by rfl) (by rfl)
  · exact absurd h9 (by decide)

set_option maxHeartbeats 4000000 in
set_option maxRecDepth 100000 in
theorem c_X5_irreducible_bad1 (l : Launch) (D : va_G) (cJ : ClassId) (o a : Nat) (c : Nat → Nat) (th : Int) (ac : Int32) (re : Int32) (kn : Int32) (z : Int) (r9z : -2147483648 ≤ z ∧ z ≤ 2147483647) (hbad : ¬ ((0 ≤ z ∧ z ≤ 5))) : zA l yX5_irreducible 2 65 0 0 D 4 cJ o a [.int (iZ (z))] c [.int (iZ (th)), .int (ac), .int (re), .int (kn)] (fun v => v = some (.int (iZ (0)))) (c) [.int (iZ (1)), .int (ac), .int (re), .int (kn)] := by
  refine zA.intro (lo := 44) (nA := 1) (own := RX5) zi_X5_irreducible (by decide) rfl rfl (by decide +kernel) rfl (Nat.le_of_ble_eq_true rfl) ?_
  intro p e s m below meth c0 ls C hr hk B hl
  have hl : lv_has ls 2 [(0, .ref o), (1, .int (iZ (z)))] := hl
  refine lv_aload_n C.1 C.2.1 dX5_irreducible_0 rfl (lv_at hl 0 rfl) ?_
  refine lv_iload_n C.1 C.2.1 dX5_irreducible_1 rfl (lv_at hl 1 rfl) ?_
  refine z_call C (c_X5_isNo l (z) (by first | assumption | omega | rfl | exact decide_eq_false (by omega) | exact decide_eq_true (by assumption) | exact decide_eq_true (by omega) | exact one_shl33 (by omega) | exact pm_lt _ _ | exact rm_lt (by first | assumption | exact pm_lt _ _) | exact Nat.lt_of_le_of_lt (Nat.shiftRight_le _ _) (by assumption) | exact Nat.lt_of_le_of_lt Nat.and_le_right (by omega))) ml_X5_67 ⟨by decide, by decide⟩ ⟨Nat.le_of_ble_eq_true rfl, Nat.le_of_ble_eq_true rfl⟩ hl (Nat.le_of_ble_eq_true rfl) rfl dX5_irreducible_2 ?_
  refine z_iconst C dX5_irreducible_5 ?_
  refine zo_callD C B (r := some (.int (iZ (zB (true))))) (c_X5_start_bad l D cJ o a (c) (th) (ac) (re) (kn) (decide (¬ (0 ≤ (z) ∧ (z) ≤ 5))) (1 : Int) (by first | assumption | omega | rfl | exact decide_eq_false (by omega) | exact decide_eq_true (by assumption) | exact decide_eq_true (by omega) | exact one_shl33 (by omega) | exact pm_lt _ _ | exact rm_lt (by first | assumption | exact pm_lt _ _) | exact Nat.lt_of_le_of_lt (Nat.shiftRight_le _ _) (by assumption) | exact Nat.lt_of_le_of_lt Nat.and_le_right (by omega)) (by first | assumption | omega | rfl | exact decide_eq_false (by omega) | exact decide_eq_true (by assumption) | exact decide_eq_true (by omega) | exact one_shl33 (by omega) | exact pm_lt _ _ | exact rm_lt (by first | assumption | exact pm_lt _ _) | exact Nat.lt_of_le_of_lt (Nat.shiftRight_le _ _) (by assumption) | exact Nat.lt_of_le_of_lt Nat.and_le_right (by omega))) ml_X5_71 rfl ⟨Nat.le_of_ble_eq_true rfl, Nat.le_of_ble_eq_true rfl⟩ ⟨Nat.le_of_ble_eq_true rfl, Nat.le_of_ble_eq_true rfl⟩ hl (Nat.le_of_ble_eq_true rfl) rfl dX5_irreducible_6 (fun H locs B => ?_)
  refine z_ifB_eq (tgt := 14) C dX5_irreducible_9 (by decide) (fun h9 => ?_) (fun h9 => ?_)
  · exact absurd h9 (by decide)
  · refine z_iconst C dX5_irreducible_12 ?_
    exact zo_iret C B hr hk (Nat.le_of_ble_eq_true rfl) (Nat.le_of_ble_eq_true rfl) dX5_irreducible_13 (by exact congrArg (fun z : Int => some (Value.int (iZ z))) (by rfl)) (by rfl) (by rfl)

set_option maxHeartbeats 4000000 in
set_option maxRecDepth 100000 in
theorem c_X5_rank_bad1 (l : Launch) (D : va_G) (cJ : ClassId) (o a : Nat) (c : Nat → Nat) (th : Int) (ac : Int32) (re : Int32) (kn : Int32) (z : Int) (r9z : -2147483648 ≤ z ∧ z ≤ 2147483647) (hbad : ¬ ((0 ≤ z ∧ z ≤ 5))) : zA l yX5_rank 2 65 0 0 D 4 cJ o a [.int (iZ (z))] c [.int (iZ (th)), .int (ac), .int (re), .int (kn)] (fun v => v = some (.int (iZ (0)))) (c) [.int (iZ (1)), .int (ac), .int (re), .int (kn)] := by
  refine zA.intro (lo := 44) (nA := 1) (own := RX5) zi_X5_rank (by decide) rfl rfl (by decide +kernel) rfl (Nat.le_of_ble_eq_true rfl) ?_
  intro p e s m below meth c0 ls C hr hk B hl
  have hl : lv_has ls 2 [(0, .ref o), (1, .int (iZ (z)))] := hl
  refine lv_aload_n C.1 C.2.1 dX5_rank_0 rfl (lv_at hl 0 rfl) ?_
  refine lv_iload_n C.1 C.2.1 dX5_rank_1 rfl (lv_at hl 1 rfl) ?_
  refine z_call C (c_X5_isNo l (z) (by first | assumption | omega | rfl | exact decide_eq_false (by omega) | exact decide_eq_true (by assumption) | exact decide_eq_true (by omega) | exact one_shl33 (by omega) | exact pm_lt _ _ | exact rm_lt (by first | assumption | exact pm_lt _ _) | exact Nat.lt_of_le_of_lt (Nat.shiftRight_le _ _) (by assumption) | exact Nat.lt_of_le_of_lt Nat.and_le_right (by omega))) ml_X5_67 ⟨by decide, by decide⟩ ⟨Nat.le_of_ble_eq_true rfl, Nat.le_of_ble_eq_true rfl⟩ hl (Nat.le_of_ble_eq_true rfl) rfl dX5_rank_2 ?_
  refine z_iconst C dX5_rank_5 ?_
  refine zo_callD C B (r := some (.int (iZ (zB (true))))) (c_X5_start_bad l D cJ o a (c) (th) (ac) (re) (kn) (decide (¬ (0 ≤ (z) ∧ (z) ≤ 5))) (1 : Int) (by first | assumption | omega | rfl | exact decide_eq_false (by omega) | exact decide_eq_true (by assumption) | exact decide_eq_true (by omega) | exact one_shl33 (by omega) | exact pm_lt _ _ | exact rm_lt (by first | assumption | exact pm_lt _ _) | exact Nat.lt_of_le_of_lt (Nat.shiftRight_le _ _) (by assumption) | exact Nat.lt_of_le_of_lt Nat.and_le_right (by omega)) (by first | assumption | omega | rfl | exact decide_eq_false (by omega) | exact decide_eq_true (by assumption) | exact decide_eq_true (by omega) | exact one_shl33 (by omega) | exact pm_lt _ _ | exact rm_lt (by first | assumption | exact pm_lt _ _) | exact Nat.lt_of_le_of_lt (Nat.shiftRight_le _ _) (by assumption) | exact Nat.lt_of_le_of_lt Nat.and_le_right (by omega))) ml_X5_71 rfl ⟨Nat.le_of_ble_eq_true rfl, Nat.le_of_ble_eq_true rfl⟩ ⟨Nat.le_of_ble_eq_true rfl, Nat.le_of_ble_eq_true rfl⟩ hl (Nat.le_of_ble_eq_true rfl) rfl dX5_rank_6 (fun H locs B => ?_)
  refine z_ifB_eq (tgt := 14) C dX5_rank_9 (by decide) (fun h9 => ?_) (fun h9 => ?_)
  · exact absurd h9 (by decide)
  · refine z_iconst C dX5_rank_12 ?_
    exact zo_iret C B hr hk (Nat.le_of_ble_eq_true rfl) (Nat.le_of_ble_eq_true rfl) dX5_rank_13 (by exact congrArg (fun z : Int => some (Value.int (iZ z))) (by rfl)) (by rfl) (by rfl)

set_option maxHeartbeats 4000000 in
set_option maxRecDepth 100000 in
theorem c_X5_period_bad1 (l : Launch) (D : va_G) (cJ : ClassId) (o a : Nat) (c : Nat → Nat) (th : Int) (ac : Int32) (re : Int32) (kn : Int32) (z : Int) (r9z : -2147483648 ≤ z ∧ z ≤ 2147483647) (hbad : ¬ ((0 ≤ z ∧ z ≤ 5))) : zA l yX5_period 2 68 0 0 D 4 cJ o a [.int (iZ (z))] c [.int (iZ (th)), .int (ac), .int (re), .int (kn)] (fun v => v = some (.int (iZ (0)))) (c) [.int (iZ (1)), .int (ac), .int (re), .int (kn)] := by
  refine zA.intro (lo := 44) (nA := 1) (own := RX5) zi_X5_period (by decide) rfl rfl (by decide +kernel) rfl (Nat.le_of_ble_eq_true rfl) ?_
  intro p e s m below meth c0 ls C hr hk B hl
  have hl : lv_has ls 5 [(0, .ref o), (1, .int (iZ (z)))] := hl
  refine lv_aload_n C.1 C.2.1 dX5_period_0 rfl (lv_at hl 0 rfl) ?_
  refine lv_iload_n C.1 C.2.1 dX5_period_1 rfl (lv_at hl 1 rfl) ?_
  refine z_call C (c_X5_isNo l (z) (by first | assumption | omega | rfl | exact decide_eq_false (by omega) | exact decide_eq_true (by assumption) | exact decide_eq_true (by omega) | exact one_shl33 (by omega) | exact pm_lt _ _ | exact rm_lt (by first | assumption | exact pm_lt _ _) | exact Nat.lt_of_le_of_lt (Nat.shiftRight_le _ _) (by assumption) | exact Nat.lt_of_le_of_lt Nat.and_le_right (by omega))) ml_X5_67 ⟨by decide, by decide⟩ ⟨Nat.le_of_ble_eq_true rfl, Nat.le_of_ble_eq_true rfl⟩ hl (Nat.le_of_ble_eq_true rfl) rfl dX5_period_2 ?_
  refine z_iconst C dX5_period_5 ?_
  refine zo_callD C B (r := some (.int (iZ (zB (true))))) (c_X5_start_bad l D cJ o a (c) (th) (ac) (re) (kn) (decide (¬ (0 ≤ (z) ∧ (z) ≤ 5))) (1 : Int) (by first | assumption | omega | rfl | exact decide_eq_false (by omega) | exact decide_eq_true (by assumption) | exact decide_eq_true (by omega) | exact one_shl33 (by omega) | exact pm_lt _ _ | exact rm_lt (by first | assumption | exact pm_lt _ _) | exact Nat.lt_of_le_of_lt (Nat.shiftRight_le _ _) (by assumption) | exact Nat.lt_of_le_of_lt Nat.and_le_right (by omega)) (by first | assumption | omega | rfl | exact decide_eq_false (by omega) | exact decide_eq_true (by assumption) | exact decide_eq_true (by omega) | exact one_shl33 (by omega) | exact pm_lt _ _ | exact rm_lt (by first | assumption | exact pm_lt _ _) | exact Nat.lt_of_le_of_lt (Nat.shiftRight_le _ _) (by assumption) | exact Nat.lt_of_le_of_lt Nat.and_le_right (by omega))) ml_X5_71 rfl ⟨Nat.le_of_ble_eq_true rfl, Nat.le_of_ble_eq_true rfl⟩ ⟨Nat.le_of_ble_eq_true rfl, Nat.le_of_ble_eq_true rfl⟩ hl (Nat.le_of_ble_eq_true rfl) rfl dX5_period_6 (fun H locs B => ?_)
  refine z_ifB_eq (tgt := 14) C dX5_period_9 (by decide) (fun h9 => ?_) (fun h9 => ?_)
  · exact absurd h9 (by decide)
  · refine z_iconst C dX5_period_12 ?_
    exact zo_iret C B hr hk (Nat.le_of_ble_eq_true rfl) (Nat.le_of_ble_eq_true rfl) dX5_period_13 (by exact congrArg (fun z : Int => some (Value.int (iZ z))) (by rfl)) (by rfl) (by rfl)

set_option maxHeartbeats 4000000 in
set_option maxRecDepth 100000 in
theorem c_X5_find_bad1 (l : Launch) (D : va_G) (cJ : ClassId) (o a : Nat) (c : Nat → Nat) (th : Int) (ac : Int32) (re : Int32) (kn : Int32) (z : Int) (b : Bool) (r9z : -2147483648 ≤ z ∧ z ≤ 2147483647) (hbad : ¬ ((0 ≤ z ∧ z ≤ 5))) : zA l yX5_find 2 66 0 0 D 4 cJ o a [.int (iZ (z)), .int (iZ (zB (b)))] c [.int (iZ (th)), .int (ac), .int (re), .int (kn)] (fun v => v = some (.int (iZ (0)))) (c) [.int (iZ (1)), .int (ac), .int (re), .int (kn)] := by
  refine zA.intro (lo := 44) (nA := 2) (own := RX5) zi_X5_find (by decide) rfl rfl (by decide +kernel) rfl (Nat.le_of_ble_eq_true rfl) ?_
  intro p e s m below meth c0 ls C hr hk B hl
  have hl : lv_has ls 3 [(0, .ref o), (1, .int (iZ (z))), (2, .int (iZ (zB (b))))] := hl
  refine lv_aload_n C.1 C.2.1 dX5_find_0 rfl (lv_at hl 0 rfl) ?_
  refine lv_iload_n C.1 C.2.1 dX5_find_1 rfl (lv_at hl 1 rfl) ?_
  refine z_call C (c_X5_isNo l (z) (by first | assumption | omega | rfl | exact decide_eq_false (by omega) | exact decide_eq_true (by assumption) | exact decide_eq_true (by omega) | exact one_shl33 (by omega) | exact pm_lt _ _ | exact rm_lt (by first | assumption | exact pm_lt _ _) | exact Nat.lt_of_le_of_lt (Nat.shiftRight_le _ _) (by assumption) | exact Nat.lt_of_le_of_lt Nat.and_le_right (by omega))) ml_X5_67 ⟨by decide, by decide⟩ ⟨Nat.le_of_ble_eq_true rfl, Nat.le_of_ble_eq_true rfl⟩ hl (Nat.le_of_ble_eq_true rfl) rfl dX5_find_2 ?_
  refine z_iconst C dX5_find_5 ?_
  refine zo_callD C B (r := some (.int (iZ (zB (true))))) (c_X5_start_bad l D cJ o a (c) (th) (ac) (re) (kn) (decide (¬ (0 ≤ (z) ∧ (z) ≤ 5))) (1 : Int) (by first | assumption | omega | rfl | exact decide_eq_false (by omega) | exact decide_eq_true (by assumption) | exact decide_eq_true (by omega) | exact one_shl33 (by omega) | exact pm_lt _ _ | exact rm_lt (by first | assumption | exact pm_lt _ _) | exact Nat.lt_of_le_of_lt (Nat.shiftRight_le _ _) (by assumption) | exact Nat.lt_of_le_of_lt Nat.and_le_right (by omega)) (by first | assumption | omega | rfl | exact decide_eq_false (by omega) | exact decide_eq_true (by assumption) | exact decide_eq_true (by omega) | exact one_shl33 (by omega) | exact pm_lt _ _ | exact rm_lt (by first | assumption | exact pm_lt _ _) | exact Nat.lt_of_le_of_lt (Nat.shiftRight_le _ _) (by assumption) | exact Nat.lt_of_le_of_lt Nat.and_le_right (by omega))) ml_X5_71 rfl ⟨Nat.le_of_ble_eq_true rfl, Nat.le_of_ble_eq_true rfl⟩ ⟨Nat.le_of_ble_eq_true rfl, Nat.le_of_ble_eq_true rfl⟩ hl (Nat.le_of_ble_eq_true rfl) rfl dX5_find_6 (fun H locs B => ?_)
  refine z_ifB_eq (tgt := 16) C dX5_find_9 (by decide) (fun h9 => ?_) (fun h9 => ?_)
  · exact absurd h9 (by decide)
  · refine z_iconst C dX5_find_12 ?_
    refine lv_goto (tgt := 22) C.1 C.2.1 dX5_find_13 (by decide) ?_
    exact zo_iret C B hr hk (Nat.le_of_ble_eq_true rfl) (Nat.le_of_ble_eq_true rfl) dX5_find_22 (by exact congrArg (fun z : Int => some (Value.int (iZ z))) (by rfl)) (by rfl) (by rfl)

set_option maxHeartbeats 4000000 in
set_option maxRecDepth 100000 in
theorem c_X5_many_bad1 (l : Launch) (D : va_G) (cJ : ClassId) (o a : Nat) (c : Nat → Nat) (th : Int) (ac : Int32) (re : Int32) (kn : Int32) (z : Int) (r9z : -2147483648 ≤ z ∧ z ≤ 2147483647) (hbad : ¬ (1 ≤ z ∧ z ≤ 8)) : zA l yX5_many 2 65 0 0 D 4 cJ o a [.int (iZ (z))] c [.int (iZ (th)), .int (ac), .int (re), .int (kn)] (fun v => v = some (.int (iZ (0)))) (c) [.int (iZ (1)), .int (ac), .int (re), .int (kn)] := by
  refine zA.intro (lo := 44) (nA := 1) (own := RX5) zi_X5_many (by decide) rfl rfl (by decide +kernel) rfl (Nat.le_of_ble_eq_true rfl) ?_
  intro p e s m below meth c0 ls C hr hk B hl
  have hl : lv_has ls 2 [(0, .ref o), (1, .int (iZ (z)))] := hl
  refine lv_aload_n C.1 C.2.1 dX5_many_0 rfl (lv_at hl 0 rfl) ?_
  refine lv_iload_n C.1 C.2.1 dX5_many_1 rfl (lv_at hl 1 rfl) ?_
  refine z_iconst C dX5_many_2 ?_
  refine z_bipush C dX5_many_3 (by decide) ?_
  refine z_call C (c_X5_isIn l (z) (1 : Int) (8 : Int) (by first | assumption | omega | rfl | exact decide_eq_false (by omega) | exact decide_eq_true (by assumption) | exact decide_eq_true (by omega) | exact one_shl33 (by omega) | exact pm_lt _ _ | exact rm_lt (by first | assumption | exact pm_lt _ _) | exact Nat.lt_of_le_of_lt (Nat.shiftRight_le _ _) (by assumption) | exact Nat.lt_of_le_of_lt Nat.and_le_right (by omega)) (by first | assumption | omega | rfl | exact decide_eq_false (by omega) | exact decide_eq_true (by assumption) | exact decide_eq_true (by omega) | exact one_shl33 (by omega) | exact pm_lt _ _ | exact rm_lt (by first | assumption | exact pm_lt _ _) | exact Nat.lt_of_le_of_lt (Nat.shiftRight_le _ _) (by assumption) | exact Nat.lt_of_le_of_lt Nat.and_le_right (by omega)) (by first | assumption | omega | rfl | exact decide_eq_false (by omega) | exact decide_eq_true (by assumption) | exact decide_eq_true (by omega) | exact one_shl33 (by omega) | exact pm_lt _ _ | exact rm_lt (by first | assumption | exact pm_lt _ _) | exact Nat.lt_of_le_of_lt (Nat.shiftRight_le _ _) (by assumption) | exact Nat.lt_of_le_of_lt Nat.and_le_right (by omega))) ml_X5_21 ⟨by decide, by decide⟩ ⟨Nat.le_of_ble_eq_true rfl, Nat.le_of_ble_eq_true rfl⟩ hl (Nat.le_of_ble_eq_true rfl) rfl dX5_many_5 ?_
  refine z_ifB_ne (tgt := 15) C dX5_many_8 (by decide) (fun h8 => ?_) (fun h8 => ?_)
  · have g8 := of_decide_eq_true h8
    refine z_iconst C dX5_many_15 ?_
    refine z_iconst C dX5_many_16 ?_
    exfalso; omega
  · have g8 := of_decide_eq_false h8
    refine z_iconst C dX5_many_11 ?_
    refine lv_goto (tgt := 16) C.1 C.2.1 dX5_many_12 (by decide) ?_
    refine z_iconst C dX5_many_16 ?_
    refine zo_callD C B (r := some (.int (iZ (zB (true))))) (c_X5_start_bad l D cJ o a (c) (th) (ac) (re) (kn) (true) (1 : Int) (by first | assumption | omega | rfl | exact decide_eq_false (by omega) | exact decide_eq_true (by assumption) | exact decide_eq_true (by omega) | exact one_shl33 (by omega) | exact pm_lt _ _ | exact rm_lt (by first | assumption | exact pm_lt _ _) | exact Nat.lt_of_le_of_lt (Nat.shiftRight_le _ _) (by assumption) | exact Nat.lt_of_le_of_lt Nat.and_le_right (by omega)) (by first | assumption | omega | rfl | exact decide_eq_false (by omega) | exact decide_eq_true (by assumption) | exact decide_eq_true (by omega) | exact one_shl33 (by omega) | exact pm_lt _ _ | exact rm_lt (by first | assumption | exact pm_lt _ _) | exact Nat.lt_of_le_of_lt (Nat.shiftRight_le _ _) (by assumption) | exact Nat.lt_of_le_of_lt Nat.and_le_right (by omega))) ml_X5_71 rfl ⟨Nat.le_of_ble_eq_true rfl, Nat.le_of_ble_eq_true rfl⟩ ⟨Nat.le_of_ble_eq_true rfl, Nat.le_of_ble_eq_true rfl⟩ hl (Nat.le_of_ble_eq_true rfl) rfl dX5_many_17 (fun H locs B => ?_)
    refine z_ifB_eq (tgt := 27) C dX5_many_20 (by decide) (fun h20 => ?_) (fun h20 => ?_)
    · exact absurd h20 (by decide)
    · refine z_iconst C dX5_many_23 ?_
      refine lv_goto (tgt := 31) C.1 C.2.1 dX5_many_24 (by decide) ?_
      exact zo_iret C B hr hk (Nat.le_of_ble_eq_true rfl) (Nat.le_of_ble_eq_true rfl) dX5_many_31 (by exact congrArg (fun z : Int => some (Value.int (iZ z))) (by rfl)) (by rfl) (by rfl)

set_option maxHeartbeats 4000000 in
set_option maxRecDepth 100000 in
theorem c_X5_house_bad1 (l : Launch) (D : va_G) (cJ : ClassId) (o a : Nat) (c : Nat → Nat) (th : Int) (ac : Int32) (re : Int32) (kn : Int32) (z : Int) (r9z : -2147483648 ≤ z ∧ z ≤ 2147483647) (hbad : ¬ (0 ≤ z ∧ z ≤ 4)) : zA l yX5_house 2 65 0 0 D 4 cJ o a [.int (iZ (z))] c [.int (iZ (th)), .int (ac), .int (re), .int (kn)] (fun v => v = some (.int (iZ (0)))) (c) [.int (iZ (1)), .int (ac), .int (re), .int (kn)] := by
  refine zA.intro (lo := 44) (nA := 1) (own := RX5) zi_X5_house (by decide) rfl rfl (by decide +kernel) rfl (Nat.le_of_ble_eq_true rfl) ?_
  intro p e s m below meth c0 ls C hr hk B hl
  have hl : lv_has ls 2 [(0, .ref o), (1, .int (iZ (z)))] := hl
  refine lv_aload_n C.1 C.2.1 dX5_house_0 rfl (lv_at hl 0 rfl) ?_
  refine lv_iload_n C.1 C.2.1 dX5_house_1 rfl (lv_at hl 1 rfl) ?_
  refine z_iconst C dX5_house_2 ?_
  refine z_iconst C dX5_house_3 ?_
  refine z_call C (c_X5_isIn l (z) (0 : Int) (4 : Int) (by first | assumption | omega | rfl | exact decide_eq_false (by omega) | exact decide_eq_true (by assumption) | exact decide_eq_true (by omega) | exact one_shl33 (by omega) | exact pm_lt _ _ | exact rm_lt (by first | assumption | exact pm_lt _ _) | exact Nat.lt_of_le_of_lt (Nat.shiftRight_le _ _) (by assumption) | exact Nat.lt_of_le_of_lt Nat.and_le_right (by omega)) (by first | assumption | omega | rfl | exact decide_eq_false (by omega) | exact decide_eq_true (by assumption) | exact decide_eq_true (by omega) | exact one_shl33 (by omega) | exact pm_lt _ _ | exact rm_lt (by first | assumption | exact pm_lt _ _) | exact Nat.lt_of_le_of_lt (Nat.shiftRight_le _ _) (by assumption) | exact Nat.lt_of_le_of_lt Nat.and_le_right (by omega)) (by first | assumption | omega | rfl | exact decide_eq_false (by omega) | exact decide_eq_true (by assumption) | exact decide_eq_true (by omega) | exact one_shl33 (by omega) | exact pm_lt _ _ | exact rm_lt (by first | assumption | exact pm_lt _ _) | exact Nat.lt_of_le_of_lt (Nat.shiftRight_le _ _) (by assumption) | exact Nat.lt_of_le_of_lt Nat.and_le_right (by omega))) ml_X5_21 ⟨by decide, by decide⟩ ⟨Nat.le_of_ble_eq_true rfl, Nat.le_of_ble_eq_true rfl⟩ hl (Nat.le_of_ble_eq_true rfl) rfl dX5_house_4 ?_
  refine z_ifB_ne (tgt := 14) C dX5_house_7 (by decide) (fun h7 => ?_) (fun h7 => ?_)
  · have g7 := of_decide_eq_true h7
    refine z_iconst C dX5_house_14 ?_
    refine z_iconst C dX5_house_15 ?_
    exfalso; omega
  · have g7 := of_decide_eq_false h7
    refine z_iconst C dX5_house_10 ?_
    refine lv_goto (tgt := 15) C.1 C.2.1 dX5_house_11 (by decide) ?_
    refine z_iconst C dX5_house_15 ?_
    refine zo_callD C B (r := some (.int (iZ (zB (true))))) (c_X5_start_bad l D cJ o a (c) (th) (ac) (re) (kn) (true) (1 : Int) (by first | assumption | omega | rfl | exact decide_eq_false (by omega) | exact decide_eq_true (by assumption) | exact decide_eq_true (by omega) | exact one_shl33 (by omega) | exact pm_lt _ _ | exact rm_lt (by first | assumption | exact pm_lt _ _) | exact Nat.lt_of_le_of_lt (Nat.shiftRight_le _ _) (by assumption) | exact Nat.lt_of_le_of_lt Nat.and_le_right (by omega)) (by first | assumption | omega | rfl | exact decide_eq_false (by omega) | exact decide_eq_true (by assumption) | exact decide_eq_true (by omega) | exact one_shl33 (by omega) | exact pm_lt _ _ | exact rm_lt (by first | assumption | exact pm_lt _ _) | exact Nat.lt_of_le_of_lt (Nat.shiftRight_le _ _) (by assumption) | exact Nat.lt_of_le_of_lt Nat.and_le_right (by omega))) ml_X5_71 rfl ⟨Nat.le_of_ble_eq_true rfl, Nat.le_of_ble_eq_true rfl⟩ ⟨Nat.le_of_ble_eq_true rfl, Nat.le_of_ble_eq_true rfl⟩ hl (Nat.le_of_ble_eq_true rfl) rfl dX5_house_16 (fun H locs B => ?_)
    refine z_ifB_eq (tgt := 26) C dX5_house_19 (by decide) (fun h19 => ?_) (fun h19 => ?_)
    · exact absurd h19 (by decide)
    · refine z_iconst C dX5_house_22 ?_
      refine lv_goto (tgt := 31) C.1 C.2.1 dX5_house_23 (by decide) ?_
      exact zo_iret C B hr hk (Nat.le_of_ble_eq_true rfl) (Nat.le_of_ble_eq_true rfl) dX5_house_31 (by exact congrArg (fun z : Int => some (Value.int (iZ z))) (by rfl)) (by rfl) (by rfl)

set_option maxHeartbeats 4000000 in
set_option maxRecDepth 100000 in
theorem c_X5_formula_bad1 (l : Launch) (D : va_G) (cJ : ClassId) (o a : Nat) (c : Nat → Nat) (th : Int) (ac : Int32) (re : Int32) (kn : Int32) (z : Int) (r9z : -2147483648 ≤ z ∧ z ≤ 2147483647) (hbad : ¬ (1 ≤ z ∧ z ≤ 8)) : zA l yX5_formula 2 67 0 0 D 4 cJ o a [.int (iZ (z))] c [.int (iZ (th)), .int (ac), .int (re), .int (kn)] (fun v => v = some (.int (iZ (0)))) (c) [.int (iZ (1)), .int (ac), .int (re), .int (kn)] := by
  refine zA.intro (lo := 44) (nA := 1) (own := RX5) zi_X5_formula (by decide) rfl rfl (by decide +kernel) rfl (Nat.le_of_ble_eq_true rfl) ?_
  intro p e s m below meth c0 ls C hr hk B hl
  have hl : lv_has ls 4 [(0, .ref o), (1, .int (iZ (z)))] := hl
  refine lv_aload_n C.1 C.2.1 dX5_formula_0 rfl (lv_at hl 0 rfl) ?_
  refine lv_iload_n C.1 C.2.1 dX5_formula_1 rfl (lv_at hl 1 rfl) ?_
  refine z_iconst C dX5_formula_2 ?_
  refine z_bipush C dX5_formula_3 (by decide) ?_
  refine z_call C (c_X5_isIn l (z) (1 : Int) (8 : Int) (by first | assumption | omega | rfl | exact decide_eq_false (by omega) | exact decide_eq_true (by assumption) | exact decide_eq_true (by omega) | exact one_shl33 (by omega) | exact pm_lt _ _ | exact rm_lt (by first | assumption | exact pm_lt _ _) | exact Nat.lt_of_le_of_lt (Nat.shiftRight_le _ _) (by assumption) | exact Nat.lt_of_le_of_lt Nat.and_le_right (by omega)) (by first | assumption | omega | rfl | exact decide_eq_false (by omega) | exact decide_eq_true (by assumption) | exact decide_eq_true (by omega) | exact one_shl33 (by omega) | exact pm_lt _ _ | exact rm_lt (by first | assumption | exact pm_lt _ _) | exact Nat.lt_of_le_of_lt (Nat.shiftRight_le _ _) (by assumption) | exact Nat.lt_of_le_of_lt Nat.and_le_right (by omega)) (by first | assumption | omega | rfl | exact decide_eq_false (by omega) | exact decide_eq_true (by assumption) | exact decide_eq_true (by omega) | exact one_shl33 (by omega) | exact pm_lt _ _ | exact rm_lt (by first | assumption | exact pm_lt _ _) | exact Nat.lt_of_le_of_lt (Nat.shiftRight_le _ _) (by assumption) | exact Nat.lt_of_le_of_lt Nat.and_le_right (by omega))) ml_X5_21 ⟨by decide, by decide⟩ ⟨Nat.le_of_ble_eq_true rfl, Nat.le_of_ble_eq_true rfl⟩ hl (Nat.le_of_ble_eq_true rfl) rfl dX5_formula_5 ?_
  refine z_ifB_ne (tgt := 15) C dX5_formula_8 (by decide) (fun h8 => ?_) (fun h8 => ?_)
  · have g8 := of_decide_eq_true h8
    refine z_iconst C dX5_formula_15 ?_
    refine z_iconst C dX5_formula_16 ?_
    exfalso; omega
  · have g8 := of_decide_eq_false h8
    refine z_iconst C dX5_formula_11 ?_
    refine lv_goto (tgt := 16) C.1 C.2.1 dX5_formula_12 (by decide) ?_
    refine z_iconst C dX5_formula_16 ?_
    refine zo_callD C B (r := some (.int (iZ (zB (true))))) (c_X5_start_bad l D cJ o a (c) (th) (ac) (re) (kn) (true) (1 : Int) (by first | assumption | omega | rfl | exact decide_eq_false (by omega) | exact decide_eq_true (by assumption) | exact decide_eq_true (by omega) | exact one_shl33 (by omega) | exact pm_lt _ _ | exact rm_lt (by first | assumption | exact pm_lt _ _) | exact Nat.lt_of_le_of_lt (Nat.shiftRight_le _ _) (by assumption) | exact Nat.lt_of_le_of_lt Nat.and_le_right (by omega)) (by first | assumption | omega | rfl | exact decide_eq_false (by omega) | exact decide_eq_true (by assumption) | exact decide_eq_true (by omega) | exact one_shl33 (by omega) | exact pm_lt _ _ | exact rm_lt (by first | assumption | exact pm_lt _ _) | exact Nat.lt_of_le_of_lt (Nat.shiftRight_le _ _) (by assumption) | exact Nat.lt_of_le_of_lt Nat.and_le_right (by omega))) ml_X5_71 rfl ⟨Nat.le_of_ble_eq_true rfl, Nat.le_of_ble_eq_true rfl⟩ ⟨Nat.le_of_ble_eq_true rfl, Nat.le_of_ble_eq_true rfl⟩ hl (Nat.le_of_ble_eq_true rfl) rfl dX5_formula_17 (fun H locs B => ?_)
    refine z_ifB_eq (tgt := 25) C dX5_formula_20 (by decide) (fun h20 => ?_) (fun h20 => ?_)
    · exact absurd h20 (by decide)
    · refine z_iconst C dX5_formula_23 ?_
      exact zo_iret C B hr hk (Nat.le_of_ble_eq_true rfl) (Nat.le_of_ble_eq_true rfl) dX5_formula_24 (by exact congrArg (fun z : Int => some (Value.int (iZ z))) (by rfl)) (by rfl) (by rfl)
