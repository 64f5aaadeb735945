set_option maxHeartbeats 4000000 in
set_option maxRecDepth 100000 in
theorem c_X5_add (l : Launch) (d : Int64) (v : Int64) : zP l yX5_add 0 23 [.long (d), .long (v)] (.long (ad d v)) := by
  refine zP.intro (lo := 0) (nA := 2) (own := RX5) zs_X5_add (by decide) rfl rfl (by decide +kernel) rfl (Nat.le_of_ble_eq_true rfl) ?_
  intro p e s m below meth c ls C hr hk hl
  have hl : lv_has ls 4 [(0, .long (d)), (2, .long (v))] := hl
  refine lv_lload_n C.1 C.2.1 dX5_add_0 rfl (lv_at hl 0 rfl) ?_
  refine z_ldc2 C 31 (T0_of kl_X5_171 rfl) (by decide) dX5_add_1 ?_
  refine lv_lmul C.1 C.2.1 dX5_add_4 ?_
  refine lv_lload_n C.1 C.2.1 dX5_add_5 rfl (lv_at hl 1 rfl) ?_
  refine lv_ladd C.1 C.2.1 dX5_add_6 ?_
  exact z_lret C hr hk dX5_add_7 (by rfl)

set_option maxHeartbeats 4000000 in
set_option maxRecDepth 100000 in
theorem c_X5_refuse_ok (l : Launch) (D : va_G) (cJ : ClassId) (o a : Nat) (c : Nat → Nat) (th : Int) (ac : Int32) (re : Int32) (kn : Int32) (b : Bool) (w : Int) (hb : b = false) (ht : th = 0) : zA l yX5_refuse 0 22 0 0 D 4 cJ o a [.int (iZ (zB (b))), .int (iZ (w))] c [.int (iZ (th)), .int (ac), .int (re), .int (kn)] (fun v => v = some (.int (iZ (zB (false))))) (c) [.int (iZ (th)), .int (ac), .int (re), .int (kn)] := by
  refine zA.intro (lo := 0) (nA := 2) (own := RX5) zi_X5_refuse (by decide) rfl rfl (by decide +kernel) rfl (Nat.le_of_ble_eq_true rfl) ?_
  intro p e s m below meth c0 ls C hr hk B hl
  have hl : lv_has ls 3 [(0, .ref o), (1, .int (iZ (zB (b)))), (2, .int (iZ (w)))] := hl
  refine lv_iload_n C.1 C.2.1 dX5_refuse_0 rfl (lv_at hl 1 rfl) ?_
  refine z_ifB_eq (tgt := 16) C dX5_refuse_1 (by decide) (fun h1 => ?_) (fun h1 => ?_)
  · refine lv_aload_n C.1 C.2.1 dX5_refuse_16 rfl (lv_at hl 0 rfl) ?_
    refine zo_get C B (Cn := RX5) (T := TX5) (N := 5) (v := .int (iZ (th))) rfl inX5 1 (by decide) fl_X5_13 rfl rfl dX5_refuse_17 ?_
    refine z_if_le (tgt := 27) C (by omega) dX5_refuse_20 (by decide) (fun h20 => ?_) (fun h20 => ?_)
    · refine z_iconst C dX5_refuse_27 ?_
      exact zo_zret C B hr hk (Nat.le_of_ble_eq_true rfl) (Nat.le_of_ble_eq_true rfl) dX5_refuse_28 (by decide) (by exact congrArg (fun z : Int => some (Value.int (iZ z))) (by rfl)) (by rfl) (by rfl)
    · exact absurd h20 (by omega)
  · exact absurd (hb.symm.trans h1) (by decide)

set_option maxHeartbeats 4000000 in
set_option maxRecDepth 100000 in
theorem c_X5_refuse_bad (l : Launch) (D : va_G) (cJ : ClassId) (o a : Nat) (c : Nat → Nat) (th : Int) (ac : Int32) (re : Int32) (kn : Int32) (b : Bool) (w : Int) (hb : b = true) (ht : th = 0) (hw0 : 1 ≤ w ∧ w ≤ 2) : zA l yX5_refuse 0 22 0 0 D 4 cJ o a [.int (iZ (zB (b))), .int (iZ (w))] c [.int (iZ (th)), .int (ac), .int (re), .int (kn)] (fun v => v = some (.int (iZ (zB (true))))) (c) [.int (iZ (w)), .int (ac), .int (re), .int (kn)] := by
  refine zA.intro (lo := 0) (nA := 2) (own := RX5) zi_X5_refuse (by decide) rfl rfl (by decide +kernel) rfl (Nat.le_of_ble_eq_true rfl) ?_
  intro p e s m below meth c0 ls C hr hk B hl
  have hl : lv_has ls 3 [(0, .ref o), (1, .int (iZ (zB (b)))), (2, .int (iZ (w)))] := hl
  refine lv_iload_n C.1 C.2.1 dX5_refuse_0 rfl (lv_at hl 1 rfl) ?_
  refine z_ifB_eq (tgt := 16) C dX5_refuse_1 (by decide) (fun h1 => ?_) (fun h1 => ?_)
  · exact absurd (hb.symm.trans h1) (by decide)
  · refine lv_aload_n C.1 C.2.1 dX5_refuse_4 rfl (lv_at hl 0 rfl) ?_
    refine zo_get C B (Cn := RX5) (T := TX5) (N := 5) (v := .int (iZ (th))) rfl inX5 1 (by decide) fl_X5_13 rfl rfl dX5_refuse_5 ?_
    refine z_if_ne (tgt := 16) C (by omega) dX5_refuse_8 (by decide) (fun h8 => ?_) (fun h8 => ?_)
    · exact absurd ht h8
    · refine lv_aload_n C.1 C.2.1 dX5_refuse_11 rfl (lv_at hl 0 rfl) ?_
      refine lv_iload_n C.1 C.2.1 dX5_refuse_12 rfl (lv_at hl 2 rfl) ?_
      refine zo_put C B (Cn := RX5) (T := TX5) (N := 5) (fs2 := [.int (iZ (w)), .int (ac), .int (re), .int (kn)]) rfl inX5 tyX5 tyX5_ok nmX5 0 (by decide) fl_X5_13 rfl rfl (by decide +kernel) (Nat.le_of_ble_eq_true rfl) rfl dX5_refuse_13 (fun H locs B => ?_)
      refine lv_aload_n C.1 C.2.1 dX5_refuse_16 rfl (lv_at hl 0 rfl) ?_
      refine zo_get C B (Cn := RX5) (T := TX5) (N := 5) (v := .int (iZ (w))) rfl inX5 1 (by decide) fl_X5_13 rfl rfl dX5_refuse_17 ?_
      refine z_if_le (tgt := 27) C (by omega) dX5_refuse_20 (by decide) (fun h20 => ?_) (fun h20 => ?_)
      · exact absurd h20 (by omega)
      · refine z_iconst C dX5_refuse_23 ?_
        refine lv_goto (tgt := 28) C.1 C.2.1 dX5_refuse_24 (by decide) ?_
        exact zo_zret C B hr hk (Nat.le_of_ble_eq_true rfl) (Nat.le_of_ble_eq_true rfl) dX5_refuse_28 (by decide) (by exact congrArg (fun z : Int => some (Value.int (iZ z))) (by rfl)) (by rfl) (by rfl)

set_option maxHeartbeats 4000000 in
set_option maxRecDepth 100000 in
theorem c_X5_start_ok (l : Launch) (D : va_G) (cJ : ClassId) (o a : Nat) (c : Nat → Nat) (th : Int) (ac : Int32) (re : Int32) (kn : Int32) (b : Bool) (w : Int) (hb : b = false) : zA l yX5_start 1 44 0 0 D 4 cJ o a [.int (iZ (zB (b))), .int (iZ (w))] c [.int (iZ (th)), .int (ac), .int (re), .int (kn)] (fun v => v = some (.int (iZ (zB (false))))) (c) [.int (iZ (0)), .int (ac), .int (re), .int (kn)] := by
  refine zA.intro (lo := 22) (nA := 2) (own := RX5) zi_X5_start (by decide) rfl rfl (by decide +kernel) rfl (Nat.le_of_ble_eq_true rfl) ?_
  intro p e s m below meth c0 ls C hr hk B hl
  have hl : lv_has ls 3 [(0, .ref o), (1, .int (iZ (zB (b)))), (2, .int (iZ (w)))] := hl
  refine lv_aload_n C.1 C.2.1 dX5_start_0 rfl (lv_at hl 0 rfl) ?_
  refine z_iconst C dX5_start_1 ?_
  refine zo_put C B (Cn := RX5) (T := TX5) (N := 5) (fs2 := [.int (iZ (0)), .int (ac), .int (re), .int (kn)]) rfl inX5 tyX5 tyX5_ok nmX5 0 (by decide) fl_X5_13 rfl rfl (by decide +kernel) (Nat.le_of_ble_eq_true rfl) rfl dX5_start_2 (fun H locs B => ?_)
  refine lv_aload_n C.1 C.2.1 dX5_start_5 rfl (lv_at hl 0 rfl) ?_
  refine lv_iload_n C.1 C.2.1 dX5_start_6 rfl (lv_at hl 1 rfl) ?_
  refine lv_iload_n C.1 C.2.1 dX5_start_7 rfl (lv_at hl 2 rfl) ?_
  refine zo_callD C B (r := some (.int (iZ (zB (false))))) (c_X5_refuse_ok l D cJ o a (c) (0) (ac) (re) (kn) (b) (w) (by exact hb) (by rfl)) ml_X5_17 rfl ⟨Nat.le_of_ble_eq_true rfl, Nat.le_of_ble_eq_true rfl⟩ ⟨Nat.le_of_ble_eq_true rfl, Nat.le_of_ble_eq_true rfl⟩ hl (Nat.le_of_ble_eq_true rfl) rfl dX5_start_8 (fun H locs B => ?_)
  exact zo_zret C B hr hk (Nat.le_of_ble_eq_true rfl) (Nat.le_of_ble_eq_true rfl) dX5_start_11 (z_nB _) (by exact congrArg (fun z : Int => some (Value.int (iZ z))) (by rfl)) (by rfl) (by rfl)

set_option maxHeartbeats 4000000 in
set_option maxRecDepth 100000 in
theorem c_X5_start_bad (l : Launch) (D : va_G) (cJ : ClassId) (o a : Nat) (c : Nat → Nat) (th : Int) (ac : Int32) (re : Int32) (kn : Int32) (b : Bool) (w : Int) (hb : b = true) (hw0 : 1 ≤ w ∧ w ≤ 2) : zA l yX5_start 1 44 0 0 D 4 cJ o a [.int (iZ (zB (b))), .int (iZ (w))] c [.int (iZ (th)), .int (ac), .int (re), .int (kn)] (fun v => v = some (.int (iZ (zB (true))))) (c) [.int (iZ (w)), .int (ac), .int (re), .int (kn)] := by
  refine zA.intro (lo := 22) (nA := 2) (own := RX5) zi_X5_start (by decide) rfl rfl (by decide +kernel) rfl (Nat.le_of_ble_eq_true rfl) ?_
  intro p e s m below meth c0 ls C hr hk B hl
  have hl : lv_has ls 3 [(0, .ref o), (1, .int (iZ (zB (b)))), (2, .int (iZ (w)))] := hl
  refine lv_aload_n C.1 C.2.1 dX5_start_0 rfl (lv_at hl 0 rfl) ?_
  refine z_iconst C dX5_start_1 ?_
  refine zo_put C B (Cn := RX5) (T := TX5) (N := 5) (fs2 := [.int (iZ (0)), .int (ac), .int (re), .int (kn)]) rfl inX5 tyX5 tyX5_ok nmX5 0 (by decide) fl_X5_13 rfl rfl (by decide +kernel) (Nat.le_of_ble_eq_true rfl) rfl dX5_start_2 (fun H locs B => ?_)
  refine lv_aload_n C.1 C.2.1 dX5_start_5 rfl (lv_at hl 0 rfl) ?_
  refine lv_iload_n C.1 C.2.1 dX5_start_6 rfl (lv_at hl 1 rfl) ?_
  refine lv_iload_n C.1 C.2.1 dX5_start_7 rfl (lv_at hl 2 rfl) ?_
  refine zo_callD C B (r := some (.int (iZ (zB (true))))) (c_X5_refuse_bad l D cJ o a (c) (0) (ac) (re) (kn) (b) (w) (by exact hb) (by rfl) (by exact hw0)) ml_X5_17 rfl ⟨Nat.le_of_ble_eq_true rfl, Nat.le_of_ble_eq_true rfl⟩ ⟨Nat.le_of_ble_eq_true rfl, Nat.le_of_ble_eq_true rfl⟩ hl (Nat.le_of_ble_eq_true rfl) rfl dX5_start_8 (fun H locs B => ?_)
  exact zo_zret C B hr hk (Nat.le_of_ble_eq_true rfl) (Nat.le_of_ble_eq_true rfl) dX5_start_11 (z_nB _) (by exact congrArg (fun z : Int => some (Value.int (iZ z))) (by rfl)) (by rfl) (by rfl)

set_option maxHeartbeats 4000000 in
set_option maxRecDepth 100000 in
theorem c_X5_lay (l : Launch) (D : va_G) (cJ : ClassId) (o a : Nat) (c : Nat → Nat) (th : Int) (ac : Int32) (re : Int32) (kn : Int32) (z : Int) (x : Nat) (hz : 0 ≤ z ∧ z ≤ 5) (hx : x < 8589934592) : zA l yX5_lay 1 44 0 0 D 4 cJ o a [.int (iZ (z)), .long (lN (x))] c [.int (iZ (th)), .int (ac), .int (re), .int (kn)] (fun v => v = some (.int (iZ (aR c z.toNat (some x))))) (aC c z.toNat (some x)) [.int (iZ (th)), .int (aA ac (some x)), .int (aF re (some x)), .int (kn)] := by
  refine zA.intro (lo := 20) (nA := 2) (own := RX5) zi_X5_lay (by decide) rfl rfl (by decide +kernel) rfl (Nat.le_of_ble_eq_true rfl) ?_
  intro p e s m below meth c0 ls C hr hk B hl
  have hl : lv_has ls 5 [(0, .ref o), (1, .int (iZ (z))), (2, .long (lN (x)))] := hl
  refine lv_aload_n C.1 C.2.1 dX5_lay_0 rfl (lv_at hl 0 rfl) ?_
  refine zo_get C B (Cn := RX5) (T := TX5) (N := 5) (v := .ref a) rfl inX5 0 (by decide) fl_X5_7 rfl rfl dX5_lay_1 ?_
  refine lv_iload_n C.1 C.2.1 dX5_lay_4 rfl (lv_at hl 1 rfl) ?_
  refine zo_lald C B ((z).toNat) (by omega) (by omega) dX5_lay_5 ?_
  have q5 := B.1.2.2.2 ((z).toNat)
  refine lv_lload_n C.1 C.2.1 dX5_lay_6 rfl (lv_at hl 2 rfl) ?_
  refine z_lc_eq (tgt := 15) C (by first | assumption | omega | rfl | exact decide_eq_false (by omega) | exact decide_eq_true (by assumption) | exact decide_eq_true (by omega) | exact one_shl33 (by omega) | exact pm_lt _ _ | exact rm_lt (by first | assumption | exact pm_lt _ _) | exact Nat.lt_of_le_of_lt (Nat.shiftRight_le _ _) (by assumption) | exact Nat.lt_of_le_of_lt Nat.and_le_right (by omega)) (by first | assumption | omega | rfl | exact decide_eq_false (by omega) | exact decide_eq_true (by assumption) | exact decide_eq_true (by omega) | exact one_shl33 (by omega) | exact pm_lt _ _ | exact rm_lt (by first | assumption | exact pm_lt _ _) | exact Nat.lt_of_le_of_lt (Nat.shiftRight_le _ _) (by assumption) | exact Nat.lt_of_le_of_lt Nat.and_le_right (by omega)) dX5_lay_7 dX5_lay_8 (by decide) (fun h7 => ?_) (fun h7 => ?_)
  · refine z_iconst C dX5_lay_15 ?_
    refine z_call C (c_X5_one l (false) ) ml_X5_29 ⟨by decide, by decide⟩ ⟨Nat.le_of_ble_eq_true rfl, Nat.le_of_ble_eq_true rfl⟩ hl (Nat.le_of_ble_eq_true rfl) rfl dX5_lay_16 ?_
    have q16_0 := zB_rng (false)
    refine lv_istore (lv' := [(4, .int (iZ (zB (false)))), (0, .ref o), (1, .int (iZ (z))), (2, .long (lN (x)))]) C.1 C.2.1 dX5_lay_19 hl (by decide) rfl (fun ls hl => ?_)
    refine lv_aload_n C.1 C.2.1 dX5_lay_21 rfl (lv_at hl 1 rfl) ?_
    refine zo_get C B (Cn := RX5) (T := TX5) (N := 5) (v := .ref a) rfl inX5 0 (by decide) fl_X5_7 rfl rfl dX5_lay_22 ?_
    refine lv_iload_n C.1 C.2.1 dX5_lay_25 rfl (lv_at hl 2 rfl) ?_
    refine lv_lload_n C.1 C.2.1 dX5_lay_26 rfl (lv_at hl 3 rfl) ?_
    refine zo_last C B ((z).toNat) (by omega) (by omega) (by first | assumption | omega | rfl | exact decide_eq_false (by omega) | exact decide_eq_true (by assumption) | exact decide_eq_true (by omega) | exact one_shl33 (by omega) | exact pm_lt _ _ | exact rm_lt (by first | assumption | exact pm_lt _ _) | exact Nat.lt_of_le_of_lt (Nat.shiftRight_le _ _) (by assumption) | exact Nat.lt_of_le_of_lt Nat.and_le_right (by omega)) dX5_lay_27 (fun H locs B => ?_)
    refine lv_aload_n C.1 C.2.1 dX5_lay_28 rfl (lv_at hl 1 rfl) ?_
    refine lv_dup C.1 C.2.1 dX5_lay_29 rfl ?_
    refine zo_get C B (Cn := RX5) (T := TX5) (N := 5) (v := .int (ac)) rfl inX5 2 (by decide) fl_X5_53 rfl rfl dX5_lay_30 ?_
    refine z_iconst C dX5_lay_33 ?_
    refine lv_iadd C.1 C.2.1 dX5_lay_34 ?_
    refine zo_put C B (Cn := RX5) (T := TX5) (N := 5) (fs2 := [.int (iZ (th)), .int ((ac) + iZ (1)), .int (re), .int (kn)]) rfl inX5 tyX5 tyX5_ok nmX5 1 (by decide) fl_X5_53 rfl rfl (by decide +kernel) (Nat.le_of_ble_eq_true rfl) rfl dX5_lay_35 (fun H locs B => ?_)
    refine lv_iload C.1 C.2.1 dX5_lay_38 (lv_at hl 0 rfl) ?_
    exact zo_iret C B hr hk (Nat.le_of_ble_eq_true rfl) (Nat.le_of_ble_eq_true rfl) dX5_lay_40 (by exact congrArg (fun z : Int => some (Value.int (iZ z))) (by exact (if_pos h7).symm)) (by rfl) (by rfl)
  · refine z_iconst C dX5_lay_11 ?_
    refine lv_goto (tgt := 16) C.1 C.2.1 dX5_lay_12 (by decide) ?_
    refine z_call C (c_X5_one l (true) ) ml_X5_29 ⟨by decide, by decide⟩ ⟨Nat.le_of_ble_eq_true rfl, Nat.le_of_ble_eq_true rfl⟩ hl (Nat.le_of_ble_eq_true rfl) rfl dX5_lay_16 ?_
    have q16_0 := zB_rng (true)
    refine lv_istore (lv' := [(4, .int (iZ (zB (true)))), (0, .ref o), (1, .int (iZ (z))), (2, .long (lN (x)))]) C.1 C.2.1 dX5_lay_19 hl (by decide) rfl (fun ls hl => ?_)
    refine lv_aload_n C.1 C.2.1 dX5_lay_21 rfl (lv_at hl 1 rfl) ?_
    refine zo_get C B (Cn := RX5) (T := TX5) (N := 5) (v := .ref a) rfl inX5 0 (by decide) fl_X5_7 rfl rfl dX5_lay_22 ?_
    refine lv_iload_n C.1 C.2.1 dX5_lay_25 rfl (lv_at hl 2 rfl) ?_
    refine lv_lload_n C.1 C.2.1 dX5_lay_26 rfl (lv_at hl 3 rfl) ?_
    refine zo_last C B ((z).toNat) (by omega) (by omega) (by first | assumption | omega | rfl | exact decide_eq_false (by omega) | exact decide_eq_true (by assumption) | exact decide_eq_true (by omega) | exact one_shl33 (by omega) | exact pm_lt _ _ | exact rm_lt (by first | assumption | exact pm_lt _ _) | exact Nat.lt_of_le_of_lt (Nat.shiftRight_le _ _) (by assumption) | exact Nat.lt_of_le_of_lt Nat.and_le_right (by omega)) dX5_lay_27 (fun H locs B => ?_)
    refine lv_aload_n C.1 C.2.1 dX5_lay_28 rfl (lv_at hl 1 rfl) ?_
    refine lv_dup C.1 C.2.1 dX5_lay_29 rfl ?_
    refine zo_get C B (Cn := RX5) (T := TX5) (N := 5) (v := .int (ac)) rfl inX5 2 (by decide) fl_X5_53 rfl rfl dX5_lay_30 ?_
    refine z_iconst C dX5_lay_33 ?_
    refine lv_iadd C.1 C.2.1 dX5_lay_34 ?_
    refine zo_put C B (Cn := RX5) (T := TX5) (N := 5) (fs2 := [.int (iZ (th)), .int ((ac) + iZ (1)), .int (re), .int (kn)]) rfl inX5 tyX5 tyX5_ok nmX5 1 (by decide) fl_X5_53 rfl rfl (by decide +kernel) (Nat.le_of_ble_eq_true rfl) rfl dX5_lay_35 (fun H locs B => ?_)
    refine lv_iload C.1 C.2.1 dX5_lay_38 (lv_at hl 0 rfl) ?_
    exact zo_iret C B hr hk (Nat.le_of_ble_eq_true rfl) (Nat.le_of_ble_eq_true rfl) dX5_lay_40 (by exact congrArg (fun z : Int => some (Value.int (iZ z))) (by exact (if_neg h7).symm)) (by rfl) (by rfl)

set_option maxHeartbeats 4000000 in
set_option maxRecDepth 100000 in
theorem c_X5_no (l : Launch) (D : va_G) (cJ : ClassId) (o a : Nat) (c : Nat → Nat) (th : Int) (ac : Int32) (re : Int32) (kn : Int32)  : zA l yX5_no 0 20 0 0 D 4 cJ o a [] c [.int (iZ (th)), .int (ac), .int (re), .int (kn)] (fun v => v = some (.int (iZ (-9)))) (c) [.int (iZ (th)), .int (ac), .int (aF re none), .int (kn)] := by
  refine zA.intro (lo := 0) (nA := 0) (own := RX5) zi_X5_no (by decide) rfl rfl (by decide +kernel) rfl (Nat.le_of_ble_eq_true rfl) ?_
  intro p e s m below meth c0 ls C hr hk B hl
  have hl : lv_has ls 1 [(0, .ref o)] := hl
  refine lv_aload_n C.1 C.2.1 dX5_no_0 rfl (lv_at hl 0 rfl) ?_
  refine lv_dup C.1 C.2.1 dX5_no_1 rfl ?_
  refine zo_get C B (Cn := RX5) (T := TX5) (N := 5) (v := .int (re)) rfl inX5 3 (by decide) fl_X5_56 rfl rfl dX5_no_2 ?_
  refine z_iconst C dX5_no_5 ?_
  refine lv_iadd C.1 C.2.1 dX5_no_6 ?_
  refine zo_put C B (Cn := RX5) (T := TX5) (N := 5) (fs2 := [.int (iZ (th)), .int (ac), .int ((re) + iZ (1)), .int (kn)]) rfl inX5 tyX5 tyX5_ok nmX5 2 (by decide) fl_X5_56 rfl rfl (by decide +kernel) (Nat.le_of_ble_eq_true rfl) rfl dX5_no_7 (fun H locs B => ?_)
  refine z_bipush C dX5_no_10 (by decide) ?_
  exact zo_iret C B hr hk (Nat.le_of_ble_eq_true rfl) (Nat.le_of_ble_eq_true rfl) dX5_no_12 (by exact congrArg (fun z : Int => some (Value.int (iZ z))) (by rfl)) (by rfl) (by rfl)

set_option maxHeartbeats 4000000 in
set_option maxRecDepth 100000 in
theorem c_X5_layIf (l : Launch) (D : va_G) (cJ : ClassId) (o a : Nat) (c : Nat → Nat) (th : Int) (ac : Int32) (re : Int32) (kn : Int32) (b : Bool) (z : Int) (x : Nat) (hz : 0 ≤ z ∧ z ≤ 5) (hx : b = true → x < 8589934592) : zA l yX5_layIf 2 68 0 0 D 4 cJ o a [.int (iZ (zB (b))), .int (iZ (z)), .long (lN (x))] c [.int (iZ (th)), .int (ac), .int (re), .int (kn)] (fun v => v = some (.int (iZ (aR c (z.toNat) (if b = true then some x else none))))) (aC c (z.toNat) (if b = true then some x else none)) [.int (iZ (th)), .int (aA ac (if b = true then some x else none)), .int (aF re (if b = true then some x else none)), .int (kn)] := by
  refine zA.intro (lo := 44) (nA := 3) (own := RX5) zi_X5_layIf (by decide) rfl rfl (by decide +kernel) rfl (Nat.le_of_ble_eq_true rfl) ?_
  intro p e s m below meth c0 ls C hr hk B hl
  have hl : lv_has ls 5 [(0, .ref o), (1, .int (iZ (zB (b)))), (2, .int (iZ (z))), (3, .long (lN (x)))] := hl
  refine lv_iload_n C.1 C.2.1 dX5_layIf_0 rfl (lv_at hl 1 rfl) ?_
  refine z_ifB_eq (tgt := 13) C dX5_layIf_1 (by decide) (fun h1 => ?_) (fun h1 => ?_)
  · refine lv_aload_n C.1 C.2.1 dX5_layIf_13 rfl (lv_at hl 0 rfl) ?_
    refine zo_callD C B (r := some (.int (iZ (-9)))) (c_X5_no l D cJ o a (c) (th) (ac) (re) (kn)  ) ml_X5_63 rfl ⟨Nat.le_of_ble_eq_true rfl, Nat.le_of_ble_eq_true rfl⟩ ⟨Nat.le_of_ble_eq_true rfl, Nat.le_of_ble_eq_true rfl⟩ hl (Nat.le_of_ble_eq_true rfl) rfl dX5_layIf_14 (fun H locs B => ?_)
    have hw : (if b = true then some x else none) = none := by rw [if_neg (by rw [h1]; decide)]
    exact zo_iret C B hr hk (Nat.le_of_ble_eq_true rfl) (Nat.le_of_ble_eq_true rfl) dX5_layIf_17 (by show some _ = some _; rw [hw] <;> rfl) (by rw [hw] <;> rfl) (by rw [hw] <;> rfl)
  · refine lv_aload_n C.1 C.2.1 dX5_layIf_4 rfl (lv_at hl 0 rfl) ?_
    refine lv_iload_n C.1 C.2.1 dX5_layIf_5 rfl (lv_at hl 2 rfl) ?_
    refine lv_lload_n C.1 C.2.1 dX5_layIf_6 rfl (lv_at hl 3 rfl) ?_
    refine zo_callD C B (r := some (.int (iZ (aR (c) (z).toNat (some (x)))))) (c_X5_lay l D cJ o a (c) (th) (ac) (re) (kn) (z) (x) (by omega) (by exact hx h1)) ml_X5_59 rfl ⟨Nat.le_of_ble_eq_true rfl, Nat.le_of_ble_eq_true rfl⟩ ⟨Nat.le_of_ble_eq_true rfl, Nat.le_of_ble_eq_true rfl⟩ hl (Nat.le_of_ble_eq_true rfl) rfl dX5_layIf_7 (fun H locs B => ?_)
    have q7_0 := aR_rng ((c)) (z).toNat (some (x))
    refine lv_goto (tgt := 17) C.1 C.2.1 dX5_layIf_10 (by decide) ?_
    have hw : (if b = true then some x else none) = some (x) := by rw [if_pos h1]
    exact zo_iret C B hr hk (Nat.le_of_ble_eq_true rfl) (Nat.le_of_ble_eq_true rfl) dX5_layIf_17 (by show some _ = some _; rw [hw] <;> rfl) (by rw [hw] <;> rfl) (by rw [hw] <;> rfl)

set_option maxHeartbeats 4000000 in
set_option maxRecDepth 100000 in
theorem c_X5_multiply (l : Launch) (D : va_G) (cJ : ClassId) (o a : Nat) (c : Nat → Nat) (th : Int) (ac : Int32) (re : Int32) (kn : Int32) (x : Nat) (y : Nat) (z : Int) (hx : x < 8589934592) (hy : y < 8589934592) (hz : 0 ≤ z ∧ z ≤ 5) : zA l yX5_multiply 3 93 0 0 D 4 cJ o a [.long (lN (x)), .long (lN (y)), .int (iZ (z))] c [.int (iZ (th)), .int (ac), .int (re), .int (kn)] (fun v => v = some (.int (iZ (aR c (z.toNat) (wT x y))))) (aC c (z.toNat) (wT x y)) [.int (iZ (th)), .int (aA ac (wT x y)), .int (aF re (wT x y)), .int (kn)] := by
  refine zA.intro (lo := 68) (nA := 3) (own := RX5) zi_X5_multiply (by decide) rfl rfl (by decide +kernel) rfl (Nat.le_of_ble_eq_true rfl) ?_
  intro p e s m below meth c0 ls C hr hk B hl
  have hl : lv_has ls 6 [(0, .ref o), (1, .long (lN (x))), (3, .long (lN (y))), (5, .int (iZ (z)))] := hl
  refine lv_aload_n C.1 C.2.1 dX5_multiply_0 rfl (lv_at hl 0 rfl) ?_
  refine lv_lload_n C.1 C.2.1 dX5_multiply_1 rfl (lv_at hl 1 rfl) ?_
  refine z_call C (c_X5_degreeOf l (x) (by first | assumption | omega | rfl | exact decide_eq_false (by omega) | exact decide_eq_true (by assumption) | exact decide_eq_true (by omega) | exact one_shl33 (by omega) | exact pm_lt _ _ | exact rm_lt (by first | assumption | exact pm_lt _ _) | exact Nat.lt_of_le_of_lt (Nat.shiftRight_le _ _) (by assumption) | exact Nat.lt_of_le_of_lt Nat.and_le_right (by omega))) ml_X5_33 ⟨by decide, by decide⟩ ⟨Nat.le_of_ble_eq_true rfl, Nat.le_of_ble_eq_true rfl⟩ hl (Nat.le_of_ble_eq_true rfl) rfl dX5_multiply_2 ?_
  have q2_0 := tp_rngE (x) (by first | assumption | omega | exact pm_lt _ _ | exact rm_lt (by assumption))
  refine lv_lload_n C.1 C.2.1 dX5_multiply_5 rfl (lv_at hl 2 rfl) ?_
  refine z_call C (c_X5_degreeOf l (y) (by first | assumption | omega | rfl | exact decide_eq_false (by omega) | exact decide_eq_true (by assumption) | exact decide_eq_true (by omega) | exact one_shl33 (by omega) | exact pm_lt _ _ | exact rm_lt (by first | assumption | exact pm_lt _ _) | exact Nat.lt_of_le_of_lt (Nat.shiftRight_le _ _) (by assumption) | exact Nat.lt_of_le_of_lt Nat.and_le_right (by omega))) ml_X5_33 ⟨by decide, by decide⟩ ⟨Nat.le_of_ble_eq_true rfl, Nat.le_of_ble_eq_true rfl⟩ hl (Nat.le_of_ble_eq_true rfl) rfl dX5_multiply_6 ?_
  have q6_0 := tp_rngE (y) (by first | assumption | omega | exact pm_lt _ _ | exact rm_lt (by assumption))
  refine z_iadd C dX5_multiply_9 ?_
  refine z_bipush C dX5_multiply_10 (by decide) ?_
  refine z_icmp_gt (tgt := 19) C (by omega) (by omega) dX5_multiply_12 (by decide) (fun h12 => ?_) (fun h12 => ?_)
  · refine z_iconst C dX5_multiply_19 ?_
    refine lv_iload C.1 C.2.1 dX5_multiply_20 (lv_at hl 3 rfl) ?_
    refine lv_lload_n C.1 C.2.1 dX5_multiply_22 rfl (lv_at hl 1 rfl) ?_
    refine lv_lload_n C.1 C.2.1 dX5_multiply_23 rfl (lv_at hl 2 rfl) ?_
    refine z_call C (c_X5_product l (x) (y) (by first | assumption | omega | rfl | exact decide_eq_false (by omega) | exact decide_eq_true (by assumption) | exact decide_eq_true (by omega) | exact one_shl33 (by omega) | exact pm_lt _ _ | exact rm_lt (by first | assumption | exact pm_lt _ _) | exact Nat.lt_of_le_of_lt (Nat.shiftRight_le _ _) (by assumption) | exact Nat.lt_of_le_of_lt Nat.and_le_right (by omega))) ml_X5_41 ⟨by decide, by decide⟩ ⟨Nat.le_of_ble_eq_true rfl, Nat.le_of_ble_eq_true rfl⟩ hl (Nat.le_of_ble_eq_true rfl) rfl dX5_multiply_24 ?_
    refine zo_callD C B (r := some (.int (iZ (aR (c) ((z).toNat) (if (false) = true then some (pm (x) (y)) else none))))) (c_X5_layIf l D cJ o a (c) (th) (ac) (re) (kn) (false) (z) (pm (x) (y)) (by omega) (by exact fun h => absurd h (by decide))) ml_X5_86 rfl ⟨Nat.le_of_ble_eq_true rfl, Nat.le_of_ble_eq_true rfl⟩ ⟨Nat.le_of_ble_eq_true rfl, Nat.le_of_ble_eq_true rfl⟩ hl (Nat.le_of_ble_eq_true rfl) rfl dX5_multiply_27 (fun H locs B => ?_)
    have q27_0 := aR_rng ((c)) ((z).toNat) (if (false) = true then some (pm (x) (y)) else none)
    have hw : (wT x y) = if (false) = true then some (pm (x) (y)) else none := by show wT x y = none; have g1 := tp33.mp hx; have g2 := tp33.mp hy; exact if_pos ⟨fun h => absurd h12 (by rw [h, tp_0]; omega), fun h => absurd h12 (by rw [h, tp_0]; omega), by omega⟩
    exact zo_iret C B hr hk (Nat.le_of_ble_eq_true rfl) (Nat.le_of_ble_eq_true rfl) dX5_multiply_30 (by show some _ = some _; rw [hw] <;> rfl) (by rw [hw] <;> rfl) (by rw [hw] <;> rfl)
  · refine z_iconst C dX5_multiply_15 ?_
    refine lv_goto (tgt := 20) C.1 C.2.1 dX5_multiply_16 (by decide) ?_
    refine lv_iload C.1 C.2.1 dX5_multiply_20 (lv_at hl 3 rfl) ?_
    refine lv_lload_n C.1 C.2.1 dX5_multiply_22 rfl (lv_at hl 1 rfl) ?_
    refine lv_lload_n C.1 C.2.1 dX5_multiply_23 rfl (lv_at hl 2 rfl) ?_
    refine z_call C (c_X5_product l (x) (y) (by first | assumption | omega | rfl | exact decide_eq_false (by omega) | exact decide_eq_true (by assumption) | exact decide_eq_true (by omega) | exact one_shl33 (by omega) | exact pm_lt _ _ | exact rm_lt (by first | assumption | exact pm_lt _ _) | exact Nat.lt_of_le_of_lt (Nat.shiftRight_le _ _) (by assumption) | exact Nat.lt_of_le_of_lt Nat.and_le_right (by omega))) ml_X5_41 ⟨by decide, by decide⟩ ⟨Nat.le_of_ble_eq_true rfl, Nat.le_of_ble_eq_true rfl⟩ hl (Nat.le_of_ble_eq_true rfl) rfl dX5_multiply_24 ?_
    refine zo_callD C B (r := some (.int (iZ (aR (c) ((z).toNat) (if (true) = true then some (pm (x) (y)) else none))))) (c_X5_layIf l D cJ o a (c) (th) (ac) (re) (kn) (true) (z) (pm (x) (y)) (by omega) (by exact fun _ => pm33 hy (by omega))) ml_X5_86 rfl ⟨Nat.le_of_ble_eq_true rfl, Nat.le_of_ble_eq_true rfl⟩ ⟨Nat.le_of_ble_eq_true rfl, Nat.le_of_ble_eq_true rfl⟩ hl (Nat.le_of_ble_eq_true rfl) rfl dX5_multiply_27 (fun H locs B => ?_)
    have q27_0 := aR_rng ((c)) ((z).toNat) (if (true) = true then some (pm (x) (y)) else none)
    have hw : (wT x y) = if (true) = true then some (pm (x) (y)) else none := by show wT x y = some (pm x y); exact wT_0 (Or.inr (Or.inr (by omega)))
    exact zo_iret C B hr hk (Nat.le_of_ble_eq_true rfl) (Nat.le_of_ble_eq_true rfl) dX5_multiply_30 (by show some _ = some _; rw [hw] <;> rfl) (by rw [hw] <;> rfl) (by rw [hw] <;> rfl)

set_option maxHeartbeats 4000000 in
set_option maxRecDepth 100000 in
theorem c_X5_put (l : Launch) (D : va_G) (cJ : ClassId) (o a : Nat) (c : Nat → Nat) (th : Int) (ac : Int32) (re : Int32) (kn : Int32) (z : Int) (g : Int) (hz : 0 ≤ z ∧ z ≤ 5) (hg : -2147483648 ≤ g ∧ g ≤ 2147483647) : zA l yX5_put 2 66 0 0 D 4 cJ o a [.int (iZ (z)), .int (iZ (g))] c [.int (iZ (th)), .int (ac), .int (re), .int (kn)] (fun v => v = some (.int (iZ (aR c (z.toNat) (some ((g % 18446744073709551616).toNat &&& 4294967295)))))) (aC c (z.toNat) (some ((g % 18446744073709551616).toNat &&& 4294967295))) [.int (iZ (0)), .int (aA ac (some ((g % 18446744073709551616).toNat &&& 4294967295))), .int (aF re (some ((g % 18446744073709551616).toNat &&& 4294967295))), .int (kn)] := by
  refine zA.intro (lo := 44) (nA := 2) (own := RX5) zi_X5_put (by decide) rfl rfl (by decide +kernel) rfl (Nat.le_of_ble_eq_true rfl) ?_
  intro p e s m below meth c0 ls C hr hk B hl
  have hl : lv_has ls 3 [(0, .ref o), (1, .int (iZ (z))), (2, .int (iZ (g)))] := hl
  refine lv_aload_n C.1 C.2.1 dX5_put_0 rfl (lv_at hl 0 rfl) ?_
  refine lv_iload_n C.1 C.2.1 dX5_put_1 rfl (lv_at hl 1 rfl) ?_
  refine z_call C (c_X5_isNo l (z) (by first | assumption | omega | rfl | exact decide_eq_false (by omega) | exact decide_eq_true (by assumption) | exact decide_eq_true (by omega) | exact one_shl33 (by omega) | exact pm_lt _ _ | exact rm_lt (by first | assumption | exact pm_lt _ _) | exact Nat.lt_of_le_of_lt (Nat.shiftRight_le _ _) (by assumption) | exact Nat.lt_of_le_of_lt Nat.and_le_right (by omega))) ml_X5_67 ⟨by decide, by decide⟩ ⟨Nat.le_of_ble_eq_true rfl, Nat.le_of_ble_eq_true rfl⟩ hl (Nat.le_of_ble_eq_true rfl) rfl dX5_put_2 ?_
  refine z_iconst C dX5_put_5 ?_
  refine zo_callD C B (r := some (.int (iZ (zB (false))))) (c_X5_start_ok l D cJ o a (c) (th) (ac) (re) (kn) (decide (¬ (0 ≤ (z) ∧ (z) ≤ 5))) (1 : Int) (by first | assumption | omega | rfl | exact decide_eq_false (by omega) | exact decide_eq_true (by assumption) | exact decide_eq_true (by omega) | exact one_shl33 (by omega) | exact pm_lt _ _ | exact rm_lt (by first | assumption | exact pm_lt _ _) | exact Nat.lt_of_le_of_lt (Nat.shiftRight_le _ _) (by assumption) | exact Nat.lt_of_le_of_lt Nat.and_le_right (by omega))) ml_X5_71 rfl ⟨Nat.le_of_ble_eq_true rfl, Nat.le_of_ble_eq_true rfl⟩ ⟨Nat.le_of_ble_eq_true rfl, Nat.le_of_ble_eq_true rfl⟩ hl (Nat.le_of_ble_eq_true rfl) rfl dX5_put_6 (fun H locs B => ?_)
  refine z_ifB_eq (tgt := 16) C dX5_put_9 (by decide) (fun h9 => ?_) (fun h9 => ?_)
  · refine lv_aload_n C.1 C.2.1 dX5_put_16 rfl (lv_at hl 0 rfl) ?_
    refine lv_iload_n C.1 C.2.1 dX5_put_17 rfl (lv_at hl 1 rfl) ?_
    refine lv_iload_n C.1 C.2.1 dX5_put_18 rfl (lv_at hl 2 rfl) ?_
    refine z_i2lA C (by omega) dX5_put_19 ?_
    refine z_ldc2 C 4294967295 (T0_of kl_X5_74 rfl) (by decide) dX5_put_20 ?_
    refine z_land C dX5_put_23 ?_
    refine zo_callD C B (r := some (.int (iZ (aR (c) (z).toNat (some ((((g) % 18446744073709551616).toNat) &&& (4294967295))))))) (c_X5_lay l D cJ o a (c) (0) ((ac)) ((re)) ((kn)) (z) ((((g) % 18446744073709551616).toNat) &&& (4294967295)) (by omega) (by exact Nat.lt_of_le_of_lt Nat.and_le_right (by omega))) ml_X5_59 rfl ⟨Nat.le_of_ble_eq_true rfl, Nat.le_of_ble_eq_true rfl⟩ ⟨Nat.le_of_ble_eq_true rfl, Nat.le_of_ble_eq_true rfl⟩ hl (Nat.le_of_ble_eq_true rfl) rfl dX5_put_24 (fun H locs B => ?_)
    have q24_0 := aR_rng ((c)) (z).toNat (some ((((g) % 18446744073709551616).toNat) &&& (4294967295)))
    have hw : (some ((g % 18446744073709551616).toNat &&& 4294967295)) = some ((((g) % 18446744073709551616).toNat) &&& (4294967295)) := by rfl
    exact zo_iret C B hr hk (Nat.le_of_ble_eq_true rfl) (Nat.le_of_ble_eq_true rfl) dX5_put_27 (by show some _ = some _; rw [hw] <;> rfl) (by rw [hw] <;> rfl) (by rw [hw] <;> rfl)
  · exact absurd h9 (by decide)

set_option maxHeartbeats 4000000 in
set_option maxRecDepth 100000 in
theorem c_X5_mono (l : Launch) (D : va_G) (cJ : ClassId) (o a : Nat) (c : Nat → Nat) (th : Int) (ac : Int32) (re : Int32) (kn : Int32) (z : Int) (g : Int) (hz : 0 ≤ z ∧ z ≤ 5) (hg : 0 ≤ g ∧ g ≤ 32) : zA l yX5_mono 2 66 0 0 D 4 cJ o a [.int (iZ (z)), .int (iZ (g))] c [.int (iZ (th)), .int (ac), .int (re), .int (kn)] (fun v => v = some (.int (iZ (aR c (z.toNat) (some (1 <<< g.toNat)))))) (aC c (z.toNat) (some (1 <<< g.toNat))) [.int (iZ (0)), .int (aA ac (some (1 <<< g.toNat))), .int (aF re (some (1 <<< g.toNat))), .int (kn)] := by
  refine zA.intro (lo := 44) (nA := 2) (own := RX5) zi_X5_mono (by decide) rfl rfl (by decide +kernel) rfl (Nat.le_of_ble_eq_true rfl) ?_
  intro p e s m below meth c0 ls C hr hk B hl
  have hl : lv_has ls 3 [(0, .ref o), (1, .int (iZ (z))), (2, .int (iZ (g)))] := hl
  refine lv_aload_n C.1 C.2.1 dX5_mono_0 rfl (lv_at hl 0 rfl) ?_
  refine lv_iload_n C.1 C.2.1 dX5_mono_1 rfl (lv_at hl 1 rfl) ?_
  refine z_call C (c_X5_isNo l (z) (by first | assumption | omega | rfl | exact decide_eq_false (by omega) | exact decide_eq_true (by assumption) | exact decide_eq_true (by omega) | exact one_shl33 (by omega) | exact pm_lt _ _ | exact rm_lt (by first | assumption | exact pm_lt _ _) | exact Nat.lt_of_le_of_lt (Nat.shiftRight_le _ _) (by assumption) | exact Nat.lt_of_le_of_lt Nat.and_le_right (by omega))) ml_X5_67 ⟨by decide, by decide⟩ ⟨Nat.le_of_ble_eq_true rfl, Nat.le_of_ble_eq_true rfl⟩ hl (Nat.le_of_ble_eq_true rfl) rfl dX5_mono_2 ?_
  refine z_iconst C dX5_mono_5 ?_
  refine zo_callD C B (r := some (.int (iZ (zB (false))))) (c_X5_start_ok l D cJ o a (c) (th) (ac) (re) (kn) (decide (¬ (0 ≤ (z) ∧ (z) ≤ 5))) (1 : Int) (by first | assumption | omega | rfl | exact decide_eq_false (by omega) | exact decide_eq_true (by assumption) | exact decide_eq_true (by omega) | exact one_shl33 (by omega) | exact pm_lt _ _ | exact rm_lt (by first | assumption | exact pm_lt _ _) | exact Nat.lt_of_le_of_lt (Nat.shiftRight_le _ _) (by assumption) | exact Nat.lt_of_le_of_lt Nat.and_le_right (by omega))) ml_X5_71 rfl ⟨Nat.le_of_ble_eq_true rfl, Nat.le_of_ble_eq_true rfl⟩ ⟨Nat.le_of_ble_eq_true rfl, Nat.le_of_ble_eq_true rfl⟩ hl (Nat.le_of_ble_eq_true rfl) rfl dX5_mono_6 (fun H locs B => ?_)
  refine z_ifB_ne (tgt := 35) C dX5_mono_9 (by decide) (fun h9 => ?_) (fun h9 => ?_)
  · exact absurd h9 (by decide)
  · refine lv_aload_n C.1 C.2.1 dX5_mono_12 rfl (lv_at hl 0 rfl) ?_
    refine lv_iload_n C.1 C.2.1 dX5_mono_13 rfl (lv_at hl 2 rfl) ?_
    refine z_iconst C dX5_mono_14 ?_
    refine z_bipush C dX5_mono_15 (by decide) ?_
    refine z_call C (c_X5_isIn l (g) (0 : Int) (32 : Int) (by first | assumption | omega | rfl | exact decide_eq_false (by omega) | exact decide_eq_true (by assumption) | exact decide_eq_true (by omega) | exact one_shl33 (by omega) | exact pm_lt _ _ | exact rm_lt (by first | assumption | exact pm_lt _ _) | exact Nat.lt_of_le_of_lt (Nat.shiftRight_le _ _) (by assumption) | exact Nat.lt_of_le_of_lt Nat.and_le_right (by omega)) (by first | assumption | omega | rfl | exact decide_eq_false (by omega) | exact decide_eq_true (by assumption) | exact decide_eq_true (by omega) | exact one_shl33 (by omega) | exact pm_lt _ _ | exact rm_lt (by first | assumption | exact pm_lt _ _) | exact Nat.lt_of_le_of_lt (Nat.shiftRight_le _ _) (by assumption) | exact Nat.lt_of_le_of_lt Nat.and_le_right (by omega)) (by first | assumption | omega | rfl | exact decide_eq_false (by omega) | exact decide_eq_true (by assumption) | exact decide_eq_true (by omega) | exact one_shl33 (by omega) | exact pm_lt _ _ | exact rm_lt (by first | assumption | exact pm_lt _ _) | exact Nat.lt_of_le_of_lt (Nat.shiftRight_le _ _) (by assumption) | exact Nat.lt_of_le_of_lt Nat.and_le_right (by omega))) ml_X5_21 ⟨by decide, by decide⟩ ⟨Nat.le_of_ble_eq_true rfl, Nat.le_of_ble_eq_true rfl⟩ hl (Nat.le_of_ble_eq_true rfl) rfl dX5_mono_17 ?_
    refine z_ifB_ne (tgt := 27) C dX5_mono_20 (by decide) (fun h20 => ?_) (fun h20 => ?_)
    · refine z_iconst C dX5_mono_27 ?_
      refine z_iconst C dX5_mono_28 ?_
      refine zo_callD C B (r := some (.int (iZ (zB (false))))) (c_X5_refuse_ok l D cJ o a (c) (0) ((ac)) ((re)) ((kn)) (false) (2 : Int) (by first | assumption | omega | rfl | exact decide_eq_false (by omega) | exact decide_eq_true (by assumption) | exact decide_eq_true (by omega) | exact one_shl33 (by omega) | exact pm_lt _ _ | exact rm_lt (by first | assumption | exact pm_lt _ _) | exact Nat.lt_of_le_of_lt (Nat.shiftRight_le _ _) (by assumption) | exact Nat.lt_of_le_of_lt Nat.and_le_right (by omega)) (by first | assumption | omega | rfl | exact decide_eq_false (by omega) | exact decide_eq_true (by assumption) | exact decide_eq_true (by omega) | exact one_shl33 (by omega) | exact pm_lt _ _ | exact rm_lt (by first | assumption | exact pm_lt _ _) | exact Nat.lt_of_le_of_lt (Nat.shiftRight_le _ _) (by assumption) | exact Nat.lt_of_le_of_lt Nat.and_le_right (by omega))) ml_X5_17 rfl ⟨Nat.le_of_ble_eq_true rfl, Nat.le_of_ble_eq_true rfl⟩ ⟨Nat.le_of_ble_eq_true rfl, Nat.le_of_ble_eq_true rfl⟩ hl (Nat.le_of_ble_eq_true rfl) rfl dX5_mono_29 (fun H locs B => ?_)
      refine z_ifB_eq (tgt := 39) C dX5_mono_32 (by decide) (fun h32 => ?_) (fun h32 => ?_)
      · refine lv_aload_n C.1 C.2.1 dX5_mono_39 rfl (lv_at hl 0 rfl) ?_
        refine lv_iload_n C.1 C.2.1 dX5_mono_40 rfl (lv_at hl 1 rfl) ?_
        refine z_lconst (k0 := 1) C dX5_mono_41 rfl ?_
        refine lv_iload_n C.1 C.2.1 dX5_mono_42 rfl (lv_at hl 2 rfl) ?_
        refine z_lshl C ((g).toNat) (by omega) (by omega) dX5_mono_43 ?_
        refine zo_callD C B (r := some (.int (iZ (aR (c) (z).toNat (some ((1) <<< ((g).toNat))))))) (c_X5_lay l D cJ o a (c) ((0)) (((ac))) (((re))) (((kn))) (z) ((1) <<< ((g).toNat)) (by first | assumption | omega | rfl | exact decide_eq_false (by omega) | exact decide_eq_true (by assumption) | exact decide_eq_true (by omega) | exact one_shl33 (by omega) | exact pm_lt _ _ | exact rm_lt (by first | assumption | exact pm_lt _ _) | exact Nat.lt_of_le_of_lt (Nat.shiftRight_le _ _) (by assumption) | exact Nat.lt_of_le_of_lt Nat.and_le_right (by omega)) (by first | assumption | omega | rfl | exact decide_eq_false (by omega) | exact decide_eq_true (by assumption) | exact decide_eq_true (by omega) | exact one_shl33 (by omega) | exact pm_lt _ _ | exact rm_lt (by first | assumption | exact pm_lt _ _) | exact Nat.lt_of_le_of_lt (Nat.shiftRight_le _ _) (by assumption) | exact Nat.lt_of_le_of_lt Nat.and_le_right (by omega))) ml_X5_59 rfl ⟨Nat.le_of_ble_eq_true rfl, Nat.le_of_ble_eq_true rfl⟩ ⟨Nat.le_of_ble_eq_true rfl, Nat.le_of_ble_eq_true rfl⟩ hl (Nat.le_of_ble_eq_true rfl) rfl dX5_mono_44 (fun H locs B => ?_)
        have q44_0 := aR_rng ((c)) (z).toNat (some ((1) <<< ((g).toNat)))
        have hw : (some (1 <<< g.toNat)) = some ((1) <<< ((g).toNat)) := by rfl
        exact zo_iret C B hr hk (Nat.le_of_ble_eq_true rfl) (Nat.le_of_ble_eq_true rfl) dX5_mono_47 (by show some _ = some _; rw [hw] <;> rfl) (by rw [hw] <;> rfl) (by rw [hw] <;> rfl)
      · exact absurd h32 (by decide)
    · exact absurd (of_decide_eq_false h20) (by omega)

set_option maxHeartbeats 4000000 in
set_option maxRecDepth 100000 in
theorem c_X5_digit (l : Launch) (D : va_G) (cJ : ClassId) (o a : Nat) (c : Nat → Nat) (th : Int) (ac : Int32) (re : Int32) (kn : Int32) (z : Int) (g : Int) (b : Bool) (hz : 0 ≤ z ∧ z ≤ 5) (hg : 0 ≤ g ∧ g ≤ 32) : zA l yX5_digit 2 68 0 0 D 4 cJ o a [.int (iZ (z)), .int (iZ (g)), .int (iZ (zB (b)))] c [.int (iZ (th)), .int (ac), .int (re), .int (kn)] (fun v => v = some (.int (iZ (zB (tb (c z.toNat) g))))) (aC c z.toNat (some (dgm (c z.toNat) g b))) [.int (iZ (0)), .int (aA ac (some 0)), .int (re), .int (kn)] := by
  refine zA.intro (lo := 44) (nA := 3) (own := RX5) zi_X5_digit (by decide) rfl rfl (by decide +kernel) rfl (Nat.le_of_ble_eq_true rfl) ?_
  intro p e s m below meth c0 ls C hr hk B hl
  have hl : lv_has ls 5 [(0, .ref o), (1, .int (iZ (z))), (2, .int (iZ (g))), (3, .int (iZ (zB (b))))] := hl
  refine lv_aload_n C.1 C.2.1 dX5_digit_0 rfl (lv_at hl 0 rfl) ?_
  refine lv_iload_n C.1 C.2.1 dX5_digit_1 rfl (lv_at hl 1 rfl) ?_
  refine z_call C (c_X5_isNo l (z) (by first | assumption | omega | rfl | exact decide_eq_false (by omega) | exact decide_eq_true (by assumption) | exact decide_eq_true (by omega) | exact one_shl33 (by omega) | exact pm_lt _ _ | exact rm_lt (by first | assumption | exact pm_lt _ _) | exact Nat.lt_of_le_of_lt (Nat.shiftRight_le _ _) (by assumption) | exact Nat.lt_of_le_of_lt Nat.and_le_right (by omega))) ml_X5_67 ⟨by decide, by decide⟩ ⟨Nat.le_of_ble_eq_true rfl, Nat.le_of_ble_eq_true rfl⟩ hl (Nat.le_of_ble_eq_true rfl) rfl dX5_digit_2 ?_
  refine z_iconst C dX5_digit_5 ?_
  refine zo_callD C B (r := some (.int (iZ (zB (false))))) (c_X5_start_ok l D cJ o a (c) (th) (ac) (re) (kn) (decide (¬ (0 ≤ (z) ∧ (z) ≤ 5))) (1 : Int) (by first | assumption | omega | rfl | exact decide_eq_false (by omega) | exact decide_eq_true (by assumption) | exact decide_eq_true (by omega) | exact one_shl33 (by omega) | exact pm_lt _ _ | exact rm_lt (by first | assumption | exact pm_lt _ _) | exact Nat.lt_of_le_of_lt (Nat.shiftRight_le _ _) (by assumption) | exact Nat.lt_of_le_of_lt Nat.and_le_right (by omega))) ml_X5_71 rfl ⟨Nat.le_of_ble_eq_true rfl, Nat.le_of_ble_eq_true rfl⟩ ⟨Nat.le_of_ble_eq_true rfl, Nat.le_of_ble_eq_true rfl⟩ hl (Nat.le_of_ble_eq_true rfl) rfl dX5_digit_6 (fun H locs B => ?_)
  refine z_ifB_ne (tgt := 35) C dX5_digit_9 (by decide) (fun h9 => ?_) (fun h9 => ?_)
  · exact absurd h9 (by decide)
  · refine lv_aload_n C.1 C.2.1 dX5_digit_12 rfl (lv_at hl 0 rfl) ?_
    refine lv_iload_n C.1 C.2.1 dX5_digit_13 rfl (lv_at hl 2 rfl) ?_
    refine z_iconst C dX5_digit_14 ?_
    refine z_bipush C dX5_digit_15 (by decide) ?_
    refine z_call C (c_X5_isIn l (g) (0 : Int) (32 : Int) (by first | assumption | omega | rfl | exact decide_eq_false (by omega) | exact decide_eq_true (by assumption) | exact decide_eq_true (by omega) | exact one_shl33 (by omega) | exact pm_lt _ _ | exact rm_lt (by first | assumption | exact pm_lt _ _) | exact Nat.lt_of_le_of_lt (Nat.shiftRight_le _ _) (by assumption) | exact Nat.lt_of_le_of_lt Nat.and_le_right (by omega)) (by first | assumption | omega | rfl | exact decide_eq_false (by omega) | exact decide_eq_true (by assumption) | exact decide_eq_true (by omega) | exact one_shl33 (by omega) | exact pm_lt _ _ | exact rm_lt (by first | assumption | exact pm_lt _ _) | exact Nat.lt_of_le_of_lt (Nat.shiftRight_le _ _) (by assumption) | exact Nat.lt_of_le_of_lt Nat.and_le_right (by omega)) (by first | assumption | omega | rfl | exact decide_eq_false (by omega) | exact decide_eq_true (by assumption) | exact decide_eq_true (by omega) | exact one_shl33 (by omega) | exact pm_lt _ _ | exact rm_lt (by first | assumption | exact pm_lt _ _) | exact Nat.lt_of_le_of_lt (Nat.shiftRight_le _ _) (by assumption) | exact Nat.lt_of_le_of_lt Nat.and_le_right (by omega))) ml_X5_21 ⟨by decide, by decide⟩ ⟨Nat.le_of_ble_eq_true rfl, Nat.le_of_ble_eq_true rfl⟩ hl (Nat.le_of_ble_eq_true rfl) rfl dX5_digit_17 ?_
    refine z_ifB_ne (tgt := 27) C dX5_digit_20 (by decide) (fun h20 => ?_) (fun h20 => ?_)
    · refine z_iconst C dX5_digit_27 ?_
      refine z_iconst C dX5_digit_28 ?_
      refine zo_callD C B (r := some (.int (iZ (zB (false))))) (c_X5_refuse_ok l D cJ o a (c) (0) ((ac)) ((re)) ((kn)) (false) (2 : Int) (by first | assumption | omega | rfl | exact decide_eq_false (by omega) | exact decide_eq_true (by assumption) | exact decide_eq_true (by omega) | exact one_shl33 (by omega) | exact pm_lt _ _ | exact rm_lt (by first | assumption | exact pm_lt _ _) | exact Nat.lt_of_le_of_lt (Nat.shiftRight_le _ _) (by assumption) | exact Nat.lt_of_le_of_lt Nat.and_le_right (by omega)) (by first | assumption | omega | rfl | exact decide_eq_false (by omega) | exact decide_eq_true (by assumption) | exact decide_eq_true (by omega) | exact one_shl33 (by omega) | exact pm_lt _ _ | exact rm_lt (by first | assumption | exact pm_lt _ _) | exact Nat.lt_of_le_of_lt (Nat.shiftRight_le _ _) (by assumption) | exact Nat.lt_of_le_of_lt Nat.and_le_right (by omega))) ml_X5_17 rfl ⟨Nat.le_of_ble_eq_true rfl, Nat.le_of_ble_eq_true rfl⟩ ⟨Nat.le_of_ble_eq_true rfl, Nat.le_of_ble_eq_true rfl⟩ hl (Nat.le_of_ble_eq_true rfl) rfl dX5_digit_29 (fun H locs B => ?_)
      refine z_ifB_eq (tgt := 37) C dX5_digit_32 (by decide) (fun h32 => ?_) (fun h32 => ?_)
      · refine lv_aload_n C.1 C.2.1 dX5_digit_37 rfl (lv_at hl 0 rfl) ?_
        refine zo_get C B (Cn := RX5) (T := TX5) (N := 5) (v := .ref a) rfl inX5 0 (by decide) fl_X5_7 rfl rfl dX5_digit_38 ?_
        refine lv_iload_n C.1 C.2.1 dX5_digit_41 rfl (lv_at hl 1 rfl) ?_
        refine zo_lald C B ((z).toNat) (by omega) (by omega) dX5_digit_42 ?_
        have q42 := B.1.2.2.2 ((z).toNat)
        refine lv_iload_n C.1 C.2.1 dX5_digit_43 rfl (lv_at hl 2 rfl) ?_
        refine z_call C (c_X5_has l (c ((z).toNat)) (g) (by first | assumption | omega | rfl | exact decide_eq_false (by omega) | exact decide_eq_true (by assumption) | exact decide_eq_true (by omega) | exact one_shl33 (by omega) | exact pm_lt _ _ | exact rm_lt (by first | assumption | exact pm_lt _ _) | exact Nat.lt_of_le_of_lt (Nat.shiftRight_le _ _) (by assumption) | exact Nat.lt_of_le_of_lt Nat.and_le_right (by omega)) (by first | assumption | omega | rfl | exact decide_eq_false (by omega) | exact decide_eq_true (by assumption) | exact decide_eq_true (by omega) | exact one_shl33 (by omega) | exact pm_lt _ _ | exact rm_lt (by first | assumption | exact pm_lt _ _) | exact Nat.lt_of_le_of_lt (Nat.shiftRight_le _ _) (by assumption) | exact Nat.lt_of_le_of_lt Nat.and_le_right (by omega))) ml_X5_25 ⟨by decide, by decide⟩ ⟨Nat.le_of_ble_eq_true rfl, Nat.le_of_ble_eq_true rfl⟩ hl (Nat.le_of_ble_eq_true rfl) rfl dX5_digit_44 ?_
        refine lv_istore (lv' := [(4, .int (iZ (zB (tb (c ((z).toNat)) (g))))), (0, .ref o), (1, .int (iZ (z))), (2, .int (iZ (g))), (3, .int (iZ (zB (b))))]) C.1 C.2.1 dX5_digit_47 hl (by decide) rfl (fun ls hl => ?_)
        refine lv_aload_n C.1 C.2.1 dX5_digit_49 rfl (lv_at hl 1 rfl) ?_
        refine lv_iload_n C.1 C.2.1 dX5_digit_50 rfl (lv_at hl 2 rfl) ?_
        refine lv_iload C.1 C.2.1 dX5_digit_51 (lv_at hl 0 rfl) ?_
        refine lv_iload_n C.1 C.2.1 dX5_digit_53 rfl (lv_at hl 4 rfl) ?_
        refine z_icmp_ne (tgt := 66) C (by have := zB_rng (tb (c z.toNat) g); omega) (by have := zB_rng b; omega) dX5_digit_54 (by decide) (fun h54 => ?_) (fun h54 => ?_)
        · refine lv_aload_n C.1 C.2.1 dX5_digit_66 rfl (lv_at hl 1 rfl) ?_
          refine zo_get C B (Cn := RX5) (T := TX5) (N := 5) (v := .ref a) rfl inX5 0 (by decide) fl_X5_7 rfl rfl dX5_digit_67 ?_
          refine lv_iload_n C.1 C.2.1 dX5_digit_70 rfl (lv_at hl 2 rfl) ?_
          refine zo_lald C B ((z).toNat) (by omega) (by omega) dX5_digit_71 ?_
          have q71 := B.1.2.2.2 ((z).toNat)
          refine z_lconst (k0 := 1) C dX5_digit_72 rfl ?_
          refine lv_iload_n C.1 C.2.1 dX5_digit_73 rfl (lv_at hl 3 rfl) ?_
          refine z_lshl C ((g).toNat) (by omega) (by omega) dX5_digit_74 ?_
          refine z_lxor C dX5_digit_75 ?_
          refine zo_callD C B (r := some (.int (iZ (aR (c) (z).toNat (some ((c ((z).toNat)) ^^^ ((1) <<< ((g).toNat)))))))) (c_X5_lay l D cJ o a (c) ((0)) (((ac))) (((re))) (((kn))) (z) ((c ((z).toNat)) ^^^ ((1) <<< ((g).toNat))) (by omega) (by exact xor33 (by assumption) (one_shl33 (by omega)))) ml_X5_59 rfl ⟨Nat.le_of_ble_eq_true rfl, Nat.le_of_ble_eq_true rfl⟩ ⟨Nat.le_of_ble_eq_true rfl, Nat.le_of_ble_eq_true rfl⟩ hl (Nat.le_of_ble_eq_true rfl) rfl dX5_digit_76 (fun H locs B => ?_)
          have q76_0 := aR_rng ((c)) (z).toNat (some ((c ((z).toNat)) ^^^ ((1) <<< ((g).toNat))))
          refine lv_pop C.1 C.2.1 dX5_digit_79 rfl ?_
          refine lv_iload C.1 C.2.1 dX5_digit_80 (lv_at hl 0 rfl) ?_
          exact zo_zret C B hr hk (Nat.le_of_ble_eq_true rfl) (Nat.le_of_ble_eq_true rfl) dX5_digit_82 (z_nB _) (by exact congrArg (fun z : Int => some (Value.int (iZ z))) (by rfl)) (by rw [dgm, if_neg h54]) (by rfl)
        · refine lv_aload_n C.1 C.2.1 dX5_digit_57 rfl (lv_at hl 1 rfl) ?_
          refine zo_get C B (Cn := RX5) (T := TX5) (N := 5) (v := .ref a) rfl inX5 0 (by decide) fl_X5_7 rfl rfl dX5_digit_58 ?_
          refine lv_iload_n C.1 C.2.1 dX5_digit_61 rfl (lv_at hl 2 rfl) ?_
          refine zo_lald C B ((z).toNat) (by omega) (by omega) dX5_digit_62 ?_
          have q62 := B.1.2.2.2 ((z).toNat)
          refine lv_goto (tgt := 76) C.1 C.2.1 dX5_digit_63 (by decide) ?_
          refine zo_callD C B (r := some (.int (iZ (aR (c) (z).toNat (some (c ((z).toNat))))))) (c_X5_lay l D cJ o a (c) ((0)) (((ac))) (((re))) (((kn))) (z) (c ((z).toNat)) (by omega) (by assumption)) ml_X5_59 rfl ⟨Nat.le_of_ble_eq_true rfl, Nat.le_of_ble_eq_true rfl⟩ ⟨Nat.le_of_ble_eq_true rfl, Nat.le_of_ble_eq_true rfl⟩ hl (Nat.le_of_ble_eq_true rfl) rfl dX5_digit_76 (fun H locs B => ?_)
          have q76_0 := aR_rng ((c)) (z).toNat (some (c ((z).toNat)))
          refine lv_pop C.1 C.2.1 dX5_digit_79 rfl ?_
          refine lv_iload C.1 C.2.1 dX5_digit_80 (lv_at hl 0 rfl) ?_
          exact zo_zret C B hr hk (Nat.le_of_ble_eq_true rfl) (Nat.le_of_ble_eq_true rfl) dX5_digit_82 (z_nB _) (by exact congrArg (fun z : Int => some (Value.int (iZ z))) (by rfl)) (by rw [dgm, if_pos h54]) (by rfl)
      · exact absurd h32 (by decide)
    · exact absurd (of_decide_eq_false h20) (by omega)

set_option maxHeartbeats 4000000 in
set_option maxRecDepth 100000 in
theorem c_X5_flip (l : Launch) (D : va_G) (cJ : ClassId) (o a : Nat) (c : Nat → Nat) (th : Int) (ac : Int32) (re : Int32) (kn : Int32) (z : Int) (g : Int) (hz : 0 ≤ z ∧ z ≤ 5) (hg : 0 ≤ g ∧ g ≤ 32) : zA l yX5_flip 2 66 0 0 D 4 cJ o a [.int (iZ (z)), .int (iZ (g))] c [.int (iZ (th)), .int (ac), .int (re), .int (kn)] (fun v => v = some (.int (iZ (zB (tb (c z.toNat ^^^ (1 <<< g.toNat)) g))))) (aC c z.toNat (some (c z.toNat ^^^ (1 <<< g.toNat)))) [.int (iZ (0)), .int (aA ac (some 0)), .int (re), .int (kn)] := by
  refine zA.intro (lo := 44) (nA := 2) (own := RX5) zi_X5_flip (by decide) rfl rfl (by decide +kernel) rfl (Nat.le_of_ble_eq_true rfl) ?_
  intro p e s m below meth c0 ls C hr hk B hl
  have hl : lv_has ls 3 [(0, .ref o), (1, .int (iZ (z))), (2, .int (iZ (g)))] := hl
  refine lv_aload_n C.1 C.2.1 dX5_flip_0 rfl (lv_at hl 0 rfl) ?_
  refine lv_iload_n C.1 C.2.1 dX5_flip_1 rfl (lv_at hl 1 rfl) ?_
  refine z_call C (c_X5_isNo l (z) (by first | assumption | omega | rfl | exact decide_eq_false (by omega) | exact decide_eq_true (by assumption) | exact decide_eq_true (by omega) | exact one_shl33 (by omega) | exact pm_lt _ _ | exact rm_lt (by first | assumption | exact pm_lt _ _) | exact Nat.lt_of_le_of_lt (Nat.shiftRight_le _ _) (by assumption) | exact Nat.lt_of_le_of_lt Nat.and_le_right (by omega))) ml_X5_67 ⟨by decide, by decide⟩ ⟨Nat.le_of_ble_eq_true rfl, Nat.le_of_ble_eq_true rfl⟩ hl (Nat.le_of_ble_eq_true rfl) rfl dX5_flip_2 ?_
  refine z_iconst C dX5_flip_5 ?_
  refine zo_callD C B (r := some (.int (iZ (zB (false))))) (c_X5_start_ok l D cJ o a (c) (th) (ac) (re) (kn) (decide (¬ (0 ≤ (z) ∧ (z) ≤ 5))) (1 : Int) (by first | assumption | omega | rfl | exact decide_eq_false (by omega) | exact decide_eq_true (by assumption) | exact decide_eq_true (by omega) | exact one_shl33 (by omega) | exact pm_lt _ _ | exact rm_lt (by first | assumption | exact pm_lt _ _) | exact Nat.lt_of_le_of_lt (Nat.shiftRight_le _ _) (by assumption) | exact Nat.lt_of_le_of_lt Nat.and_le_right (by omega))) ml_X5_71 rfl ⟨Nat.le_of_ble_eq_true rfl, Nat.le_of_ble_eq_true rfl⟩ ⟨Nat.le_of_ble_eq_true rfl, Nat.le_of_ble_eq_true rfl⟩ hl (Nat.le_of_ble_eq_true rfl) rfl dX5_flip_6 (fun H locs B => ?_)
  refine z_ifB_ne (tgt := 35) C dX5_flip_9 (by decide) (fun h9 => ?_) (fun h9 => ?_)
  · exact absurd h9 (by decide)
  · refine lv_aload_n C.1 C.2.1 dX5_flip_12 rfl (lv_at hl 0 rfl) ?_
    refine lv_iload_n C.1 C.2.1 dX5_flip_13 rfl (lv_at hl 2 rfl) ?_
    refine z_iconst C dX5_flip_14 ?_
    refine z_bipush C dX5_flip_15 (by decide) ?_
    refine z_call C (c_X5_isIn l (g) (0 : Int) (32 : Int) (by first | assumption | omega | rfl | exact decide_eq_false (by omega) | exact decide_eq_true (by assumption) | exact decide_eq_true (by omega) | exact one_shl33 (by omega) | exact pm_lt _ _ | exact rm_lt (by first | assumption | exact pm_lt _ _) | exact Nat.lt_of_le_of_lt (Nat.shiftRight_le _ _) (by assumption) | exact Nat.lt_of_le_of_lt Nat.and_le_right (by omega)) (by first | assumption | omega | rfl | exact decide_eq_false (by omega) | exact decide_eq_true (by assumption) | exact decide_eq_true (by omega) | exact one_shl33 (by omega) | exact pm_lt _ _ | exact rm_lt (by first | assumption | exact pm_lt _ _) | exact Nat.lt_of_le_of_lt (Nat.shiftRight_le _ _) (by assumption) | exact Nat.lt_of_le_of_lt Nat.and_le_right (by omega)) (by first | assumption | omega | rfl | exact decide_eq_false (by omega) | exact decide_eq_true (by assumption) | exact decide_eq_true (by omega) | exact one_shl33 (by omega) | exact pm_lt _ _ | exact rm_lt (by first | assumption | exact pm_lt _ _) | exact Nat.lt_of_le_of_lt (Nat.shiftRight_le _ _) (by assumption) | exact Nat.lt_of_le_of_lt Nat.and_le_right (by omega))) ml_X5_21 ⟨by decide, by decide⟩ ⟨Nat.le_of_ble_eq_true rfl, Nat.le_of_ble_eq_true rfl⟩ hl (Nat.le_of_ble_eq_true rfl) rfl dX5_flip_17 ?_
    refine z_ifB_ne (tgt := 27) C dX5_flip_20 (by decide) (fun h20 => ?_) (fun h20 => ?_)
    · refine z_iconst C dX5_flip_27 ?_
      refine z_iconst C dX5_flip_28 ?_
      refine zo_callD C B (r := some (.int (iZ (zB (false))))) (c_X5_refuse_ok l D cJ o a (c) (0) ((ac)) ((re)) ((kn)) (false) (2 : Int) (by first | assumption | omega | rfl | exact decide_eq_false (by omega) | exact decide_eq_true (by assumption) | exact decide_eq_true (by omega) | exact one_shl33 (by omega) | exact pm_lt _ _ | exact rm_lt (by first | assumption | exact pm_lt _ _) | exact Nat.lt_of_le_of_lt (Nat.shiftRight_le _ _) (by assumption) | exact Nat.lt_of_le_of_lt Nat.and_le_right (by omega)) (by first | assumption | omega | rfl | exact decide_eq_false (by omega) | exact decide_eq_true (by assumption) | exact decide_eq_true (by omega) | exact one_shl33 (by omega) | exact pm_lt _ _ | exact rm_lt (by first | assumption | exact pm_lt _ _) | exact Nat.lt_of_le_of_lt (Nat.shiftRight_le _ _) (by assumption) | exact Nat.lt_of_le_of_lt Nat.and_le_right (by omega))) ml_X5_17 rfl ⟨Nat.le_of_ble_eq_true rfl, Nat.le_of_ble_eq_true rfl⟩ ⟨Nat.le_of_ble_eq_true rfl, Nat.le_of_ble_eq_true rfl⟩ hl (Nat.le_of_ble_eq_true rfl) rfl dX5_flip_29 (fun H locs B => ?_)
      refine z_ifB_eq (tgt := 37) C dX5_flip_32 (by decide) (fun h32 => ?_) (fun h32 => ?_)
      · refine lv_aload_n C.1 C.2.1 dX5_flip_37 rfl (lv_at hl 0 rfl) ?_
        refine lv_iload_n C.1 C.2.1 dX5_flip_38 rfl (lv_at hl 1 rfl) ?_
        refine lv_aload_n C.1 C.2.1 dX5_flip_39 rfl (lv_at hl 0 rfl) ?_
        refine zo_get C B (Cn := RX5) (T := TX5) (N := 5) (v := .ref a) rfl inX5 0 (by decide) fl_X5_7 rfl rfl dX5_flip_40 ?_
        refine lv_iload_n C.1 C.2.1 dX5_flip_43 rfl (lv_at hl 1 rfl) ?_
        refine zo_lald C B ((z).toNat) (by omega) (by omega) dX5_flip_44 ?_
        have q44 := B.1.2.2.2 ((z).toNat)
        refine z_lconst (k0 := 1) C dX5_flip_45 rfl ?_
        refine lv_iload_n C.1 C.2.1 dX5_flip_46 rfl (lv_at hl 2 rfl) ?_
        refine z_lshl C ((g).toNat) (by omega) (by omega) dX5_flip_47 ?_
        refine z_lxor C dX5_flip_48 ?_
        refine zo_callD C B (r := some (.int (iZ (aR (c) (z).toNat (some ((c ((z).toNat)) ^^^ ((1) <<< ((g).toNat)))))))) (c_X5_lay l D cJ o a (c) ((0)) (((ac))) (((re))) (((kn))) (z) ((c ((z).toNat)) ^^^ ((1) <<< ((g).toNat))) (by omega) (by exact xor33 (by assumption) (one_shl33 (by omega)))) ml_X5_59 rfl ⟨Nat.le_of_ble_eq_true rfl, Nat.le_of_ble_eq_true rfl⟩ ⟨Nat.le_of_ble_eq_true rfl, Nat.le_of_ble_eq_true rfl⟩ hl (Nat.le_of_ble_eq_true rfl) rfl dX5_flip_49 (fun H locs B => ?_)
        have q49_0 := aR_rng ((c)) (z).toNat (some ((c ((z).toNat)) ^^^ ((1) <<< ((g).toNat))))
        refine lv_pop C.1 C.2.1 dX5_flip_52 rfl ?_
        refine lv_aload_n C.1 C.2.1 dX5_flip_53 rfl (lv_at hl 0 rfl) ?_
        refine zo_get C B (Cn := RX5) (T := TX5) (N := 5) (v := .ref a) rfl inX5 0 (by decide) fl_X5_7 rfl rfl dX5_flip_54 ?_
        refine lv_iload_n C.1 C.2.1 dX5_flip_57 rfl (lv_at hl 1 rfl) ?_
        refine zo_lald C B ((z).toNat) (by omega) (by omega) dX5_flip_58 ?_
        have q58 := B.1.2.2.2 ((z).toNat)
        refine lv_iload_n C.1 C.2.1 dX5_flip_59 rfl (lv_at hl 2 rfl) ?_
        refine z_call C (c_X5_has l ((aC (c) (z).toNat (some ((c ((z).toNat)) ^^^ ((1) <<< ((g).toNat))))) ((z).toNat)) (g) (by first | assumption | omega | rfl | exact decide_eq_false (by omega) | exact decide_eq_true (by assumption) | exact decide_eq_true (by omega) | exact one_shl33 (by omega) | exact pm_lt _ _ | exact rm_lt (by first | assumption | exact pm_lt _ _) | exact Nat.lt_of_le_of_lt (Nat.shiftRight_le _ _) (by assumption) | exact Nat.lt_of_le_of_lt Nat.and_le_right (by omega)) (by first | assumption | omega | rfl | exact decide_eq_false (by omega) | exact decide_eq_true (by assumption) | exact decide_eq_true (by omega) | exact one_shl33 (by omega) | exact pm_lt _ _ | exact rm_lt (by first | assumption | exact pm_lt _ _) | exact Nat.lt_of_le_of_lt (Nat.shiftRight_le _ _) (by assumption) | exact Nat.lt_of_le_of_lt Nat.and_le_right (by omega))) ml_X5_25 ⟨by decide, by decide⟩ ⟨Nat.le_of_ble_eq_true rfl, Nat.le_of_ble_eq_true rfl⟩ hl (Nat.le_of_ble_eq_true rfl) rfl dX5_flip_60 ?_
        exact zo_zret C B hr hk (Nat.le_of_ble_eq_true rfl) (Nat.le_of_ble_eq_true rfl) dX5_flip_63 (z_nB _) (by exact congrArg (fun z : Int => some (Value.int (iZ z))) (by show zB (tb (zu c z.toNat _ z.toNat) g) = _; rw [zu_s])) (by rfl) (by rfl)
      · exact absurd h32 (by decide)
    · exact absurd (of_decide_eq_false h20) (by omega)

set_option maxHeartbeats 4000000 in
set_option maxRecDepth 100000 in
theorem c_X5_copy (l : Launch) (D : va_G) (cJ : ClassId) (o a : Nat) (c : Nat → Nat) (th : Int) (ac : Int32) (re : Int32) (kn : Int32) (f : Int) (z : Int) (hf : 0 ≤ f ∧ f ≤ 5) (hz : 0 ≤ z ∧ z ≤ 5) : zA l yX5_copy 2 66 0 0 D 4 cJ o a [.int (iZ (f)), .int (iZ (z))] c [.int (iZ (th)), .int (ac), .int (re), .int (kn)] (fun v => v = some (.int (iZ (aR c (z.toNat) (some (c f.toNat)))))) (aC c (z.toNat) (some (c f.toNat))) [.int (iZ (0)), .int (aA ac (some (c f.toNat))), .int (aF re (some (c f.toNat))), .int (kn)] := by
  refine zA.intro (lo := 44) (nA := 2) (own := RX5) zi_X5_copy (by decide) rfl rfl (by decide +kernel) rfl (Nat.le_of_ble_eq_true rfl) ?_
  intro p e s m below meth c0 ls C hr hk B hl
  have hl : lv_has ls 3 [(0, .ref o), (1, .int (iZ (f))), (2, .int (iZ (z)))] := hl
  refine lv_aload_n C.1 C.2.1 dX5_copy_0 rfl (lv_at hl 0 rfl) ?_
  refine lv_iload_n C.1 C.2.1 dX5_copy_1 rfl (lv_at hl 1 rfl) ?_
  refine z_call C (c_X5_isNo l (f) (by first | assumption | omega | rfl | exact decide_eq_false (by omega) | exact decide_eq_true (by assumption) | exact decide_eq_true (by omega) | exact one_shl33 (by omega) | exact pm_lt _ _ | exact rm_lt (by first | assumption | exact pm_lt _ _) | exact Nat.lt_of_le_of_lt (Nat.shiftRight_le _ _) (by assumption) | exact Nat.lt_of_le_of_lt Nat.and_le_right (by omega))) ml_X5_67 ⟨by decide, by decide⟩ ⟨Nat.le_of_ble_eq_true rfl, Nat.le_of_ble_eq_true rfl⟩ hl (Nat.le_of_ble_eq_true rfl) rfl dX5_copy_2 ?_
  refine z_ifB_ne (tgt := 15) C dX5_copy_5 (by decide) (fun h5 => ?_) (fun h5 => ?_)
  · exact absurd (of_decide_eq_true h5) (by omega)
  · refine lv_iload_n C.1 C.2.1 dX5_copy_8 rfl (lv_at hl 2 rfl) ?_
    refine z_call C (c_X5_isNo l (z) (by first | assumption | omega | rfl | exact decide_eq_false (by omega) | exact decide_eq_true (by assumption) | exact decide_eq_true (by omega) | exact one_shl33 (by omega) | exact pm_lt _ _ | exact rm_lt (by first | assumption | exact pm_lt _ _) | exact Nat.lt_of_le_of_lt (Nat.shiftRight_le _ _) (by assumption) | exact Nat.lt_of_le_of_lt Nat.and_le_right (by omega))) ml_X5_67 ⟨by decide, by decide⟩ ⟨Nat.le_of_ble_eq_true rfl, Nat.le_of_ble_eq_true rfl⟩ hl (Nat.le_of_ble_eq_true rfl) rfl dX5_copy_9 ?_
    refine z_ifB_eq (tgt := 19) C dX5_copy_12 (by decide) (fun h12 => ?_) (fun h12 => ?_)
    · refine z_iconst C dX5_copy_19 ?_
      refine z_iconst C dX5_copy_20 ?_
      refine zo_callD C B (r := some (.int (iZ (zB (false))))) (c_X5_start_ok l D cJ o a (c) (th) (ac) (re) (kn) (false) (1 : Int) (by first | assumption | omega | rfl | exact decide_eq_false (by omega) | exact decide_eq_true (by assumption) | exact decide_eq_true (by omega) | exact one_shl33 (by omega) | exact pm_lt _ _ | exact rm_lt (by first | assumption | exact pm_lt _ _) | exact Nat.lt_of_le_of_lt (Nat.shiftRight_le _ _) (by assumption) | exact Nat.lt_of_le_of_lt Nat.and_le_right (by omega))) ml_X5_71 rfl ⟨Nat.le_of_ble_eq_true rfl, Nat.le_of_ble_eq_true rfl⟩ ⟨Nat.le_of_ble_eq_true rfl, Nat.le_of_ble_eq_true rfl⟩ hl (Nat.le_of_ble_eq_true rfl) rfl dX5_copy_21 (fun H locs B => ?_)
      refine z_ifB_eq (tgt := 31) C dX5_copy_24 (by decide) (fun h24 => ?_) (fun h24 => ?_)
      · refine lv_aload_n C.1 C.2.1 dX5_copy_31 rfl (lv_at hl 0 rfl) ?_
        refine lv_iload_n C.1 C.2.1 dX5_copy_32 rfl (lv_at hl 2 rfl) ?_
        refine lv_aload_n C.1 C.2.1 dX5_copy_33 rfl (lv_at hl 0 rfl) ?_
        refine zo_get C B (Cn := RX5) (T := TX5) (N := 5) (v := .ref a) rfl inX5 0 (by decide) fl_X5_7 rfl rfl dX5_copy_34 ?_
        refine lv_iload_n C.1 C.2.1 dX5_copy_37 rfl (lv_at hl 1 rfl) ?_
        refine zo_lald C B ((f).toNat) (by omega) (by omega) dX5_copy_38 ?_
        have q38 := B.1.2.2.2 ((f).toNat)
        refine zo_callD C B (r := some (.int (iZ (aR (c) (z).toNat (some (c ((f).toNat))))))) (c_X5_lay l D cJ o a (c) (0) ((ac)) ((re)) ((kn)) (z) (c ((f).toNat)) (by first | assumption | omega | rfl | exact decide_eq_false (by omega) | exact decide_eq_true (by assumption) | exact decide_eq_true (by omega) | exact one_shl33 (by omega) | exact pm_lt _ _ | exact rm_lt (by first | assumption | exact pm_lt _ _) | exact Nat.lt_of_le_of_lt (Nat.shiftRight_le _ _) (by assumption) | exact Nat.lt_of_le_of_lt Nat.and_le_right (by omega)) (by first | assumption | omega | rfl | exact decide_eq_false (by omega) | exact decide_eq_true (by assumption) | exact decide_eq_true (by omega) | exact one_shl33 (by omega) | exact pm_lt _ _ | exact rm_lt (by first | assumption | exact pm_lt _ _) | exact Nat.lt_of_le_of_lt (Nat.shiftRight_le _ _) (by assumption) | exact Nat.lt_of_le_of_lt Nat.and_le_right (by omega))) ml_X5_59 rfl ⟨Nat.le_of_ble_eq_true rfl, Nat.le_of_ble_eq_true rfl⟩ ⟨Nat.le_of_ble_eq_true rfl, Nat.le_of_ble_eq_true rfl⟩ hl (Nat.le_of_ble_eq_true rfl) rfl dX5_copy_39 (fun H locs B => ?_)
        have q39_0 := aR_rng ((c)) (z).toNat (some (c ((f).toNat)))
        have hw : (some (c f.toNat)) = some (c ((f).toNat)) := by rfl
        exact zo_iret C B hr hk (Nat.le_of_ble_eq_true rfl) (Nat.le_of_ble_eq_true rfl) dX5_copy_42 (by show some _ = some _; rw [hw] <;> rfl) (by rw [hw] <;> rfl) (by rw [hw] <;> rfl)
      · exact absurd h24 (by decide)
    · exact absurd (of_decide_eq_true h12) (by omega)

set_option maxHeartbeats 4000000 in
set_option maxRecDepth 100000 in
theorem c_X5_swap (l : Launch) (D : va_G) (cJ : ClassId) (o a : Nat) (c : Nat → Nat) (th : Int) (ac : Int32) (re : Int32) (kn : Int32) (f : Int) (z : Int) (hf : 0 ≤ f ∧ f ≤ 5) (hz : 0 ≤ z ∧ z ≤ 5) : zA l yX5_swap 2 68 0 0 D 4 cJ o a [.int (iZ (f)), .int (iZ (z))] c [.int (iZ (th)), .int (ac), .int (re), .int (kn)] (fun v => v = some (.int (iZ (aR (zu c f.toNat (c z.toNat)) z.toNat (some (c f.toNat)))))) (aC (zu c f.toNat (c z.toNat)) z.toNat (some (c f.toNat))) [.int (iZ (0)), .int (aA ac (some 0)), .int (re), .int (kn)] := by
  refine zA.intro (lo := 44) (nA := 2) (own := RX5) zi_X5_swap (by decide) rfl rfl (by decide +kernel) rfl (Nat.le_of_ble_eq_true rfl) ?_
  intro p e s m below meth c0 ls C hr hk B hl
  have hl : lv_has ls 5 [(0, .ref o), (1, .int (iZ (f))), (2, .int (iZ (z)))] := hl
  refine lv_aload_n C.1 C.2.1 dX5_swap_0 rfl (lv_at hl 0 rfl) ?_
  refine lv_iload_n C.1 C.2.1 dX5_swap_1 rfl (lv_at hl 1 rfl) ?_
  refine z_call C (c_X5_isNo l (f) (by first | assumption | omega | rfl | exact decide_eq_false (by omega) | exact decide_eq_true (by assumption) | exact decide_eq_true (by omega) | exact one_shl33 (by omega) | exact pm_lt _ _ | exact rm_lt (by first | assumption | exact pm_lt _ _) | exact Nat.lt_of_le_of_lt (Nat.shiftRight_le _ _) (by assumption) | exact Nat.lt_of_le_of_lt Nat.and_le_right (by omega))) ml_X5_67 ⟨by decide, by decide⟩ ⟨Nat.le_of_ble_eq_true rfl, Nat.le_of_ble_eq_true rfl⟩ hl (Nat.le_of_ble_eq_true rfl) rfl dX5_swap_2 ?_
  refine z_ifB_ne (tgt := 15) C dX5_swap_5 (by decide) (fun h5 => ?_) (fun h5 => ?_)
  · exact absurd (of_decide_eq_true h5) (by omega)
  · refine lv_iload_n C.1 C.2.1 dX5_swap_8 rfl (lv_at hl 2 rfl) ?_
    refine z_call C (c_X5_isNo l (z) (by first | assumption | omega | rfl | exact decide_eq_false (by omega) | exact decide_eq_true (by assumption) | exact decide_eq_true (by omega) | exact one_shl33 (by omega) | exact pm_lt _ _ | exact rm_lt (by first | assumption | exact pm_lt _ _) | exact Nat.lt_of_le_of_lt (Nat.shiftRight_le _ _) (by assumption) | exact Nat.lt_of_le_of_lt Nat.and_le_right (by omega))) ml_X5_67 ⟨by decide, by decide⟩ ⟨Nat.le_of_ble_eq_true rfl, Nat.le_of_ble_eq_true rfl⟩ hl (Nat.le_of_ble_eq_true rfl) rfl dX5_swap_9 ?_
    refine z_ifB_eq (tgt := 19) C dX5_swap_12 (by decide) (fun h12 => ?_) (fun h12 => ?_)
    · refine z_iconst C dX5_swap_19 ?_
      refine z_iconst C dX5_swap_20 ?_
      refine zo_callD C B (r := some (.int (iZ (zB (false))))) (c_X5_start_ok l D cJ o a (c) (th) (ac) (re) (kn) (false) (1 : Int) (by first | assumption | omega | rfl | exact decide_eq_false (by omega) | exact decide_eq_true (by assumption) | exact decide_eq_true (by omega) | exact one_shl33 (by omega) | exact pm_lt _ _ | exact rm_lt (by first | assumption | exact pm_lt _ _) | exact Nat.lt_of_le_of_lt (Nat.shiftRight_le _ _) (by assumption) | exact Nat.lt_of_le_of_lt Nat.and_le_right (by omega))) ml_X5_71 rfl ⟨Nat.le_of_ble_eq_true rfl, Nat.le_of_ble_eq_true rfl⟩ ⟨Nat.le_of_ble_eq_true rfl, Nat.le_of_ble_eq_true rfl⟩ hl (Nat.le_of_ble_eq_true rfl) rfl dX5_swap_21 (fun H locs B => ?_)
      refine z_ifB_eq (tgt := 29) C dX5_swap_24 (by decide) (fun h24 => ?_) (fun h24 => ?_)
      · refine lv_aload_n C.1 C.2.1 dX5_swap_29 rfl (lv_at hl 0 rfl) ?_
        refine zo_get C B (Cn := RX5) (T := TX5) (N := 5) (v := .ref a) rfl inX5 0 (by decide) fl_X5_7 rfl rfl dX5_swap_30 ?_
        refine lv_iload_n C.1 C.2.1 dX5_swap_33 rfl (lv_at hl 1 rfl) ?_
        refine zo_lald C B ((f).toNat) (by omega) (by omega) dX5_swap_34 ?_
        have q34 := B.1.2.2.2 ((f).toNat)
        refine lv_lstore_n (lv' := [(3, .long (lN (c ((f).toNat)))), (0, .ref o), (1, .int (iZ (f))), (2, .int (iZ (z)))]) C.1 C.2.1 dX5_swap_35 rfl hl (by decide) rfl (fun ls hl => ?_)
        refine lv_aload_n C.1 C.2.1 dX5_swap_36 rfl (lv_at hl 1 rfl) ?_
        refine zo_get C B (Cn := RX5) (T := TX5) (N := 5) (v := .ref a) rfl inX5 0 (by decide) fl_X5_7 rfl rfl dX5_swap_37 ?_
        refine lv_iload_n C.1 C.2.1 dX5_swap_40 rfl (lv_at hl 2 rfl) ?_
        refine lv_aload_n C.1 C.2.1 dX5_swap_41 rfl (lv_at hl 1 rfl) ?_
        refine zo_get C B (Cn := RX5) (T := TX5) (N := 5) (v := .ref a) rfl inX5 0 (by decide) fl_X5_7 rfl rfl dX5_swap_42 ?_
        refine lv_iload_n C.1 C.2.1 dX5_swap_45 rfl (lv_at hl 3 rfl) ?_
        refine zo_lald C B ((z).toNat) (by omega) (by omega) dX5_swap_46 ?_
        have q46 := B.1.2.2.2 ((z).toNat)
        refine zo_last C B ((f).toNat) (by omega) (by omega) (by first | assumption | omega | rfl | exact decide_eq_false (by omega) | exact decide_eq_true (by assumption) | exact decide_eq_true (by omega) | exact one_shl33 (by omega) | exact pm_lt _ _ | exact rm_lt (by first | assumption | exact pm_lt _ _) | exact Nat.lt_of_le_of_lt (Nat.shiftRight_le _ _) (by assumption) | exact Nat.lt_of_le_of_lt Nat.and_le_right (by omega)) dX5_swap_47 (fun H locs B => ?_)
        refine lv_aload_n C.1 C.2.1 dX5_swap_48 rfl (lv_at hl 1 rfl) ?_
        refine lv_iload_n C.1 C.2.1 dX5_swap_49 rfl (lv_at hl 3 rfl) ?_
        refine lv_lload_n C.1 C.2.1 dX5_swap_50 rfl (lv_at hl 0 rfl) ?_
        refine zo_callD C B (r := some (.int (iZ (aR ((zu c ((f).toNat) (c ((z).toNat)))) (z).toNat (some (c ((f).toNat))))))) (c_X5_lay l D cJ o a ((zu c ((f).toNat) (c ((z).toNat)))) (0) ((ac)) ((re)) ((kn)) (z) (c ((f).toNat)) (by first | assumption | omega | rfl | exact decide_eq_false (by omega) | exact decide_eq_true (by assumption) | exact decide_eq_true (by omega) | exact one_shl33 (by omega) | exact pm_lt _ _ | exact rm_lt (by first | assumption | exact pm_lt _ _) | exact Nat.lt_of_le_of_lt (Nat.shiftRight_le _ _) (by assumption) | exact Nat.lt_of_le_of_lt Nat.and_le_right (by omega)) (by first | assumption | omega | rfl | exact decide_eq_false (by omega) | exact decide_eq_true (by assumption) | exact decide_eq_true (by omega) | exact one_shl33 (by omega) | exact pm_lt _ _ | exact rm_lt (by first | assumption | exact pm_lt _ _) | exact Nat.lt_of_le_of_lt (Nat.shiftRight_le _ _) (by assumption) | exact Nat.lt_of_le_of_lt Nat.and_le_right (by omega))) ml_X5_59 rfl ⟨Nat.le_of_ble_eq_true rfl, Nat.le_of_ble_eq_true rfl⟩ ⟨Nat.le_of_ble_eq_true rfl, Nat.le_of_ble_eq_true rfl⟩ hl (Nat.le_of_ble_eq_true rfl) rfl dX5_swap_51 (fun H locs B => ?_)
        have q51_0 := aR_rng (((zu c ((f).toNat) (c ((z).toNat))))) (z).toNat (some (c ((f).toNat)))
        exact zo_iret C B hr hk (Nat.le_of_ble_eq_true rfl) (Nat.le_of_ble_eq_true rfl) dX5_swap_54 (by exact congrArg (fun z : Int => some (Value.int (iZ z))) (by rfl)) (by rfl) (by rfl)
      · exact absurd h24 (by decide)
    · exact absurd (of_decide_eq_true h12) (by omega)

set_option maxHeartbeats 4000000 in
set_option maxRecDepth 100000 in
theorem c_X5_end (l : Launch) (D : va_G) (cJ : ClassId) (o a : Nat) (c : Nat → Nat) (th : Int) (ac : Int32) (re : Int32) (kn : Int32) (f : Int) (g : Int) (b : Bool) (z : Int) (hf : 0 ≤ f ∧ f ≤ 5) (hg : 0 ≤ g ∧ g ≤ 5) (hz : 0 ≤ z ∧ z ≤ 5) : zA l yX5_end 2 68 0 0 D 4 cJ o a [.int (iZ (f)), .int (iZ (g)), .int (iZ (zB (b))), .int (iZ (z))] c [.int (iZ (th)), .int (ac), .int (re), .int (kn)] (fun v => v = some (.int (iZ (aR c (z.toNat) (some (if b = true then mx (c f.toNat) (c g.toNat) else mn (c f.toNat) (c g.toNat))))))) (aC c (z.toNat) (some (if b = true then mx (c f.toNat) (c g.toNat) else mn (c f.toNat) (c g.toNat)))) [.int (iZ (0)), .int (aA ac (some (if b = true then mx (c f.toNat) (c g.toNat) else mn (c f.toNat) (c g.toNat)))), .int (aF re (some (if b = true then mx (c f.toNat) (c g.toNat) else mn (c f.toNat) (c g.toNat)))), .int (kn)] := by
  refine zA.intro (lo := 44) (nA := 4) (own := RX5) zi_X5_end (by decide) rfl rfl (by decide +kernel) rfl (Nat.le_of_ble_eq_true rfl) ?_
  intro p e s m below meth c0 ls C hr hk B hl
  have hl : lv_has ls 5 [(0, .ref o), (1, .int (iZ (f))), (2, .int (iZ (g))), (3, .int (iZ (zB (b)))), (4, .int (iZ (z)))] := hl
  refine lv_aload_n C.1 C.2.1 dX5_end_0 rfl (lv_at hl 0 rfl) ?_
  refine lv_iload_n C.1 C.2.1 dX5_end_1 rfl (lv_at hl 1 rfl) ?_
  refine z_call C (c_X5_isNo l (f) (by first | assumption | omega | rfl | exact decide_eq_false (by omega) | exact decide_eq_true (by assumption) | exact decide_eq_true (by omega) | exact one_shl33 (by omega) | exact pm_lt _ _ | exact rm_lt (by first | assumption | exact pm_lt _ _) | exact Nat.lt_of_le_of_lt (Nat.shiftRight_le _ _) (by assumption) | exact Nat.lt_of_le_of_lt Nat.and_le_right (by omega))) ml_X5_67 ⟨by decide, by decide⟩ ⟨Nat.le_of_ble_eq_true rfl, Nat.le_of_ble_eq_true rfl⟩ hl (Nat.le_of_ble_eq_true rfl) rfl dX5_end_2 ?_
  refine z_ifB_ne (tgt := 23) C dX5_end_5 (by decide) (fun h5 => ?_) (fun h5 => ?_)
  · exact absurd (of_decide_eq_true h5) (by omega)
  · refine lv_iload_n C.1 C.2.1 dX5_end_8 rfl (lv_at hl 2 rfl) ?_
    refine z_call C (c_X5_isNo l (g) (by first | assumption | omega | rfl | exact decide_eq_false (by omega) | exact decide_eq_true (by assumption) | exact decide_eq_true (by omega) | exact one_shl33 (by omega) | exact pm_lt _ _ | exact rm_lt (by first | assumption | exact pm_lt _ _) | exact Nat.lt_of_le_of_lt (Nat.shiftRight_le _ _) (by assumption) | exact Nat.lt_of_le_of_lt Nat.and_le_right (by omega))) ml_X5_67 ⟨by decide, by decide⟩ ⟨Nat.le_of_ble_eq_true rfl, Nat.le_of_ble_eq_true rfl⟩ hl (Nat.le_of_ble_eq_true rfl) rfl dX5_end_9 ?_
    refine z_ifB_ne (tgt := 23) C dX5_end_12 (by decide) (fun h12 => ?_) (fun h12 => ?_)
    · exact absurd (of_decide_eq_true h12) (by omega)
    · refine lv_iload C.1 C.2.1 dX5_end_15 (lv_at hl 4 rfl) ?_
      refine z_call C (c_X5_isNo l (z) (by first | assumption | omega | rfl | exact decide_eq_false (by omega) | exact decide_eq_true (by assumption) | exact decide_eq_true (by omega) | exact one_shl33 (by omega) | exact pm_lt _ _ | exact rm_lt (by first | assumption | exact pm_lt _ _) | exact Nat.lt_of_le_of_lt (Nat.shiftRight_le _ _) (by assumption) | exact Nat.lt_of_le_of_lt Nat.and_le_right (by omega))) ml_X5_67 ⟨by decide, by decide⟩ ⟨Nat.le_of_ble_eq_true rfl, Nat.le_of_ble_eq_true rfl⟩ hl (Nat.le_of_ble_eq_true rfl) rfl dX5_end_17 ?_
      refine z_ifB_eq (tgt := 27) C dX5_end_20 (by decide) (fun h20 => ?_) (fun h20 => ?_)
      · refine z_iconst C dX5_end_27 ?_
        refine z_iconst C dX5_end_28 ?_
        refine zo_callD C B (r := some (.int (iZ (zB (false))))) (c_X5_start_ok l D cJ o a (c) (th) (ac) (re) (kn) (false) (1 : Int) (by first | assumption | omega | rfl | exact decide_eq_false (by omega) | exact decide_eq_true (by assumption) | exact decide_eq_true (by omega) | exact one_shl33 (by omega) | exact pm_lt _ _ | exact rm_lt (by first | assumption | exact pm_lt _ _) | exact Nat.lt_of_le_of_lt (Nat.shiftRight_le _ _) (by assumption) | exact Nat.lt_of_le_of_lt Nat.and_le_right (by omega))) ml_X5_71 rfl ⟨Nat.le_of_ble_eq_true rfl, Nat.le_of_ble_eq_true rfl⟩ ⟨Nat.le_of_ble_eq_true rfl, Nat.le_of_ble_eq_true rfl⟩ hl (Nat.le_of_ble_eq_true rfl) rfl dX5_end_29 (fun H locs B => ?_)
        refine z_ifB_eq (tgt := 37) C dX5_end_32 (by decide) (fun h32 => ?_) (fun h32 => ?_)
        · refine lv_aload_n C.1 C.2.1 dX5_end_37 rfl (lv_at hl 0 rfl) ?_
          refine lv_iload C.1 C.2.1 dX5_end_38 (lv_at hl 4 rfl) ?_
          refine lv_iload_n C.1 C.2.1 dX5_end_40 rfl (lv_at hl 3 rfl) ?_
          refine z_ifB_eq (tgt := 62) C dX5_end_41 (by decide) (fun h41 => ?_) (fun h41 => ?_)
          · refine lv_aload_n C.1 C.2.1 dX5_end_62 rfl (lv_at hl 0 rfl) ?_
            refine zo_get C B (Cn := RX5) (T := TX5) (N := 5) (v := .ref a) rfl inX5 0 (by decide) fl_X5_7 rfl rfl dX5_end_63 ?_
            refine lv_iload_n C.1 C.2.1 dX5_end_66 rfl (lv_at hl 1 rfl) ?_
            refine zo_lald C B ((f).toNat) (by omega) (by omega) dX5_end_67 ?_
            have q67 := B.1.2.2.2 ((f).toNat)
            refine lv_aload_n C.1 C.2.1 dX5_end_68 rfl (lv_at hl 0 rfl) ?_
            refine zo_get C B (Cn := RX5) (T := TX5) (N := 5) (v := .ref a) rfl inX5 0 (by decide) fl_X5_7 rfl rfl dX5_end_69 ?_
            refine lv_iload_n C.1 C.2.1 dX5_end_72 rfl (lv_at hl 2 rfl) ?_
            refine zo_lald C B ((g).toNat) (by omega) (by omega) dX5_end_73 ?_
            have q73 := B.1.2.2.2 ((g).toNat)
            refine z_mmin C (by first | assumption | omega) (by first | assumption | omega) ml_X5_81 hl ⟨Nat.le_of_ble_eq_true rfl, Nat.le_of_ble_eq_true rfl⟩ ⟨Nat.le_of_ble_eq_true rfl, Nat.le_of_ble_eq_true rfl⟩ (Nat.le_of_ble_eq_true rfl) dX5_end_74 ?_
            refine zo_callD C B (r := some (.int (iZ (aR (c) (z).toNat (some (mn (c ((f).toNat)) (c ((g).toNat)))))))) (c_X5_lay l D cJ o a (c) (0) ((ac)) ((re)) ((kn)) (z) (mn (c ((f).toNat)) (c ((g).toNat))) (by omega) (by exact mn33 (by assumption) (by assumption))) ml_X5_59 rfl ⟨Nat.le_of_ble_eq_true rfl, Nat.le_of_ble_eq_true rfl⟩ ⟨Nat.le_of_ble_eq_true rfl, Nat.le_of_ble_eq_true rfl⟩ hl (Nat.le_of_ble_eq_true rfl) rfl dX5_end_77 (fun H locs B => ?_)
            have q77_0 := aR_rng ((c)) (z).toNat (some (mn (c ((f).toNat)) (c ((g).toNat))))
            have hw : (some (if b = true then mx (c f.toNat) (c g.toNat) else mn (c f.toNat) (c g.toNat))) = some (mn (c ((f).toNat)) (c ((g).toNat))) := by rw [if_neg (by rw [h41]; decide)]
            exact zo_iret C B hr hk (Nat.le_of_ble_eq_true rfl) (Nat.le_of_ble_eq_true rfl) dX5_end_80 (by show some _ = some _; rw [hw] <;> rfl) (by rw [hw] <;> rfl) (by rw [hw] <;> rfl)
          · refine lv_aload_n C.1 C.2.1 dX5_end_44 rfl (lv_at hl 0 rfl) ?_
            refine zo_get C B (Cn := RX5) (T := TX5) (N := 5) (v := .ref a) rfl inX5 0 (by decide) fl_X5_7 rfl rfl dX5_end_45 ?_
            refine lv_iload_n C.1 C.2.1 dX5_end_48 rfl (lv_at hl 1 rfl) ?_
            refine zo_lald C B ((f).toNat) (by omega) (by omega) dX5_end_49 ?_
            have q49 := B.1.2.2.2 ((f).toNat)
            refine lv_aload_n C.1 C.2.1 dX5_end_50 rfl (lv_at hl 0 rfl) ?_
            refine zo_get C B (Cn := RX5) (T := TX5) (N := 5) (v := .ref a) rfl inX5 0 (by decide) fl_X5_7 rfl rfl dX5_end_51 ?_
            refine lv_iload_n C.1 C.2.1 dX5_end_54 rfl (lv_at hl 2 rfl) ?_
            refine zo_lald C B ((g).toNat) (by omega) (by omega) dX5_end_55 ?_
            have q55 := B.1.2.2.2 ((g).toNat)
            refine z_mmax C (by first | assumption | omega) (by first | assumption | omega) ml_X5_76 hl ⟨Nat.le_of_ble_eq_true rfl, Nat.le_of_ble_eq_true rfl⟩ ⟨Nat.le_of_ble_eq_true rfl, Nat.le_of_ble_eq_true rfl⟩ (Nat.le_of_ble_eq_true rfl) dX5_end_56 ?_
            refine lv_goto (tgt := 77) C.1 C.2.1 dX5_end_59 (by decide) ?_
            refine zo_callD C B (r := some (.int (iZ (aR (c) (z).toNat (some (mx (c ((f).toNat)) (c ((g).toNat)))))))) (c_X5_lay l D cJ o a (c) (0) ((ac)) ((re)) ((kn)) (z) (mx (c ((f).toNat)) (c ((g).toNat))) (by omega) (by exact mx33 (by assumption) (by assumption))) ml_X5_59 rfl ⟨Nat.le_of_ble_eq_true rfl, Nat.le_of_ble_eq_true rfl⟩ ⟨Nat.le_of_ble_eq_true rfl, Nat.le_of_ble_eq_true rfl⟩ hl (Nat.le_of_ble_eq_true rfl) rfl dX5_end_77 (fun H locs B => ?_)
            have q77_0 := aR_rng ((c)) (z).toNat (some (mx (c ((f).toNat)) (c ((g).toNat))))
            have hw : (some (if b = true then mx (c f.toNat) (c g.toNat) else mn (c f.toNat) (c g.toNat))) = some (mx (c ((f).toNat)) (c ((g).toNat))) := by rw [if_pos h41]
            exact zo_iret C B hr hk (Nat.le_of_ble_eq_true rfl) (Nat.le_of_ble_eq_true rfl) dX5_end_80 (by show some _ = some _; rw [hw] <;> rfl) (by rw [hw] <;> rfl) (by rw [hw] <;> rfl)
        · exact absurd h32 (by decide)
      · exact absurd (of_decide_eq_true h20) (by omega)

set_option maxHeartbeats 4000000 in
set_option maxRecDepth 100000 in
theorem c_X5_join (l : Launch) (D : va_G) (cJ : ClassId) (o a : Nat) (c : Nat → Nat) (th : Int) (ac : Int32) (re : Int32) (kn : Int32) (f : Int) (g : Int) (h : Int) (z : Int) (hf : 0 ≤ f ∧ f ≤ 5) (hg : 0 ≤ g ∧ g ≤ 5) (hh : 0 ≤ h ∧ h ≤ 3) (hz : 0 ≤ z ∧ z ≤ 5) : zA l yX5_join 2 72 0 0 D 4 cJ o a [.int (iZ (f)), .int (iZ (g)), .int (iZ (h)), .int (iZ (z))] c [.int (iZ (th)), .int (ac), .int (re), .int (kn)] (fun v => v = some (.int (iZ (aR c (z.toNat) (some (jo (c f.toNat) (c g.toNat) h)))))) (aC c (z.toNat) (some (jo (c f.toNat) (c g.toNat) h))) [.int (iZ (0)), .int (aA ac (some (jo (c f.toNat) (c g.toNat) h))), .int (aF re (some (jo (c f.toNat) (c g.toNat) h))), .int (kn)] := by
  refine zA.intro (lo := 44) (nA := 4) (own := RX5) zi_X5_join (by decide) rfl rfl (by decide +kernel) rfl (Nat.le_of_ble_eq_true rfl) ?_
  intro p e s m below meth c0 ls C hr hk B hl
  have hl : lv_has ls 9 [(0, .ref o), (1, .int (iZ (f))), (2, .int (iZ (g))), (3, .int (iZ (h))), (4, .int (iZ (z)))] := hl
  refine lv_aload_n C.1 C.2.1 dX5_join_0 rfl (lv_at hl 0 rfl) ?_
  refine lv_iload_n C.1 C.2.1 dX5_join_1 rfl (lv_at hl 1 rfl) ?_
  refine z_call C (c_X5_isNo l (f) (by first | assumption | omega | rfl | exact decide_eq_false (by omega) | exact decide_eq_true (by assumption) | exact decide_eq_true (by omega) | exact one_shl33 (by omega) | exact pm_lt _ _ | exact rm_lt (by first | assumption | exact pm_lt _ _) | exact Nat.lt_of_le_of_lt (Nat.shiftRight_le _ _) (by assumption) | exact Nat.lt_of_le_of_lt Nat.and_le_right (by omega))) ml_X5_67 ⟨by decide, by decide⟩ ⟨Nat.le_of_ble_eq_true rfl, Nat.le_of_ble_eq_true rfl⟩ hl (Nat.le_of_ble_eq_true rfl) rfl dX5_join_2 ?_
  refine z_ifB_ne (tgt := 23) C dX5_join_5 (by decide) (fun h5 => ?_) (fun h5 => ?_)
  · exact absurd (of_decide_eq_true h5) (by omega)
  · refine lv_iload_n C.1 C.2.1 dX5_join_8 rfl (lv_at hl 2 rfl) ?_
    refine z_call C (c_X5_isNo l (g) (by first | assumption | omega | rfl | exact decide_eq_false (by omega) | exact decide_eq_true (by assumption) | exact decide_eq_true (by omega) | exact one_shl33 (by omega) | exact pm_lt _ _ | exact rm_lt (by first | assumption | exact pm_lt _ _) | exact Nat.lt_of_le_of_lt (Nat.shiftRight_le _ _) (by assumption) | exact Nat.lt_of_le_of_lt Nat.and_le_right (by omega))) ml_X5_67 ⟨by decide, by decide⟩ ⟨Nat.le_of_ble_eq_true rfl, Nat.le_of_ble_eq_true rfl⟩ hl (Nat.le_of_ble_eq_true rfl) rfl dX5_join_9 ?_
    refine z_ifB_ne (tgt := 23) C dX5_join_12 (by decide) (fun h12 => ?_) (fun h12 => ?_)
    · exact absurd (of_decide_eq_true h12) (by omega)
    · refine lv_iload C.1 C.2.1 dX5_join_15 (lv_at hl 4 rfl) ?_
      refine z_call C (c_X5_isNo l (z) (by first | assumption | omega | rfl | exact decide_eq_false (by omega) | exact decide_eq_true (by assumption) | exact decide_eq_true (by omega) | exact one_shl33 (by omega) | exact pm_lt _ _ | exact rm_lt (by first | assumption | exact pm_lt _ _) | exact Nat.lt_of_le_of_lt (Nat.shiftRight_le _ _) (by assumption) | exact Nat.lt_of_le_of_lt Nat.and_le_right (by omega))) ml_X5_67 ⟨by decide, by decide⟩ ⟨Nat.le_of_ble_eq_true rfl, Nat.le_of_ble_eq_true rfl⟩ hl (Nat.le_of_ble_eq_true rfl) rfl dX5_join_17 ?_
      refine z_ifB_eq (tgt := 27) C dX5_join_20 (by decide) (fun h20 => ?_) (fun h20 => ?_)
      · refine z_iconst C dX5_join_27 ?_
        refine z_iconst C dX5_join_28 ?_
        refine zo_callD C B (r := some (.int (iZ (zB (false))))) (c_X5_start_ok l D cJ o a (c) (th) (ac) (re) (kn) (false) (1 : Int) (by first | assumption | omega | rfl | exact decide_eq_false (by omega) | exact decide_eq_true (by assumption) | exact decide_eq_true (by omega) | exact one_shl33 (by omega) | exact pm_lt _ _ | exact rm_lt (by first | assumption | exact pm_lt _ _) | exact Nat.lt_of_le_of_lt (Nat.shiftRight_le _ _) (by assumption) | exact Nat.lt_of_le_of_lt Nat.and_le_right (by omega))) ml_X5_71 rfl ⟨Nat.le_of_ble_eq_true rfl, Nat.le_of_ble_eq_true rfl⟩ ⟨Nat.le_of_ble_eq_true rfl, Nat.le_of_ble_eq_true rfl⟩ hl (Nat.le_of_ble_eq_true rfl) rfl dX5_join_29 (fun H locs B => ?_)
        refine z_ifB_ne (tgt := 57) C dX5_join_32 (by decide) (fun h32 => ?_) (fun h32 => ?_)
        · exact absurd h32 (by decide)
        · refine lv_aload_n C.1 C.2.1 dX5_join_35 rfl (lv_at hl 0 rfl) ?_
          refine lv_iload_n C.1 C.2.1 dX5_join_36 rfl (lv_at hl 3 rfl) ?_
          refine z_iconst C dX5_join_37 ?_
          refine z_iconst C dX5_join_38 ?_
          refine z_call C (c_X5_isIn l (h) (0 : Int) (3 : Int) (by first | assumption | omega | rfl | exact decide_eq_false (by omega) | exact decide_eq_true (by assumption) | exact decide_eq_true (by omega) | exact one_shl33 (by omega) | exact pm_lt _ _ | exact rm_lt (by first | assumption | exact pm_lt _ _) | exact Nat.lt_of_le_of_lt (Nat.shiftRight_le _ _) (by assumption) | exact Nat.lt_of_le_of_lt Nat.and_le_right (by omega)) (by first | assumption | omega | rfl | exact decide_eq_false (by omega) | exact decide_eq_true (by assumption) | exact decide_eq_true (by omega) | exact one_shl33 (by omega) | exact pm_lt _ _ | exact rm_lt (by first | assumption | exact pm_lt _ _) | exact Nat.lt_of_le_of_lt (Nat.shiftRight_le _ _) (by assumption) | exact Nat.lt_of_le_of_lt Nat.and_le_right (by omega)) (by first | assumption | omega | rfl | exact decide_eq_false (by omega) | exact decide_eq_true (by assumption) | exact decide_eq_true (by omega) | exact one_shl33 (by omega) | exact pm_lt _ _ | exact rm_lt (by first | assumption | exact pm_lt _ _) | exact Nat.lt_of_le_of_lt (Nat.shiftRight_le _ _) (by assumption) | exact Nat.lt_of_le_of_lt Nat.and_le_right (by omega))) ml_X5_21 ⟨by decide, by decide⟩ ⟨Nat.le_of_ble_eq_true rfl, Nat.le_of_ble_eq_true rfl⟩ hl (Nat.le_of_ble_eq_true rfl) rfl dX5_join_39 ?_
          refine z_ifB_ne (tgt := 49) C dX5_join_42 (by decide) (fun h42 => ?_) (fun h42 => ?_)
          · refine z_iconst C dX5_join_49 ?_
            refine z_iconst C dX5_join_50 ?_
            refine zo_callD C B (r := some (.int (iZ (zB (false))))) (c_X5_refuse_ok l D cJ o a (c) (0) ((ac)) ((re)) ((kn)) (false) (2 : Int) (by first | assumption | omega | rfl | exact decide_eq_false (by omega) | exact decide_eq_true (by assumption) | exact decide_eq_true (by omega) | exact one_shl33 (by omega) | exact pm_lt _ _ | exact rm_lt (by first | assumption | exact pm_lt _ _) | exact Nat.lt_of_le_of_lt (Nat.shiftRight_le _ _) (by assumption) | exact Nat.lt_of_le_of_lt Nat.and_le_right (by omega)) (by first | assumption | omega | rfl | exact decide_eq_false (by omega) | exact decide_eq_true (by assumption) | exact decide_eq_true (by omega) | exact one_shl33 (by omega) | exact pm_lt _ _ | exact rm_lt (by first | assumption | exact pm_lt _ _) | exact Nat.lt_of_le_of_lt (Nat.shiftRight_le _ _) (by assumption) | exact Nat.lt_of_le_of_lt Nat.and_le_right (by omega))) ml_X5_17 rfl ⟨Nat.le_of_ble_eq_true rfl, Nat.le_of_ble_eq_true rfl⟩ ⟨Nat.le_of_ble_eq_true rfl, Nat.le_of_ble_eq_true rfl⟩ hl (Nat.le_of_ble_eq_true rfl) rfl dX5_join_51 (fun H locs B => ?_)
            refine z_ifB_eq (tgt := 59) C dX5_join_54 (by decide) (fun h54 => ?_) (fun h54 => ?_)
            · refine lv_aload_n C.1 C.2.1 dX5_join_59 rfl (lv_at hl 0 rfl) ?_
              refine zo_get C B (Cn := RX5) (T := TX5) (N := 5) (v := .ref a) rfl inX5 0 (by decide) fl_X5_7 rfl rfl dX5_join_60 ?_
              refine lv_iload_n C.1 C.2.1 dX5_join_63 rfl (lv_at hl 1 rfl) ?_
              refine zo_lald C B ((f).toNat) (by omega) (by omega) dX5_join_64 ?_
              have q64 := B.1.2.2.2 ((f).toNat)
              refine lv_lstore (lv' := [(5, .long (lN (c ((f).toNat)))), (0, .ref o), (1, .int (iZ (f))), (2, .int (iZ (g))), (3, .int (iZ (h))), (4, .int (iZ (z)))]) C.1 C.2.1 dX5_join_65 hl (by decide) rfl (fun ls hl => ?_)
              refine lv_aload_n C.1 C.2.1 dX5_join_67 rfl (lv_at hl 1 rfl) ?_
              refine zo_get C B (Cn := RX5) (T := TX5) (N := 5) (v := .ref a) rfl inX5 0 (by decide) fl_X5_7 rfl rfl dX5_join_68 ?_
              refine lv_iload_n C.1 C.2.1 dX5_join_71 rfl (lv_at hl 3 rfl) ?_
              refine zo_lald C B ((g).toNat) (by omega) (by omega) dX5_join_72 ?_
              have q72 := B.1.2.2.2 ((g).toNat)
              refine lv_lstore (lv' := [(7, .long (lN (c ((g).toNat)))), (5, .long (lN (c ((f).toNat)))), (0, .ref o), (1, .int (iZ (f))), (2, .int (iZ (g))), (3, .int (iZ (h))), (4, .int (iZ (z)))]) C.1 C.2.1 dX5_join_73 hl (by decide) rfl (fun ls hl => ?_)
              refine lv_iload_n C.1 C.2.1 dX5_join_75 rfl (lv_at hl 5 rfl) ?_
              by_cases hs : (h) = 0
              · refine z_tableIn (off := 28) (tgt := 104) C dX5_join_76 (by omega) (by omega) (by omega) (by rw [hs]; rfl) (by decide) ?_
                refine lv_aload_n C.1 C.2.1 dX5_join_104 rfl (lv_at hl 2 rfl) ?_
                refine lv_iload C.1 C.2.1 dX5_join_105 (lv_at hl 6 rfl) ?_
                refine lv_lload C.1 C.2.1 dX5_join_107 (lv_at hl 1 rfl) ?_
                refine lv_lload C.1 C.2.1 dX5_join_109 (lv_at hl 0 rfl) ?_
                refine z_lxor C dX5_join_111 ?_
                refine zo_callD C B (r := some (.int (iZ (aR (c) (z).toNat (some ((c ((f).toNat)) ^^^ (c ((g).toNat)))))))) (c_X5_lay l D cJ o a (c) ((0)) (((ac))) (((re))) (((kn))) (z) ((c ((f).toNat)) ^^^ (c ((g).toNat))) (by omega) (by exact xor33 (by assumption) (by assumption))) ml_X5_59 rfl ⟨Nat.le_of_ble_eq_true rfl, Nat.le_of_ble_eq_true rfl⟩ ⟨Nat.le_of_ble_eq_true rfl, Nat.le_of_ble_eq_true rfl⟩ hl (Nat.le_of_ble_eq_true rfl) rfl dX5_join_112 (fun H locs B => ?_)
                have q112_0 := aR_rng ((c)) (z).toNat (some ((c ((f).toNat)) ^^^ (c ((g).toNat))))
                have hw : (some (jo (c f.toNat) (c g.toNat) h)) = some ((c ((f).toNat)) ^^^ (c ((g).toNat))) := by rw [hs]; rfl
                exact zo_iret C B hr hk (Nat.le_of_ble_eq_true rfl) (Nat.le_of_ble_eq_true rfl) dX5_join_115 (by show some _ = some _; rw [hw] <;> rfl) (by rw [hw] <;> rfl) (by rw [hw] <;> rfl)
              · skip
                by_cases hs : (h) = 1
                · refine z_tableIn (off := 40) (tgt := 116) C dX5_join_76 (by omega) (by omega) (by omega) (by rw [hs]; rfl) (by decide) ?_
                  refine lv_aload_n C.1 C.2.1 dX5_join_116 rfl (lv_at hl 2 rfl) ?_
                  refine lv_iload C.1 C.2.1 dX5_join_117 (lv_at hl 6 rfl) ?_
                  refine lv_lload C.1 C.2.1 dX5_join_119 (lv_at hl 1 rfl) ?_
                  refine lv_lload C.1 C.2.1 dX5_join_121 (lv_at hl 0 rfl) ?_
                  refine z_land C dX5_join_123 ?_
                  refine zo_callD C B (r := some (.int (iZ (aR (c) (z).toNat (some ((c ((f).toNat)) &&& (c ((g).toNat)))))))) (c_X5_lay l D cJ o a (c) ((0)) (((ac))) (((re))) (((kn))) (z) ((c ((f).toNat)) &&& (c ((g).toNat))) (by omega) (by exact and33 _ (by assumption))) ml_X5_59 rfl ⟨Nat.le_of_ble_eq_true rfl, Nat.le_of_ble_eq_true rfl⟩ ⟨Nat.le_of_ble_eq_true rfl, Nat.le_of_ble_eq_true rfl⟩ hl (Nat.le_of_ble_eq_true rfl) rfl dX5_join_124 (fun H locs B => ?_)
                  have q124_0 := aR_rng ((c)) (z).toNat (some ((c ((f).toNat)) &&& (c ((g).toNat))))
                  have hw : (some (jo (c f.toNat) (c g.toNat) h)) = some ((c ((f).toNat)) &&& (c ((g).toNat))) := by rw [hs]; rfl
                  exact zo_iret C B hr hk (Nat.le_of_ble_eq_true rfl) (Nat.le_of_ble_eq_true rfl) dX5_join_127 (by show some _ = some _; rw [hw] <;> rfl) (by rw [hw] <;> rfl) (by rw [hw] <;> rfl)
                · skip
                  by_cases hs : (h) = 2
                  · refine z_tableIn (off := 52) (tgt := 128) C dX5_join_76 (by omega) (by omega) (by omega) (by rw [hs]; rfl) (by decide) ?_
                    refine lv_aload_n C.1 C.2.1 dX5_join_128 rfl (lv_at hl 2 rfl) ?_
                    refine lv_iload C.1 C.2.1 dX5_join_129 (lv_at hl 6 rfl) ?_
                    refine lv_lload C.1 C.2.1 dX5_join_131 (lv_at hl 1 rfl) ?_
                    refine lv_lload C.1 C.2.1 dX5_join_133 (lv_at hl 0 rfl) ?_
                    refine z_lor C dX5_join_135 ?_
                    refine zo_callD C B (r := some (.int (iZ (aR (c) (z).toNat (some ((c ((f).toNat)) ||| (c ((g).toNat)))))))) (c_X5_lay l D cJ o a (c) ((0)) (((ac))) (((re))) (((kn))) (z) ((c ((f).toNat)) ||| (c ((g).toNat))) (by omega) (by exact or33 (by assumption) (by assumption))) ml_X5_59 rfl ⟨Nat.le_of_ble_eq_true rfl, Nat.le_of_ble_eq_true rfl⟩ ⟨Nat.le_of_ble_eq_true rfl, Nat.le_of_ble_eq_true rfl⟩ hl (Nat.le_of_ble_eq_true rfl) rfl dX5_join_136 (fun H locs B => ?_)
                    have q136_0 := aR_rng ((c)) (z).toNat (some ((c ((f).toNat)) ||| (c ((g).toNat))))
                    have hw : (some (jo (c f.toNat) (c g.toNat) h)) = some ((c ((f).toNat)) ||| (c ((g).toNat))) := by rw [hs]; rfl
                    exact zo_iret C B hr hk (Nat.le_of_ble_eq_true rfl) (Nat.le_of_ble_eq_true rfl) dX5_join_139 (by show some _ = some _; rw [hw] <;> rfl) (by rw [hw] <;> rfl) (by rw [hw] <;> rfl)
                  · skip
                    refine z_tableOut (tgt := 140) C dX5_join_76 (by omega) (by omega) (by decide) ?_
                    refine lv_aload_n C.1 C.2.1 dX5_join_140 rfl (lv_at hl 2 rfl) ?_
                    refine lv_iload C.1 C.2.1 dX5_join_141 (lv_at hl 6 rfl) ?_
                    refine lv_lload C.1 C.2.1 dX5_join_143 (lv_at hl 1 rfl) ?_
                    refine lv_lload C.1 C.2.1 dX5_join_145 (lv_at hl 0 rfl) ?_
                    refine z_ldc2 C 18446744073709551615 (T0_of kl_X5_84 rfl) (by decide) dX5_join_147 ?_
                    refine z_lxor C dX5_join_150 ?_
                    refine z_land C dX5_join_151 ?_
                    refine zo_callD C B (r := some (.int (iZ (aR (c) (z).toNat (some ((c ((f).toNat)) &&& ((c ((g).toNat)) ^^^ (18446744073709551615)))))))) (c_X5_lay l D cJ o a (c) ((0)) (((ac))) (((re))) (((kn))) (z) ((c ((f).toNat)) &&& ((c ((g).toNat)) ^^^ (18446744073709551615))) (by omega) (by exact and33 _ (by assumption))) ml_X5_59 rfl ⟨Nat.le_of_ble_eq_true rfl, Nat.le_of_ble_eq_true rfl⟩ ⟨Nat.le_of_ble_eq_true rfl, Nat.le_of_ble_eq_true rfl⟩ hl (Nat.le_of_ble_eq_true rfl) rfl dX5_join_152 (fun H locs B => ?_)
                    have q152_0 := aR_rng ((c)) (z).toNat (some ((c ((f).toNat)) &&& ((c ((g).toNat)) ^^^ (18446744073709551615))))
                    have hw : (some (jo (c f.toNat) (c g.toNat) h)) = some ((c ((f).toNat)) &&& ((c ((g).toNat)) ^^^ (18446744073709551615))) := by rw [show h = 3 by omega]; rfl
                    exact zo_iret C B hr hk (Nat.le_of_ble_eq_true rfl) (Nat.le_of_ble_eq_true rfl) dX5_join_155 (by show some _ = some _; rw [hw] <;> rfl) (by rw [hw] <;> rfl) (by rw [hw] <;> rfl)
            · exact absurd h54 (by decide)
          · exact absurd (of_decide_eq_false h42) (by omega)
      · exact absurd (of_decide_eq_true h20) (by omega)

set_option maxHeartbeats 4000000 in
set_option maxRecDepth 100000 in
theorem c_X5_times (l : Launch) (D : va_G) (cJ : ClassId) (o a : Nat) (c : Nat → Nat) (th : Int) (ac : Int32) (re : Int32) (kn : Int32) (f : Int) (g : Int) (z : Int) (hf : 0 ≤ f ∧ f ≤ 5) (hg : 0 ≤ g ∧ g ≤ 5) (hz : 0 ≤ z ∧ z ≤ 5) : zA l yX5_times 4 116 0 0 D 4 cJ o a [.int (iZ (f)), .int (iZ (g)), .int (iZ (z))] c [.int (iZ (th)), .int (ac), .int (re), .int (kn)] (fun v => v = some (.int (iZ (aR c (z.toNat) (wT (c f.toNat) (c g.toNat)))))) (aC c (z.toNat) (wT (c f.toNat) (c g.toNat))) [.int (iZ (0)), .int (aA ac (wT (c f.toNat) (c g.toNat))), .int (aF re (wT (c f.toNat) (c g.toNat))), .int (kn)] := by
  refine zA.intro (lo := 93) (nA := 3) (own := RX5) zi_X5_times (by decide) rfl rfl (by decide +kernel) rfl (Nat.le_of_ble_eq_true rfl) ?_
  intro p e s m below meth c0 ls C hr hk B hl
  have hl : lv_has ls 4 [(0, .ref o), (1, .int (iZ (f))), (2, .int (iZ (g))), (3, .int (iZ (z)))] := hl
  refine lv_aload_n C.1 C.2.1 dX5_times_0 rfl (lv_at hl 0 rfl) ?_
  refine lv_iload_n C.1 C.2.1 dX5_times_1 rfl (lv_at hl 1 rfl) ?_
  refine z_call C (c_X5_isNo l (f) (by first | assumption | omega | rfl | exact decide_eq_false (by omega) | exact decide_eq_true (by assumption) | exact decide_eq_true (by omega) | exact one_shl33 (by omega) | exact pm_lt _ _ | exact rm_lt (by first | assumption | exact pm_lt _ _) | exact Nat.lt_of_le_of_lt (Nat.shiftRight_le _ _) (by assumption) | exact Nat.lt_of_le_of_lt Nat.and_le_right (by omega))) ml_X5_67 ⟨by decide, by decide⟩ ⟨Nat.le_of_ble_eq_true rfl, Nat.le_of_ble_eq_true rfl⟩ hl (Nat.le_of_ble_eq_true rfl) rfl dX5_times_2 ?_
  refine z_ifB_ne (tgt := 22) C dX5_times_5 (by decide) (fun h5 => ?_) (fun h5 => ?_)
  · exact absurd (of_decide_eq_true h5) (by omega)
  · refine lv_iload_n C.1 C.2.1 dX5_times_8 rfl (lv_at hl 2 rfl) ?_
    refine z_call C (c_X5_isNo l (g) (by first | assumption | omega | rfl | exact decide_eq_false (by omega) | exact decide_eq_true (by assumption) | exact decide_eq_true (by omega) | exact one_shl33 (by omega) | exact pm_lt _ _ | exact rm_lt (by first | assumption | exact pm_lt _ _) | exact Nat.lt_of_le_of_lt (Nat.shiftRight_le _ _) (by assumption) | exact Nat.lt_of_le_of_lt Nat.and_le_right (by omega))) ml_X5_67 ⟨by decide, by decide⟩ ⟨Nat.le_of_ble_eq_true rfl, Nat.le_of_ble_eq_true rfl⟩ hl (Nat.le_of_ble_eq_true rfl) rfl dX5_times_9 ?_
    refine z_ifB_ne (tgt := 22) C dX5_times_12 (by decide) (fun h12 => ?_) (fun h12 => ?_)
    · exact absurd (of_decide_eq_true h12) (by omega)
    · refine lv_iload_n C.1 C.2.1 dX5_times_15 rfl (lv_at hl 3 rfl) ?_
      refine z_call C (c_X5_isNo l (z) (by first | assumption | omega | rfl | exact decide_eq_false (by omega) | exact decide_eq_true (by assumption) | exact decide_eq_true (by omega) | exact one_shl33 (by omega) | exact pm_lt _ _ | exact rm_lt (by first | assumption | exact pm_lt _ _) | exact Nat.lt_of_le_of_lt (Nat.shiftRight_le _ _) (by assumption) | exact Nat.lt_of_le_of_lt Nat.and_le_right (by omega))) ml_X5_67 ⟨by decide, by decide⟩ ⟨Nat.le_of_ble_eq_true rfl, Nat.le_of_ble_eq_true rfl⟩ hl (Nat.le_of_ble_eq_true rfl) rfl dX5_times_16 ?_
      refine z_ifB_eq (tgt := 26) C dX5_times_19 (by decide) (fun h19 => ?_) (fun h19 => ?_)
      · refine z_iconst C dX5_times_26 ?_
        refine z_iconst C dX5_times_27 ?_
        refine zo_callD C B (r := some (.int (iZ (zB (false))))) (c_X5_start_ok l D cJ o a (c) (th) (ac) (re) (kn) (false) (1 : Int) (by first | assumption | omega | rfl | exact decide_eq_false (by omega) | exact decide_eq_true (by assumption) | exact decide_eq_true (by omega) | exact one_shl33 (by omega) | exact pm_lt _ _ | exact rm_lt (by first | assumption | exact pm_lt _ _) | exact Nat.lt_of_le_of_lt (Nat.shiftRight_le _ _) (by assumption) | exact Nat.lt_of_le_of_lt Nat.and_le_right (by omega))) ml_X5_71 rfl ⟨Nat.le_of_ble_eq_true rfl, Nat.le_of_ble_eq_true rfl⟩ ⟨Nat.le_of_ble_eq_true rfl, Nat.le_of_ble_eq_true rfl⟩ hl (Nat.le_of_ble_eq_true rfl) rfl dX5_times_28 (fun H locs B => ?_)
        refine z_ifB_eq (tgt := 38) C dX5_times_31 (by decide) (fun h31 => ?_) (fun h31 => ?_)
        · refine lv_aload_n C.1 C.2.1 dX5_times_38 rfl (lv_at hl 0 rfl) ?_
          refine lv_aload_n C.1 C.2.1 dX5_times_39 rfl (lv_at hl 0 rfl) ?_
          refine zo_get C B (Cn := RX5) (T := TX5) (N := 5) (v := .ref a) rfl inX5 0 (by decide) fl_X5_7 rfl rfl dX5_times_40 ?_
          refine lv_iload_n C.1 C.2.1 dX5_times_43 rfl (lv_at hl 1 rfl) ?_
          refine zo_lald C B ((f).toNat) (by omega) (by omega) dX5_times_44 ?_
          have q44 := B.1.2.2.2 ((f).toNat)
          refine lv_aload_n C.1 C.2.1 dX5_times_45 rfl (lv_at hl 0 rfl) ?_
          refine zo_get C B (Cn := RX5) (T := TX5) (N := 5) (v := .ref a) rfl inX5 0 (by decide) fl_X5_7 rfl rfl dX5_times_46 ?_
          refine lv_iload_n C.1 C.2.1 dX5_times_49 rfl (lv_at hl 2 rfl) ?_
          refine zo_lald C B ((g).toNat) (by omega) (by omega) dX5_times_50 ?_
          have q50 := B.1.2.2.2 ((g).toNat)
          refine lv_iload_n C.1 C.2.1 dX5_times_51 rfl (lv_at hl 3 rfl) ?_
          refine zo_callD C B (r := some (.int (iZ (aR (c) ((z).toNat) (wT (c ((f).toNat)) (c ((g).toNat))))))) (c_X5_multiply l D cJ o a (c) (0) ((ac)) ((re)) ((kn)) (c ((f).toNat)) (c ((g).toNat)) (z) (by first | assumption | omega | rfl | exact decide_eq_false (by omega) | exact decide_eq_true (by assumption) | exact decide_eq_true (by omega) | exact one_shl33 (by omega) | exact pm_lt _ _ | exact rm_lt (by first | assumption | exact pm_lt _ _) | exact Nat.lt_of_le_of_lt (Nat.shiftRight_le _ _) (by assumption) | exact Nat.lt_of_le_of_lt Nat.and_le_right (by omega)) (by first | assumption | omega | rfl | exact decide_eq_false (by omega) | exact decide_eq_true (by assumption) | exact decide_eq_true (by omega) | exact one_shl33 (by omega) | exact pm_lt _ _ | exact rm_lt (by first | assumption | exact pm_lt _ _) | exact Nat.lt_of_le_of_lt (Nat.shiftRight_le _ _) (by assumption) | exact Nat.lt_of_le_of_lt Nat.and_le_right (by omega)) (by first | assumption | omega | rfl | exact decide_eq_false (by omega) | exact decide_eq_true (by assumption) | exact decide_eq_true (by omega) | exact one_shl33 (by omega) | exact pm_lt _ _ | exact rm_lt (by first | assumption | exact pm_lt _ _) | exact Nat.lt_of_le_of_lt (Nat.shiftRight_le _ _) (by assumption) | exact Nat.lt_of_le_of_lt Nat.and_le_right (by omega))) ml_X5_90 rfl ⟨Nat.le_of_ble_eq_true rfl, Nat.le_of_ble_eq_true rfl⟩ ⟨Nat.le_of_ble_eq_true rfl, Nat.le_of_ble_eq_true rfl⟩ hl (Nat.le_of_ble_eq_true rfl) rfl dX5_times_52 (fun H locs B => ?_)
          have q52_0 := aR_rng ((c)) ((z).toNat) (wT (c ((f).toNat)) (c ((g).toNat)))
          have hw : (wT (c f.toNat) (c g.toNat)) = wT (c ((f).toNat)) (c ((g).toNat)) := by rfl
          exact zo_iret C B hr hk (Nat.le_of_ble_eq_true rfl) (Nat.le_of_ble_eq_true rfl) dX5_times_55 (by show some _ = some _; rw [hw] <;> rfl) (by rw [hw] <;> rfl) (by rw [hw] <;> rfl)
        · exact absurd h31 (by decide)
      · exact absurd (of_decide_eq_true h19) (by omega)

set_option maxHeartbeats 4000000 in
set_option maxRecDepth 100000 in
theorem c_X5_square (l : Launch) (D : va_G) (cJ : ClassId) (o a : Nat) (c : Nat → Nat) (th : Int) (ac : Int32) (re : Int32) (kn : Int32) (f : Int) (z : Int) (hf : 0 ≤ f ∧ f ≤ 5) (hz : 0 ≤ z ∧ z ≤ 5) : zA l yX5_square 4 115 0 0 D 4 cJ o a [.int (iZ (f)), .int (iZ (z))] c [.int (iZ (th)), .int (ac), .int (re), .int (kn)] (fun v => v = some (.int (iZ (aR c (z.toNat) (wT (c f.toNat) (c f.toNat)))))) (aC c (z.toNat) (wT (c f.toNat) (c f.toNat))) [.int (iZ (0)), .int (aA ac (wT (c f.toNat) (c f.toNat))), .int (aF re (wT (c f.toNat) (c f.toNat))), .int (kn)] := by
  refine zA.intro (lo := 93) (nA := 2) (own := RX5) zi_X5_square (by decide) rfl rfl (by decide +kernel) rfl (Nat.le_of_ble_eq_true rfl) ?_
  intro p e s m below meth c0 ls C hr hk B hl
  have hl : lv_has ls 3 [(0, .ref o), (1, .int (iZ (f))), (2, .int (iZ (z)))] := hl
  refine lv_aload_n C.1 C.2.1 dX5_square_0 rfl (lv_at hl 0 rfl) ?_
  refine lv_iload_n C.1 C.2.1 dX5_square_1 rfl (lv_at hl 1 rfl) ?_
  refine z_call C (c_X5_isNo l (f) (by first | assumption | omega | rfl | exact decide_eq_false (by omega) | exact decide_eq_true (by assumption) | exact decide_eq_true (by omega) | exact one_shl33 (by omega) | exact pm_lt _ _ | exact rm_lt (by first | assumption | exact pm_lt _ _) | exact Nat.lt_of_le_of_lt (Nat.shiftRight_le _ _) (by assumption) | exact Nat.lt_of_le_of_lt Nat.and_le_right (by omega))) ml_X5_67 ⟨by decide, by decide⟩ ⟨Nat.le_of_ble_eq_true rfl, Nat.le_of_ble_eq_true rfl⟩ hl (Nat.le_of_ble_eq_true rfl) rfl dX5_square_2 ?_
  refine z_ifB_ne (tgt := 15) C dX5_square_5 (by decide) (fun h5 => ?_) (fun h5 => ?_)
  · exact absurd (of_decide_eq_true h5) (by omega)
  · refine lv_iload_n C.1 C.2.1 dX5_square_8 rfl (lv_at hl 2 rfl) ?_
    refine z_call C (c_X5_isNo l (z) (by first | assumption | omega | rfl | exact decide_eq_false (by omega) | exact decide_eq_true (by assumption) | exact decide_eq_true (by omega) | exact one_shl33 (by omega) | exact pm_lt _ _ | exact rm_lt (by first | assumption | exact pm_lt _ _) | exact Nat.lt_of_le_of_lt (Nat.shiftRight_le _ _) (by assumption) | exact Nat.lt_of_le_of_lt Nat.and_le_right (by omega))) ml_X5_67 ⟨by decide, by decide⟩ ⟨Nat.le_of_ble_eq_true rfl, Nat.le_of_ble_eq_true rfl⟩ hl (Nat.le_of_ble_eq_true rfl) rfl dX5_square_9 ?_
    refine z_ifB_eq (tgt := 19) C dX5_square_12 (by decide) (fun h12 => ?_) (fun h12 => ?_)
    · refine z_iconst C dX5_square_19 ?_
      refine z_iconst C dX5_square_20 ?_
      refine zo_callD C B (r := some (.int (iZ (zB (false))))) (c_X5_start_ok l D cJ o a (c) (th) (ac) (re) (kn) (false) (1 : Int) (by first | assumption | omega | rfl | exact decide_eq_false (by omega) | exact decide_eq_true (by assumption) | exact decide_eq_true (by omega) | exact one_shl33 (by omega) | exact pm_lt _ _ | exact rm_lt (by first | assumption | exact pm_lt _ _) | exact Nat.lt_of_le_of_lt (Nat.shiftRight_le _ _) (by assumption) | exact Nat.lt_of_le_of_lt Nat.and_le_right (by omega))) ml_X5_71 rfl ⟨Nat.le_of_ble_eq_true rfl, Nat.le_of_ble_eq_true rfl⟩ ⟨Nat.le_of_ble_eq_true rfl, Nat.le_of_ble_eq_true rfl⟩ hl (Nat.le_of_ble_eq_true rfl) rfl dX5_square_21 (fun H locs B => ?_)
      refine z_ifB_eq (tgt := 31) C dX5_square_24 (by decide) (fun h24 => ?_) (fun h24 => ?_)
      · refine lv_aload_n C.1 C.2.1 dX5_square_31 rfl (lv_at hl 0 rfl) ?_
        refine lv_aload_n C.1 C.2.1 dX5_square_32 rfl (lv_at hl 0 rfl) ?_
        refine zo_get C B (Cn := RX5) (T := TX5) (N := 5) (v := .ref a) rfl inX5 0 (by decide) fl_X5_7 rfl rfl dX5_square_33 ?_
        refine lv_iload_n C.1 C.2.1 dX5_square_36 rfl (lv_at hl 1 rfl) ?_
        refine zo_lald C B ((f).toNat) (by omega) (by omega) dX5_square_37 ?_
        have q37 := B.1.2.2.2 ((f).toNat)
        refine lv_aload_n C.1 C.2.1 dX5_square_38 rfl (lv_at hl 0 rfl) ?_
        refine zo_get C B (Cn := RX5) (T := TX5) (N := 5) (v := .ref a) rfl inX5 0 (by decide) fl_X5_7 rfl rfl dX5_square_39 ?_
        refine lv_iload_n C.1 C.2.1 dX5_square_42 rfl (lv_at hl 1 rfl) ?_
        refine zo_lald C B ((f).toNat) (by omega) (by omega) dX5_square_43 ?_
        have q43 := B.1.2.2.2 ((f).toNat)
        refine lv_iload_n C.1 C.2.1 dX5_square_44 rfl (lv_at hl 2 rfl) ?_
        refine zo_callD C B (r := some (.int (iZ (aR (c) ((z).toNat) (wT (c ((f).toNat)) (c ((f).toNat))))))) (c_X5_multiply l D cJ o a (c) (0) ((ac)) ((re)) ((kn)) (c ((f).toNat)) (c ((f).toNat)) (z) (by first | assumption | omega | rfl | exact decide_eq_false (by omega) | exact decide_eq_true (by assumption) | exact decide_eq_true (by omega) | exact one_shl33 (by omega) | exact pm_lt _ _ | exact rm_lt (by first | assumption | exact pm_lt _ _) | exact Nat.lt_of_le_of_lt (Nat.shiftRight_le _ _) (by assumption) | exact Nat.lt_of_le_of_lt Nat.and_le_right (by omega)) (by first | assumption | omega | rfl | exact decide_eq_false (by omega) | exact decide_eq_true (by assumption) | exact decide_eq_true (by omega) | exact one_shl33 (by omega) | exact pm_lt _ _ | exact rm_lt (by first | assumption | exact pm_lt _ _) | exact Nat.lt_of_le_of_lt (Nat.shiftRight_le _ _) (by assumption) | exact Nat.lt_of_le_of_lt Nat.and_le_right (by omega)) (by first | assumption | omega | rfl | exact decide_eq_false (by omega) | exact decide_eq_true (by assumption) | exact decide_eq_true (by omega) | exact one_shl33 (by omega) | exact pm_lt _ _ | exact rm_lt (by first | assumption | exact pm_lt _ _) | exact Nat.lt_of_le_of_lt (Nat.shiftRight_le _ _) (by assumption) | exact Nat.lt_of_le_of_lt Nat.and_le_right (by omega))) ml_X5_90 rfl ⟨Nat.le_of_ble_eq_true rfl, Nat.le_of_ble_eq_true rfl⟩ ⟨Nat.le_of_ble_eq_true rfl, Nat.le_of_ble_eq_true rfl⟩ hl (Nat.le_of_ble_eq_true rfl) rfl dX5_square_45 (fun H locs B => ?_)
        have q45_0 := aR_rng ((c)) ((z).toNat) (wT (c ((f).toNat)) (c ((f).toNat)))
        have hw : (wT (c f.toNat) (c f.toNat)) = wT (c ((f).toNat)) (c ((f).toNat)) := by rfl
        exact zo_iret C B hr hk (Nat.le_of_ble_eq_true rfl) (Nat.le_of_ble_eq_true rfl) dX5_square_48 (by show some _ = some _; rw [hw] <;> rfl) (by rw [hw] <;> rfl) (by rw [hw] <;> rfl)
      · exact absurd h24 (by decide)
    · exact absurd (of_decide_eq_true h12) (by omega)

set_option maxHeartbeats 4000000 in
set_option maxRecDepth 100000 in
theorem c_X5_shift (l : Launch) (D : va_G) (cJ : ClassId) (o a : Nat) (c : Nat → Nat) (th : Int) (ac : Int32) (re : Int32) (kn : Int32) (f : Int) (g : Int) (z : Int) (hf : 0 ≤ f ∧ f ≤ 5) (hg : -32 ≤ g ∧ g ≤ 32) (hz : 0 ≤ z ∧ z ≤ 5) : zA l yX5_shift 3 91 0 0 D 4 cJ o a [.int (iZ (f)), .int (iZ (g)), .int (iZ (z))] c [.int (iZ (th)), .int (ac), .int (re), .int (kn)] (fun v => v = some (.int (iZ (aR c (z.toNat) (wS (c f.toNat) g))))) (aC c (z.toNat) (wS (c f.toNat) g)) [.int (iZ (0)), .int (aA ac (wS (c f.toNat) g)), .int (aF re (wS (c f.toNat) g)), .int (kn)] := by
  refine zA.intro (lo := 68) (nA := 3) (own := RX5) zi_X5_shift (by decide) rfl rfl (by decide +kernel) rfl (Nat.le_of_ble_eq_true rfl) ?_
  intro p e s m below meth c0 ls C hr hk B hl
  have hl : lv_has ls 4 [(0, .ref o), (1, .int (iZ (f))), (2, .int (iZ (g))), (3, .int (iZ (z)))] := hl
  refine lv_aload_n C.1 C.2.1 dX5_shift_0 rfl (lv_at hl 0 rfl) ?_
  refine lv_iload_n C.1 C.2.1 dX5_shift_1 rfl (lv_at hl 1 rfl) ?_
  refine z_call C (c_X5_isNo l (f) (by first | assumption | omega | rfl | exact decide_eq_false (by omega) | exact decide_eq_true (by assumption) | exact decide_eq_true (by omega) | exact one_shl33 (by omega) | exact pm_lt _ _ | exact rm_lt (by first | assumption | exact pm_lt _ _) | exact Nat.lt_of_le_of_lt (Nat.shiftRight_le _ _) (by assumption) | exact Nat.lt_of_le_of_lt Nat.and_le_right (by omega))) ml_X5_67 ⟨by decide, by decide⟩ ⟨Nat.le_of_ble_eq_true rfl, Nat.le_of_ble_eq_true rfl⟩ hl (Nat.le_of_ble_eq_true rfl) rfl dX5_shift_2 ?_
  refine z_ifB_ne (tgt := 15) C dX5_shift_5 (by decide) (fun h5 => ?_) (fun h5 => ?_)
  · exact absurd (of_decide_eq_true h5) (by omega)
  · refine lv_iload_n C.1 C.2.1 dX5_shift_8 rfl (lv_at hl 3 rfl) ?_
    refine z_call C (c_X5_isNo l (z) (by first | assumption | omega | rfl | exact decide_eq_false (by omega) | exact decide_eq_true (by assumption) | exact decide_eq_true (by omega) | exact one_shl33 (by omega) | exact pm_lt _ _ | exact rm_lt (by first | assumption | exact pm_lt _ _) | exact Nat.lt_of_le_of_lt (Nat.shiftRight_le _ _) (by assumption) | exact Nat.lt_of_le_of_lt Nat.and_le_right (by omega))) ml_X5_67 ⟨by decide, by decide⟩ ⟨Nat.le_of_ble_eq_true rfl, Nat.le_of_ble_eq_true rfl⟩ hl (Nat.le_of_ble_eq_true rfl) rfl dX5_shift_9 ?_
    refine z_ifB_eq (tgt := 19) C dX5_shift_12 (by decide) (fun h12 => ?_) (fun h12 => ?_)
    · refine z_iconst C dX5_shift_19 ?_
      refine z_iconst C dX5_shift_20 ?_
      refine zo_callD C B (r := some (.int (iZ (zB (false))))) (c_X5_start_ok l D cJ o a (c) (th) (ac) (re) (kn) (false) (1 : Int) (by first | assumption | omega | rfl | exact decide_eq_false (by omega) | exact decide_eq_true (by assumption) | exact decide_eq_true (by omega) | exact one_shl33 (by omega) | exact pm_lt _ _ | exact rm_lt (by first | assumption | exact pm_lt _ _) | exact Nat.lt_of_le_of_lt (Nat.shiftRight_le _ _) (by assumption) | exact Nat.lt_of_le_of_lt Nat.and_le_right (by omega))) ml_X5_71 rfl ⟨Nat.le_of_ble_eq_true rfl, Nat.le_of_ble_eq_true rfl⟩ ⟨Nat.le_of_ble_eq_true rfl, Nat.le_of_ble_eq_true rfl⟩ hl (Nat.le_of_ble_eq_true rfl) rfl dX5_shift_21 (fun H locs B => ?_)
      refine z_ifB_ne (tgt := 51) C dX5_shift_24 (by decide) (fun h24 => ?_) (fun h24 => ?_)
      · exact absurd h24 (by decide)
      · refine lv_aload_n C.1 C.2.1 dX5_shift_27 rfl (lv_at hl 0 rfl) ?_
        refine lv_iload_n C.1 C.2.1 dX5_shift_28 rfl (lv_at hl 2 rfl) ?_
        refine z_bipush C dX5_shift_29 (by decide) ?_
        refine z_bipush C dX5_shift_31 (by decide) ?_
        refine z_call C (c_X5_isIn l (g) (-32 : Int) (32 : Int) (by first | assumption | omega | rfl | exact decide_eq_false (by omega) | exact decide_eq_true (by assumption) | exact decide_eq_true (by omega) | exact one_shl33 (by omega) | exact pm_lt _ _ | exact rm_lt (by first | assumption | exact pm_lt _ _) | exact Nat.lt_of_le_of_lt (Nat.shiftRight_le _ _) (by assumption) | exact Nat.lt_of_le_of_lt Nat.and_le_right (by omega)) (by first | assumption | omega | rfl | exact decide_eq_false (by omega) | exact decide_eq_true (by assumption) | exact decide_eq_true (by omega) | exact one_shl33 (by omega) | exact pm_lt _ _ | exact rm_lt (by first | assumption | exact pm_lt _ _) | exact Nat.lt_of_le_of_lt (Nat.shiftRight_le _ _) (by assumption) | exact Nat.lt_of_le_of_lt Nat.and_le_right (by omega)) (by first | assumption | omega | rfl | exact decide_eq_false (by omega) | exact decide_eq_true (by assumption) | exact decide_eq_true (by omega) | exact one_shl33 (by omega) | exact pm_lt _ _ | exact rm_lt (by first | assumption | exact pm_lt _ _) | exact Nat.lt_of_le_of_lt (Nat.shiftRight_le _ _) (by assumption) | exact Nat.lt_of_le_of_lt Nat.and_le_right (by omega))) ml_X5_21 ⟨by decide, by decide⟩ ⟨Nat.le_of_ble_eq_true rfl, Nat.le_of_ble_eq_true rfl⟩ hl (Nat.le_of_ble_eq_true rfl) rfl dX5_shift_33 ?_
        refine z_ifB_ne (tgt := 43) C dX5_shift_36 (by decide) (fun h36 => ?_) (fun h36 => ?_)
        · refine z_iconst C dX5_shift_43 ?_
          refine z_iconst C dX5_shift_44 ?_
          refine zo_callD C B (r := some (.int (iZ (zB (false))))) (c_X5_refuse_ok l D cJ o a (c) (0) ((ac)) ((re)) ((kn)) (false) (2 : Int) (by first | assumption | omega | rfl | exact decide_eq_false (by omega) | exact decide_eq_true (by assumption) | exact decide_eq_true (by omega) | exact one_shl33 (by omega) | exact pm_lt _ _ | exact rm_lt (by first | assumption | exact pm_lt _ _) | exact Nat.lt_of_le_of_lt (Nat.shiftRight_le _ _) (by assumption) | exact Nat.lt_of_le_of_lt Nat.and_le_right (by omega)) (by first | assumption | omega | rfl | exact decide_eq_false (by omega) | exact decide_eq_true (by assumption) | exact decide_eq_true (by omega) | exact one_shl33 (by omega) | exact pm_lt _ _ | exact rm_lt (by first | assumption | exact pm_lt _ _) | exact Nat.lt_of_le_of_lt (Nat.shiftRight_le _ _) (by assumption) | exact Nat.lt_of_le_of_lt Nat.and_le_right (by omega))) ml_X5_17 rfl ⟨Nat.le_of_ble_eq_true rfl, Nat.le_of_ble_eq_true rfl⟩ ⟨Nat.le_of_ble_eq_true rfl, Nat.le_of_ble_eq_true rfl⟩ hl (Nat.le_of_ble_eq_true rfl) rfl dX5_shift_45 (fun H locs B => ?_)
          refine z_ifB_eq (tgt := 53) C dX5_shift_48 (by decide) (fun h48 => ?_) (fun h48 => ?_)
          · refine lv_iload_n C.1 C.2.1 dX5_shift_53 rfl (lv_at hl 2 rfl) ?_
            refine z_if_ge (tgt := 74) C (by omega) dX5_shift_54 (by decide) (fun h54 => ?_) (fun h54 => ?_)
            · refine lv_aload_n C.1 C.2.1 dX5_shift_74 rfl (lv_at hl 0 rfl) ?_
              refine lv_aload_n C.1 C.2.1 dX5_shift_75 rfl (lv_at hl 0 rfl) ?_
              refine zo_get C B (Cn := RX5) (T := TX5) (N := 5) (v := .ref a) rfl inX5 0 (by decide) fl_X5_7 rfl rfl dX5_shift_76 ?_
              refine lv_iload_n C.1 C.2.1 dX5_shift_79 rfl (lv_at hl 1 rfl) ?_
              refine zo_lald C B ((f).toNat) (by omega) (by omega) dX5_shift_80 ?_
              have q80 := B.1.2.2.2 ((f).toNat)
              refine z_call C (c_X5_degreeOf l (c ((f).toNat)) (by first | assumption | omega | rfl | exact decide_eq_false (by omega) | exact decide_eq_true (by assumption) | exact decide_eq_true (by omega) | exact one_shl33 (by omega) | exact pm_lt _ _ | exact rm_lt (by first | assumption | exact pm_lt _ _) | exact Nat.lt_of_le_of_lt (Nat.shiftRight_le _ _) (by assumption) | exact Nat.lt_of_le_of_lt Nat.and_le_right (by omega))) ml_X5_33 ⟨by decide, by decide⟩ ⟨Nat.le_of_ble_eq_true rfl, Nat.le_of_ble_eq_true rfl⟩ hl (Nat.le_of_ble_eq_true rfl) rfl dX5_shift_81 ?_
              have q81_0 := tp_rngE (c ((f).toNat)) (by first | assumption | omega | exact pm_lt _ _ | exact rm_lt (by assumption))
              refine lv_iload_n C.1 C.2.1 dX5_shift_84 rfl (lv_at hl 2 rfl) ?_
              refine z_iadd C dX5_shift_85 ?_
              refine z_bipush C dX5_shift_86 (by decide) ?_
              refine z_icmp_gt (tgt := 95) C (by omega) (by omega) dX5_shift_88 (by decide) (fun h88 => ?_) (fun h88 => ?_)
              · refine z_iconst C dX5_shift_95 ?_
                refine lv_iload_n C.1 C.2.1 dX5_shift_96 rfl (lv_at hl 3 rfl) ?_
                refine lv_aload_n C.1 C.2.1 dX5_shift_97 rfl (lv_at hl 0 rfl) ?_
                refine zo_get C B (Cn := RX5) (T := TX5) (N := 5) (v := .ref a) rfl inX5 0 (by decide) fl_X5_7 rfl rfl dX5_shift_98 ?_
                refine lv_iload_n C.1 C.2.1 dX5_shift_101 rfl (lv_at hl 1 rfl) ?_
                refine zo_lald C B ((f).toNat) (by omega) (by omega) dX5_shift_102 ?_
                have q102 := B.1.2.2.2 ((f).toNat)
                refine lv_iload_n C.1 C.2.1 dX5_shift_103 rfl (lv_at hl 2 rfl) ?_
                refine z_lshl C ((g).toNat) (by omega) (by omega) dX5_shift_104 ?_
                refine zo_callD C B (r := some (.int (iZ (aR (c) ((z).toNat) (if (false) = true then some ((c ((f).toNat)) <<< ((g).toNat)) else none))))) (c_X5_layIf l D cJ o a (c) ((0)) (((ac))) (((re))) (((kn))) (false) (z) ((c ((f).toNat)) <<< ((g).toNat)) (by omega) (by exact fun h => absurd h (by decide))) ml_X5_86 rfl ⟨Nat.le_of_ble_eq_true rfl, Nat.le_of_ble_eq_true rfl⟩ ⟨Nat.le_of_ble_eq_true rfl, Nat.le_of_ble_eq_true rfl⟩ hl (Nat.le_of_ble_eq_true rfl) rfl dX5_shift_105 (fun H locs B => ?_)
                have q105_0 := aR_rng ((c)) ((z).toNat) (if (false) = true then some ((c ((f).toNat)) <<< ((g).toNat)) else none)
                have hw : (wS (c f.toNat) g) = if (false) = true then some ((c ((f).toNat)) <<< ((g).toNat)) else none := by show wS (c f.toNat) g = none; exact if_pos ⟨fun h => absurd h88 (by rw [h, tp_0]; omega), by omega⟩
                exact zo_iret C B hr hk (Nat.le_of_ble_eq_true rfl) (Nat.le_of_ble_eq_true rfl) dX5_shift_108 (by show some _ = some _; rw [hw] <;> rfl) (by rw [hw] <;> rfl) (by rw [hw] <;> rfl)
              · refine z_iconst C dX5_shift_91 ?_
                refine lv_goto (tgt := 96) C.1 C.2.1 dX5_shift_92 (by decide) ?_
                refine lv_iload_n C.1 C.2.1 dX5_shift_96 rfl (lv_at hl 3 rfl) ?_
                refine lv_aload_n C.1 C.2.1 dX5_shift_97 rfl (lv_at hl 0 rfl) ?_
                refine zo_get C B (Cn := RX5) (T := TX5) (N := 5) (v := .ref a) rfl inX5 0 (by decide) fl_X5_7 rfl rfl dX5_shift_98 ?_
                refine lv_iload_n C.1 C.2.1 dX5_shift_101 rfl (lv_at hl 1 rfl) ?_
                refine zo_lald C B ((f).toNat) (by omega) (by omega) dX5_shift_102 ?_
                have q102 := B.1.2.2.2 ((f).toNat)
                refine lv_iload_n C.1 C.2.1 dX5_shift_103 rfl (lv_at hl 2 rfl) ?_
                refine z_lshl C ((g).toNat) (by omega) (by omega) dX5_shift_104 ?_
                refine zo_callD C B (r := some (.int (iZ (aR (c) ((z).toNat) (if (true) = true then some ((c ((f).toNat)) <<< ((g).toNat)) else none))))) (c_X5_layIf l D cJ o a (c) ((0)) (((ac))) (((re))) (((kn))) (true) (z) ((c ((f).toNat)) <<< ((g).toNat)) (by omega) (by exact fun _ => shl33 (by omega) (by omega))) ml_X5_86 rfl ⟨Nat.le_of_ble_eq_true rfl, Nat.le_of_ble_eq_true rfl⟩ ⟨Nat.le_of_ble_eq_true rfl, Nat.le_of_ble_eq_true rfl⟩ hl (Nat.le_of_ble_eq_true rfl) rfl dX5_shift_105 (fun H locs B => ?_)
                have q105_0 := aR_rng ((c)) ((z).toNat) (if (true) = true then some ((c ((f).toNat)) <<< ((g).toNat)) else none)
                have hw : (wS (c f.toNat) g) = if (true) = true then some ((c ((f).toNat)) <<< ((g).toNat)) else none := by show wS (c f.toNat) g = some _; rw [wS, if_neg (fun h => absurd h.2 (by omega)), if_pos (by omega)]
                exact zo_iret C B hr hk (Nat.le_of_ble_eq_true rfl) (Nat.le_of_ble_eq_true rfl) dX5_shift_108 (by show some _ = some _; rw [hw] <;> rfl) (by rw [hw] <;> rfl) (by rw [hw] <;> rfl)
            · refine lv_aload_n C.1 C.2.1 dX5_shift_57 rfl (lv_at hl 0 rfl) ?_
              refine lv_iload_n C.1 C.2.1 dX5_shift_58 rfl (lv_at hl 3 rfl) ?_
              refine lv_aload_n C.1 C.2.1 dX5_shift_59 rfl (lv_at hl 0 rfl) ?_
              refine zo_get C B (Cn := RX5) (T := TX5) (N := 5) (v := .ref a) rfl inX5 0 (by decide) fl_X5_7 rfl rfl dX5_shift_60 ?_
              refine lv_iload_n C.1 C.2.1 dX5_shift_63 rfl (lv_at hl 1 rfl) ?_
              refine zo_lald C B ((f).toNat) (by omega) (by omega) dX5_shift_64 ?_
              have q64 := B.1.2.2.2 ((f).toNat)
              refine lv_iload_n C.1 C.2.1 dX5_shift_65 rfl (lv_at hl 2 rfl) ?_
              refine z_ineg C dX5_shift_66 ?_
              refine z_lushr C ((-(g)).toNat) (by first | assumption | omega | rfl | exact decide_eq_false (by omega) | exact decide_eq_true (by assumption) | exact decide_eq_true (by omega) | exact one_shl33 (by omega) | exact pm_lt _ _ | exact rm_lt (by first | assumption | exact pm_lt _ _) | exact Nat.lt_of_le_of_lt (Nat.shiftRight_le _ _) (by assumption) | exact Nat.lt_of_le_of_lt Nat.and_le_right (by omega)) (by omega) (by omega) dX5_shift_67 ?_
              refine zo_callD C B (r := some (.int (iZ (aR (c) (z).toNat (some ((c ((f).toNat)) >>> ((-(g)).toNat))))))) (c_X5_lay l D cJ o a (c) ((0)) (((ac))) (((re))) (((kn))) (z) ((c ((f).toNat)) >>> ((-(g)).toNat)) (by omega) (by exact shr33 (by assumption))) ml_X5_59 rfl ⟨Nat.le_of_ble_eq_true rfl, Nat.le_of_ble_eq_true rfl⟩ ⟨Nat.le_of_ble_eq_true rfl, Nat.le_of_ble_eq_true rfl⟩ hl (Nat.le_of_ble_eq_true rfl) rfl dX5_shift_68 (fun H locs B => ?_)
              have q68_0 := aR_rng ((c)) (z).toNat (some ((c ((f).toNat)) >>> ((-(g)).toNat)))
              refine lv_goto (tgt := 108) C.1 C.2.1 dX5_shift_71 (by decide) ?_
              have hw : (wS (c f.toNat) g) = some ((c ((f).toNat)) >>> ((-(g)).toNat)) := by rw [wS, if_neg (fun h => absurd h.2 (by have := tp33.mp (q64); omega)), if_neg (by omega)]
              exact zo_iret C B hr hk (Nat.le_of_ble_eq_true rfl) (Nat.le_of_ble_eq_true rfl) dX5_shift_108 (by show some _ = some _; rw [hw] <;> rfl) (by rw [hw] <;> rfl) (by rw [hw] <;> rfl)
          · exact absurd h48 (by decide)
        · exact absurd (of_decide_eq_false h36) (by omega)
    · exact absurd (of_decide_eq_true h12) (by omega)

set_option maxHeartbeats 4000000 in
set_option maxRecDepth 100000 in
theorem c_X5_quotient (l : Launch) (D : va_G) (cJ : ClassId) (o a : Nat) (c : Nat → Nat) (th : Int) (ac : Int32) (re : Int32) (kn : Int32) (f : Int) (g : Int) (z : Int) (hf : 0 ≤ f ∧ f ≤ 5) (hg : 0 ≤ g ∧ g ≤ 5) (hz : 0 ≤ z ∧ z ≤ 5) : zA l yX5_quotient 2 76 0 0 D 4 cJ o a [.int (iZ (f)), .int (iZ (g)), .int (iZ (z))] c [.int (iZ (th)), .int (ac), .int (re), .int (kn)] (fun v => v = some (.int (iZ (aR c (z.toNat) (wQ (c f.toNat) (c g.toNat)))))) (aC c (z.toNat) (wQ (c f.toNat) (c g.toNat))) [.int (iZ (0)), .int (aA ac (wQ (c f.toNat) (c g.toNat))), .int (aF re (wQ (c f.toNat) (c g.toNat))), .int (kn)] := by
  refine zA.intro (lo := 53) (nA := 3) (own := RX5) zi_X5_quotient (by decide) rfl rfl (by decide +kernel) rfl (Nat.le_of_ble_eq_true rfl) ?_
  intro p e s m below meth c0 ls C hr hk B hl
  have hl : lv_has ls 4 [(0, .ref o), (1, .int (iZ (f))), (2, .int (iZ (g))), (3, .int (iZ (z)))] := hl
  refine lv_aload_n C.1 C.2.1 dX5_quotient_0 rfl (lv_at hl 0 rfl) ?_
  refine lv_iload_n C.1 C.2.1 dX5_quotient_1 rfl (lv_at hl 1 rfl) ?_
  refine z_call C (c_X5_isNo l (f) (by first | assumption | omega | rfl | exact decide_eq_false (by omega) | exact decide_eq_true (by assumption) | exact decide_eq_true (by omega) | exact one_shl33 (by omega) | exact pm_lt _ _ | exact rm_lt (by first | assumption | exact pm_lt _ _) | exact Nat.lt_of_le_of_lt (Nat.shiftRight_le _ _) (by assumption) | exact Nat.lt_of_le_of_lt Nat.and_le_right (by omega))) ml_X5_67 ⟨by decide, by decide⟩ ⟨Nat.le_of_ble_eq_true rfl, Nat.le_of_ble_eq_true rfl⟩ hl (Nat.le_of_ble_eq_true rfl) rfl dX5_quotient_2 ?_
  refine z_ifB_ne (tgt := 22) C dX5_quotient_5 (by decide) (fun h5 => ?_) (fun h5 => ?_)
  · exact absurd (of_decide_eq_true h5) (by omega)
  · refine lv_iload_n C.1 C.2.1 dX5_quotient_8 rfl (lv_at hl 2 rfl) ?_
    refine z_call C (c_X5_isNo l (g) (by first | assumption | omega | rfl | exact decide_eq_false (by omega) | exact decide_eq_true (by assumption) | exact decide_eq_true (by omega) | exact one_shl33 (by omega) | exact pm_lt _ _ | exact rm_lt (by first | assumption | exact pm_lt _ _) | exact Nat.lt_of_le_of_lt (Nat.shiftRight_le _ _) (by assumption) | exact Nat.lt_of_le_of_lt Nat.and_le_right (by omega))) ml_X5_67 ⟨by decide, by decide⟩ ⟨Nat.le_of_ble_eq_true rfl, Nat.le_of_ble_eq_true rfl⟩ hl (Nat.le_of_ble_eq_true rfl) rfl dX5_quotient_9 ?_
    refine z_ifB_ne (tgt := 22) C dX5_quotient_12 (by decide) (fun h12 => ?_) (fun h12 => ?_)
    · exact absurd (of_decide_eq_true h12) (by omega)
    · refine lv_iload_n C.1 C.2.1 dX5_quotient_15 rfl (lv_at hl 3 rfl) ?_
      refine z_call C (c_X5_isNo l (z) (by first | assumption | omega | rfl | exact decide_eq_false (by omega) | exact decide_eq_true (by assumption) | exact decide_eq_true (by omega) | exact one_shl33 (by omega) | exact pm_lt _ _ | exact rm_lt (by first | assumption | exact pm_lt _ _) | exact Nat.lt_of_le_of_lt (Nat.shiftRight_le _ _) (by assumption) | exact Nat.lt_of_le_of_lt Nat.and_le_right (by omega))) ml_X5_67 ⟨by decide, by decide⟩ ⟨Nat.le_of_ble_eq_true rfl, Nat.le_of_ble_eq_true rfl⟩ hl (Nat.le_of_ble_eq_true rfl) rfl dX5_quotient_16 ?_
      refine z_ifB_eq (tgt := 26) C dX5_quotient_19 (by decide) (fun h19 => ?_) (fun h19 => ?_)
      · refine z_iconst C dX5_quotient_26 ?_
        refine z_iconst C dX5_quotient_27 ?_
        refine zo_callD C B (r := some (.int (iZ (zB (false))))) (c_X5_start_ok l D cJ o a (c) (th) (ac) (re) (kn) (false) (1 : Int) (by first | assumption | omega | rfl | exact decide_eq_false (by omega) | exact decide_eq_true (by assumption) | exact decide_eq_true (by omega) | exact one_shl33 (by omega) | exact pm_lt _ _ | exact rm_lt (by first | assumption | exact pm_lt _ _) | exact Nat.lt_of_le_of_lt (Nat.shiftRight_le _ _) (by assumption) | exact Nat.lt_of_le_of_lt Nat.and_le_right (by omega))) ml_X5_71 rfl ⟨Nat.le_of_ble_eq_true rfl, Nat.le_of_ble_eq_true rfl⟩ ⟨Nat.le_of_ble_eq_true rfl, Nat.le_of_ble_eq_true rfl⟩ hl (Nat.le_of_ble_eq_true rfl) rfl dX5_quotient_28 (fun H locs B => ?_)
        refine z_ifB_eq (tgt := 36) C dX5_quotient_31 (by decide) (fun h31 => ?_) (fun h31 => ?_)
        · refine lv_aload_n C.1 C.2.1 dX5_quotient_36 rfl (lv_at hl 0 rfl) ?_
          refine zo_get C B (Cn := RX5) (T := TX5) (N := 5) (v := .ref a) rfl inX5 0 (by decide) fl_X5_7 rfl rfl dX5_quotient_37 ?_
          refine lv_iload_n C.1 C.2.1 dX5_quotient_40 rfl (lv_at hl 2 rfl) ?_
          refine zo_lald C B ((g).toNat) (by omega) (by omega) dX5_quotient_41 ?_
          have q41 := B.1.2.2.2 ((g).toNat)
          refine z_lconst (k0 := 0) C dX5_quotient_42 rfl ?_
          refine z_lc_ne (tgt := 54) C (by first | assumption | omega | rfl | exact decide_eq_false (by omega) | exact decide_eq_true (by assumption) | exact decide_eq_true (by omega) | exact one_shl33 (by omega) | exact pm_lt _ _ | exact rm_lt (by first | assumption | exact pm_lt _ _) | exact Nat.lt_of_le_of_lt (Nat.shiftRight_le _ _) (by assumption) | exact Nat.lt_of_le_of_lt Nat.and_le_right (by omega)) (by first | assumption | omega | rfl | exact decide_eq_false (by omega) | exact decide_eq_true (by assumption) | exact decide_eq_true (by omega) | exact one_shl33 (by omega) | exact pm_lt _ _ | exact rm_lt (by first | assumption | exact pm_lt _ _) | exact Nat.lt_of_le_of_lt (Nat.shiftRight_le _ _) (by assumption) | exact Nat.lt_of_le_of_lt Nat.and_le_right (by omega)) dX5_quotient_43 dX5_quotient_44 (by decide) (fun h43 => ?_) (fun h43 => ?_)
          · refine lv_aload_n C.1 C.2.1 dX5_quotient_54 rfl (lv_at hl 0 rfl) ?_
            refine lv_iload_n C.1 C.2.1 dX5_quotient_55 rfl (lv_at hl 3 rfl) ?_
            refine lv_aload_n C.1 C.2.1 dX5_quotient_56 rfl (lv_at hl 0 rfl) ?_
            refine zo_get C B (Cn := RX5) (T := TX5) (N := 5) (v := .ref a) rfl inX5 0 (by decide) fl_X5_7 rfl rfl dX5_quotient_57 ?_
            refine lv_iload_n C.1 C.2.1 dX5_quotient_60 rfl (lv_at hl 1 rfl) ?_
            refine zo_lald C B ((f).toNat) (by omega) (by omega) dX5_quotient_61 ?_
            have q61 := B.1.2.2.2 ((f).toNat)
            refine lv_aload_n C.1 C.2.1 dX5_quotient_62 rfl (lv_at hl 0 rfl) ?_
            refine zo_get C B (Cn := RX5) (T := TX5) (N := 5) (v := .ref a) rfl inX5 0 (by decide) fl_X5_7 rfl rfl dX5_quotient_63 ?_
            refine lv_iload_n C.1 C.2.1 dX5_quotient_66 rfl (lv_at hl 2 rfl) ?_
            refine zo_lald C B ((g).toNat) (by omega) (by omega) dX5_quotient_67 ?_
            have q67 := B.1.2.2.2 ((g).toNat)
            refine z_call C (c_X5_quotientOf l (c ((f).toNat)) (c ((g).toNat)) (by first | assumption | omega | rfl | exact decide_eq_false (by omega) | exact decide_eq_true (by assumption) | exact decide_eq_true (by omega) | exact one_shl33 (by omega) | exact pm_lt _ _ | exact rm_lt (by first | assumption | exact pm_lt _ _) | exact Nat.lt_of_le_of_lt (Nat.shiftRight_le _ _) (by assumption) | exact Nat.lt_of_le_of_lt Nat.and_le_right (by omega)) (by first | assumption | omega | rfl | exact decide_eq_false (by omega) | exact decide_eq_true (by assumption) | exact decide_eq_true (by omega) | exact one_shl33 (by omega) | exact pm_lt _ _ | exact rm_lt (by first | assumption | exact pm_lt _ _) | exact Nat.lt_of_le_of_lt (Nat.shiftRight_le _ _) (by assumption) | exact Nat.lt_of_le_of_lt Nat.and_le_right (by omega)) (by first | assumption | omega | rfl | exact decide_eq_false (by omega) | exact decide_eq_true (by assumption) | exact decide_eq_true (by omega) | exact one_shl33 (by omega) | exact pm_lt _ _ | exact rm_lt (by first | assumption | exact pm_lt _ _) | exact Nat.lt_of_le_of_lt (Nat.shiftRight_le _ _) (by assumption) | exact Nat.lt_of_le_of_lt Nat.and_le_right (by omega))) ml_X5_37 ⟨by decide, by decide⟩ ⟨Nat.le_of_ble_eq_true rfl, Nat.le_of_ble_eq_true rfl⟩ hl (Nat.le_of_ble_eq_true rfl) rfl dX5_quotient_68 ?_
            refine zo_callD C B (r := some (.int (iZ (aR (c) (z).toNat (some (qo (c ((f).toNat)) (c ((g).toNat)))))))) (c_X5_lay l D cJ o a (c) (0) ((ac)) ((re)) ((kn)) (z) (qo (c ((f).toNat)) (c ((g).toNat))) (by omega) (by exact qo33 (by assumption) (by assumption))) ml_X5_59 rfl ⟨Nat.le_of_ble_eq_true rfl, Nat.le_of_ble_eq_true rfl⟩ ⟨Nat.le_of_ble_eq_true rfl, Nat.le_of_ble_eq_true rfl⟩ hl (Nat.le_of_ble_eq_true rfl) rfl dX5_quotient_71 (fun H locs B => ?_)
            have q71_0 := aR_rng ((c)) (z).toNat (some (qo (c ((f).toNat)) (c ((g).toNat))))
            have hw : (wQ (c f.toNat) (c g.toNat)) = some (qo (c ((f).toNat)) (c ((g).toNat))) := by exact if_neg h43
            exact zo_iret C B hr hk (Nat.le_of_ble_eq_true rfl) (Nat.le_of_ble_eq_true rfl) dX5_quotient_74 (by show some _ = some _; rw [hw] <;> rfl) (by rw [hw] <;> rfl) (by rw [hw] <;> rfl)
          · refine lv_aload_n C.1 C.2.1 dX5_quotient_47 rfl (lv_at hl 0 rfl) ?_
            refine zo_callD C B (r := some (.int (iZ (-9)))) (c_X5_no l D cJ o a (c) (0) ((ac)) ((re)) ((kn))  ) ml_X5_63 rfl ⟨Nat.le_of_ble_eq_true rfl, Nat.le_of_ble_eq_true rfl⟩ ⟨Nat.le_of_ble_eq_true rfl, Nat.le_of_ble_eq_true rfl⟩ hl (Nat.le_of_ble_eq_true rfl) rfl dX5_quotient_48 (fun H locs B => ?_)
            refine lv_goto (tgt := 74) C.1 C.2.1 dX5_quotient_51 (by decide) ?_
            have hw : (wQ (c f.toNat) (c g.toNat)) = none := by exact if_pos h43
            exact zo_iret C B hr hk (Nat.le_of_ble_eq_true rfl) (Nat.le_of_ble_eq_true rfl) dX5_quotient_74 (by show some _ = some _; rw [hw] <;> rfl) (by rw [hw] <;> rfl) (by rw [hw] <;> rfl)
        · exact absurd h31 (by decide)
      · exact absurd (of_decide_eq_true h19) (by omega)

set_option maxHeartbeats 4000000 in
set_option maxRecDepth 100000 in
theorem c_X5_rest (l : Launch) (D : va_G) (cJ : ClassId) (o a : Nat) (c : Nat → Nat) (th : Int) (ac : Int32) (re : Int32) (kn : Int32) (f : Int) (g : Int) (z : Int) (hf : 0 ≤ f ∧ f ≤ 5) (hg : 0 ≤ g ∧ g ≤ 5) (hz : 0 ≤ z ∧ z ≤ 5) : zA l yX5_rest 3 99 0 0 D 4 cJ o a [.int (iZ (f)), .int (iZ (g)), .int (iZ (z))] c [.int (iZ (th)), .int (ac), .int (re), .int (kn)] (fun v => v = some (.int (iZ (aR c (z.toNat) (wM (c f.toNat) (c g.toNat)))))) (aC c (z.toNat) (wM (c f.toNat) (c g.toNat))) [.int (iZ (0)), .int (aA ac (wM (c f.toNat) (c g.toNat))), .int (aF re (wM (c f.toNat) (c g.toNat))), .int (kn)] := by
  refine zA.intro (lo := 76) (nA := 3) (own := RX5) zi_X5_rest (by decide) rfl rfl (by decide +kernel) rfl (Nat.le_of_ble_eq_true rfl) ?_
  intro p e s m below meth c0 ls C hr hk B hl
  have hl : lv_has ls 4 [(0, .ref o), (1, .int (iZ (f))), (2, .int (iZ (g))), (3, .int (iZ (z)))] := hl
  refine lv_aload_n C.1 C.2.1 dX5_rest_0 rfl (lv_at hl 0 rfl) ?_
  refine lv_iload_n C.1 C.2.1 dX5_rest_1 rfl (lv_at hl 1 rfl) ?_
  refine z_call C (c_X5_isNo l (f) (by first | assumption | omega | rfl | exact decide_eq_false (by omega) | exact decide_eq_true (by assumption) | exact decide_eq_true (by omega) | exact one_shl33 (by omega) | exact pm_lt _ _ | exact rm_lt (by first | assumption | exact pm_lt _ _) | exact Nat.lt_of_le_of_lt (Nat.shiftRight_le _ _) (by assumption) | exact Nat.lt_of_le_of_lt Nat.and_le_right (by omega))) ml_X5_67 ⟨by decide, by decide⟩ ⟨Nat.le_of_ble_eq_true rfl, Nat.le_of_ble_eq_true rfl⟩ hl (Nat.le_of_ble_eq_true rfl) rfl dX5_rest_2 ?_
  refine z_ifB_ne (tgt := 22) C dX5_rest_5 (by decide) (fun h5 => ?_) (fun h5 => ?_)
  · exact absurd (of_decide_eq_true h5) (by omega)
  · refine lv_iload_n C.1 C.2.1 dX5_rest_8 rfl (lv_at hl 2 rfl) ?_
    refine z_call C (c_X5_isNo l (g) (by first | assumption | omega | rfl | exact decide_eq_false (by omega) | exact decide_eq_true (by assumption) | exact decide_eq_true (by omega) | exact one_shl33 (by omega) | exact pm_lt _ _ | exact rm_lt (by first | assumption | exact pm_lt _ _) | exact Nat.lt_of_le_of_lt (Nat.shiftRight_le _ _) (by assumption) | exact Nat.lt_of_le_of_lt Nat.and_le_right (by omega))) ml_X5_67 ⟨by decide, by decide⟩ ⟨Nat.le_of_ble_eq_true rfl, Nat.le_of_ble_eq_true rfl⟩ hl (Nat.le_of_ble_eq_true rfl) rfl dX5_rest_9 ?_
    refine z_ifB_ne (tgt := 22) C dX5_rest_12 (by decide) (fun h12 => ?_) (fun h12 => ?_)
    · exact absurd (of_decide_eq_true h12) (by omega)
    · refine lv_iload_n C.1 C.2.1 dX5_rest_15 rfl (lv_at hl 3 rfl) ?_
      refine z_call C (c_X5_isNo l (z) (by first | assumption | omega | rfl | exact decide_eq_false (by omega) | exact decide_eq_true (by assumption) | exact decide_eq_true (by omega) | exact one_shl33 (by omega) | exact pm_lt _ _ | exact rm_lt (by first | assumption | exact pm_lt _ _) | exact Nat.lt_of_le_of_lt (Nat.shiftRight_le _ _) (by assumption) | exact Nat.lt_of_le_of_lt Nat.and_le_right (by omega))) ml_X5_67 ⟨by decide, by decide⟩ ⟨Nat.le_of_ble_eq_true rfl, Nat.le_of_ble_eq_true rfl⟩ hl (Nat.le_of_ble_eq_true rfl) rfl dX5_rest_16 ?_
      refine z_ifB_eq (tgt := 26) C dX5_rest_19 (by decide) (fun h19 => ?_) (fun h19 => ?_)
      · refine z_iconst C dX5_rest_26 ?_
        refine z_iconst C dX5_rest_27 ?_
        refine zo_callD C B (r := some (.int (iZ (zB (false))))) (c_X5_start_ok l D cJ o a (c) (th) (ac) (re) (kn) (false) (1 : Int) (by first | assumption | omega | rfl | exact decide_eq_false (by omega) | exact decide_eq_true (by assumption) | exact decide_eq_true (by omega) | exact one_shl33 (by omega) | exact pm_lt _ _ | exact rm_lt (by first | assumption | exact pm_lt _ _) | exact Nat.lt_of_le_of_lt (Nat.shiftRight_le _ _) (by assumption) | exact Nat.lt_of_le_of_lt Nat.and_le_right (by omega))) ml_X5_71 rfl ⟨Nat.le_of_ble_eq_true rfl, Nat.le_of_ble_eq_true rfl⟩ ⟨Nat.le_of_ble_eq_true rfl, Nat.le_of_ble_eq_true rfl⟩ hl (Nat.le_of_ble_eq_true rfl) rfl dX5_rest_28 (fun H locs B => ?_)
        refine z_ifB_eq (tgt := 36) C dX5_rest_31 (by decide) (fun h31 => ?_) (fun h31 => ?_)
        · refine lv_aload_n C.1 C.2.1 dX5_rest_36 rfl (lv_at hl 0 rfl) ?_
          refine zo_get C B (Cn := RX5) (T := TX5) (N := 5) (v := .ref a) rfl inX5 0 (by decide) fl_X5_7 rfl rfl dX5_rest_37 ?_
          refine lv_iload_n C.1 C.2.1 dX5_rest_40 rfl (lv_at hl 2 rfl) ?_
          refine zo_lald C B ((g).toNat) (by omega) (by omega) dX5_rest_41 ?_
          have q41 := B.1.2.2.2 ((g).toNat)
          refine z_lconst (k0 := 0) C dX5_rest_42 rfl ?_
          refine z_lc_ne (tgt := 54) C (by first | assumption | omega | rfl | exact decide_eq_false (by omega) | exact decide_eq_true (by assumption) | exact decide_eq_true (by omega) | exact one_shl33 (by omega) | exact pm_lt _ _ | exact rm_lt (by first | assumption | exact pm_lt _ _) | exact Nat.lt_of_le_of_lt (Nat.shiftRight_le _ _) (by assumption) | exact Nat.lt_of_le_of_lt Nat.and_le_right (by omega)) (by first | assumption | omega | rfl | exact decide_eq_false (by omega) | exact decide_eq_true (by assumption) | exact decide_eq_true (by omega) | exact one_shl33 (by omega) | exact pm_lt _ _ | exact rm_lt (by first | assumption | exact pm_lt _ _) | exact Nat.lt_of_le_of_lt (Nat.shiftRight_le _ _) (by assumption) | exact Nat.lt_of_le_of_lt Nat.and_le_right (by omega)) dX5_rest_43 dX5_rest_44 (by decide) (fun h43 => ?_) (fun h43 => ?_)
          · refine lv_aload_n C.1 C.2.1 dX5_rest_54 rfl (lv_at hl 0 rfl) ?_
            refine lv_iload_n C.1 C.2.1 dX5_rest_55 rfl (lv_at hl 3 rfl) ?_
            refine lv_aload_n C.1 C.2.1 dX5_rest_56 rfl (lv_at hl 0 rfl) ?_
            refine zo_get C B (Cn := RX5) (T := TX5) (N := 5) (v := .ref a) rfl inX5 0 (by decide) fl_X5_7 rfl rfl dX5_rest_57 ?_
            refine lv_iload_n C.1 C.2.1 dX5_rest_60 rfl (lv_at hl 1 rfl) ?_
            refine zo_lald C B ((f).toNat) (by omega) (by omega) dX5_rest_61 ?_
            have q61 := B.1.2.2.2 ((f).toNat)
            refine lv_aload_n C.1 C.2.1 dX5_rest_62 rfl (lv_at hl 0 rfl) ?_
            refine zo_get C B (Cn := RX5) (T := TX5) (N := 5) (v := .ref a) rfl inX5 0 (by decide) fl_X5_7 rfl rfl dX5_rest_63 ?_
            refine lv_iload_n C.1 C.2.1 dX5_rest_66 rfl (lv_at hl 2 rfl) ?_
            refine zo_lald C B ((g).toNat) (by omega) (by omega) dX5_rest_67 ?_
            have q67 := B.1.2.2.2 ((g).toNat)
            refine z_call C (c_X5_restOf l (c ((f).toNat)) (c ((g).toNat)) (by first | assumption | omega | rfl | exact decide_eq_false (by omega) | exact decide_eq_true (by assumption) | exact decide_eq_true (by omega) | exact one_shl33 (by omega) | exact pm_lt _ _ | exact rm_lt (by first | assumption | exact pm_lt _ _) | exact Nat.lt_of_le_of_lt (Nat.shiftRight_le _ _) (by assumption) | exact Nat.lt_of_le_of_lt Nat.and_le_right (by omega)) (by first | assumption | omega | rfl | exact decide_eq_false (by omega) | exact decide_eq_true (by assumption) | exact decide_eq_true (by omega) | exact one_shl33 (by omega) | exact pm_lt _ _ | exact rm_lt (by first | assumption | exact pm_lt _ _) | exact Nat.lt_of_le_of_lt (Nat.shiftRight_le _ _) (by assumption) | exact Nat.lt_of_le_of_lt Nat.and_le_right (by omega)) (by first | assumption | omega | rfl | exact decide_eq_false (by omega) | exact decide_eq_true (by assumption) | exact decide_eq_true (by omega) | exact one_shl33 (by omega) | exact pm_lt _ _ | exact rm_lt (by first | assumption | exact pm_lt _ _) | exact Nat.lt_of_le_of_lt (Nat.shiftRight_le _ _) (by assumption) | exact Nat.lt_of_le_of_lt Nat.and_le_right (by omega))) ml_X5_46 ⟨by decide, by decide⟩ ⟨Nat.le_of_ble_eq_true rfl, Nat.le_of_ble_eq_true rfl⟩ hl (Nat.le_of_ble_eq_true rfl) rfl dX5_rest_68 ?_
            refine zo_callD C B (r := some (.int (iZ (aR (c) (z).toNat (some (rm (c ((f).toNat)) (c ((g).toNat)))))))) (c_X5_lay l D cJ o a (c) (0) ((ac)) ((re)) ((kn)) (z) (rm (c ((f).toNat)) (c ((g).toNat))) (by omega) (by exact rm33 (by assumption) (by assumption) h43)) ml_X5_59 rfl ⟨Nat.le_of_ble_eq_true rfl, Nat.le_of_ble_eq_true rfl⟩ ⟨Nat.le_of_ble_eq_true rfl, Nat.le_of_ble_eq_true rfl⟩ hl (Nat.le_of_ble_eq_true rfl) rfl dX5_rest_71 (fun H locs B => ?_)
            have q71_0 := aR_rng ((c)) (z).toNat (some (rm (c ((f).toNat)) (c ((g).toNat))))
            have hw : (wM (c f.toNat) (c g.toNat)) = some (rm (c ((f).toNat)) (c ((g).toNat))) := by exact if_neg h43
            exact zo_iret C B hr hk (Nat.le_of_ble_eq_true rfl) (Nat.le_of_ble_eq_true rfl) dX5_rest_74 (by show some _ = some _; rw [hw] <;> rfl) (by rw [hw] <;> rfl) (by rw [hw] <;> rfl)
          · refine lv_aload_n C.1 C.2.1 dX5_rest_47 rfl (lv_at hl 0 rfl) ?_
            refine zo_callD C B (r := some (.int (iZ (-9)))) (c_X5_no l D cJ o a (c) (0) ((ac)) ((re)) ((kn))  ) ml_X5_63 rfl ⟨Nat.le_of_ble_eq_true rfl, Nat.le_of_ble_eq_true rfl⟩ ⟨Nat.le_of_ble_eq_true rfl, Nat.le_of_ble_eq_true rfl⟩ hl (Nat.le_of_ble_eq_true rfl) rfl dX5_rest_48 (fun H locs B => ?_)
            refine lv_goto (tgt := 74) C.1 C.2.1 dX5_rest_51 (by decide) ?_
            have hw : (wM (c f.toNat) (c g.toNat)) = none := by exact if_pos h43
            exact zo_iret C B hr hk (Nat.le_of_ble_eq_true rfl) (Nat.le_of_ble_eq_true rfl) dX5_rest_74 (by show some _ = some _; rw [hw] <;> rfl) (by rw [hw] <;> rfl) (by rw [hw] <;> rfl)
        · exact absurd h31 (by decide)
      · exact absurd (of_decide_eq_true h19) (by omega)

set_option maxHeartbeats 4000000 in
set_option maxRecDepth 100000 in
theorem c_X5_gcd (l : Launch) (D : va_G) (cJ : ClassId) (o a : Nat) (c : Nat → Nat) (th : Int) (ac : Int32) (re : Int32) (kn : Int32) (f : Int) (g : Int) (z : Int) (hf : 0 ≤ f ∧ f ≤ 5) (hg : 0 ≤ g ∧ g ≤ 5) (hz : 0 ≤ z ∧ z ≤ 5) : zA l yX5_gcd 3 112 0 0 D 4 cJ o a [.int (iZ (f)), .int (iZ (g)), .int (iZ (z))] c [.int (iZ (th)), .int (ac), .int (re), .int (kn)] (fun v => v = some (.int (iZ (aR c (z.toNat) (some (eu (c f.toNat) (c g.toNat) (c f.toNat) (c g.toNat))))))) (aC c (z.toNat) (some (eu (c f.toNat) (c g.toNat) (c f.toNat) (c g.toNat)))) [.int (iZ (0)), .int (aA ac (some (eu (c f.toNat) (c g.toNat) (c f.toNat) (c g.toNat)))), .int (aF re (some (eu (c f.toNat) (c g.toNat) (c f.toNat) (c g.toNat)))), .int (kn)] := by
  refine zA.intro (lo := 89) (nA := 3) (own := RX5) zi_X5_gcd (by decide) rfl rfl (by decide +kernel) rfl (Nat.le_of_ble_eq_true rfl) ?_
  intro p e s m below meth c0 ls C hr hk B hl
  have hl : lv_has ls 4 [(0, .ref o), (1, .int (iZ (f))), (2, .int (iZ (g))), (3, .int (iZ (z)))] := hl
  refine lv_aload_n C.1 C.2.1 dX5_gcd_0 rfl (lv_at hl 0 rfl) ?_
  refine lv_iload_n C.1 C.2.1 dX5_gcd_1 rfl (lv_at hl 1 rfl) ?_
  refine z_call C (c_X5_isNo l (f) (by first | assumption | omega | rfl | exact decide_eq_false (by omega) | exact decide_eq_true (by assumption) | exact decide_eq_true (by omega) | exact one_shl33 (by omega) | exact pm_lt _ _ | exact rm_lt (by first | assumption | exact pm_lt _ _) | exact Nat.lt_of_le_of_lt (Nat.shiftRight_le _ _) (by assumption) | exact Nat.lt_of_le_of_lt Nat.and_le_right (by omega))) ml_X5_67 ⟨by decide, by decide⟩ ⟨Nat.le_of_ble_eq_true rfl, Nat.le_of_ble_eq_true rfl⟩ hl (Nat.le_of_ble_eq_true rfl) rfl dX5_gcd_2 ?_
  refine z_ifB_ne (tgt := 22) C dX5_gcd_5 (by decide) (fun h5 => ?_) (fun h5 => ?_)
  · exact absurd (of_decide_eq_true h5) (by omega)
  · refine lv_iload_n C.1 C.2.1 dX5_gcd_8 rfl (lv_at hl 2 rfl) ?_
    refine z_call C (c_X5_isNo l (g) (by first | assumption | omega | rfl | exact decide_eq_false (by omega) | exact decide_eq_true (by assumption) | exact decide_eq_true (by omega) | exact one_shl33 (by omega) | exact pm_lt _ _ | exact rm_lt (by first | assumption | exact pm_lt _ _) | exact Nat.lt_of_le_of_lt (Nat.shiftRight_le _ _) (by assumption) | exact Nat.lt_of_le_of_lt Nat.and_le_right (by omega))) ml_X5_67 ⟨by decide, by decide⟩ ⟨Nat.le_of_ble_eq_true rfl, Nat.le_of_ble_eq_true rfl⟩ hl (Nat.le_of_ble_eq_true rfl) rfl dX5_gcd_9 ?_
    refine z_ifB_ne (tgt := 22) C dX5_gcd_12 (by decide) (fun h12 => ?_) (fun h12 => ?_)
    · exact absurd (of_decide_eq_true h12) (by omega)
    · refine lv_iload_n C.1 C.2.1 dX5_gcd_15 rfl (lv_at hl 3 rfl) ?_
      refine z_call C (c_X5_isNo l (z) (by first | assumption | omega | rfl | exact decide_eq_false (by omega) | exact decide_eq_true (by assumption) | exact decide_eq_true (by omega) | exact one_shl33 (by omega) | exact pm_lt _ _ | exact rm_lt (by first | assumption | exact pm_lt _ _) | exact Nat.lt_of_le_of_lt (Nat.shiftRight_le _ _) (by assumption) | exact Nat.lt_of_le_of_lt Nat.and_le_right (by omega))) ml_X5_67 ⟨by decide, by decide⟩ ⟨Nat.le_of_ble_eq_true rfl, Nat.le_of_ble_eq_true rfl⟩ hl (Nat.le_of_ble_eq_true rfl) rfl dX5_gcd_16 ?_
      refine z_ifB_eq (tgt := 26) C dX5_gcd_19 (by decide) (fun h19 => ?_) (fun h19 => ?_)
      · refine z_iconst C dX5_gcd_26 ?_
        refine z_iconst C dX5_gcd_27 ?_
        refine zo_callD C B (r := some (.int (iZ (zB (false))))) (c_X5_start_ok l D cJ o a (c) (th) (ac) (re) (kn) (false) (1 : Int) (by first | assumption | omega | rfl | exact decide_eq_false (by omega) | exact decide_eq_true (by assumption) | exact decide_eq_true (by omega) | exact one_shl33 (by omega) | exact pm_lt _ _ | exact rm_lt (by first | assumption | exact pm_lt _ _) | exact Nat.lt_of_le_of_lt (Nat.shiftRight_le _ _) (by assumption) | exact Nat.lt_of_le_of_lt Nat.and_le_right (by omega))) ml_X5_71 rfl ⟨Nat.le_of_ble_eq_true rfl, Nat.le_of_ble_eq_true rfl⟩ ⟨Nat.le_of_ble_eq_true rfl, Nat.le_of_ble_eq_true rfl⟩ hl (Nat.le_of_ble_eq_true rfl) rfl dX5_gcd_28 (fun H locs B => ?_)
        refine z_ifB_eq (tgt := 38) C dX5_gcd_31 (by decide) (fun h31 => ?_) (fun h31 => ?_)
        · refine lv_aload_n C.1 C.2.1 dX5_gcd_38 rfl (lv_at hl 0 rfl) ?_
          refine lv_iload_n C.1 C.2.1 dX5_gcd_39 rfl (lv_at hl 3 rfl) ?_
          refine lv_aload_n C.1 C.2.1 dX5_gcd_40 rfl (lv_at hl 0 rfl) ?_
          refine zo_get C B (Cn := RX5) (T := TX5) (N := 5) (v := .ref a) rfl inX5 0 (by decide) fl_X5_7 rfl rfl dX5_gcd_41 ?_
          refine lv_iload_n C.1 C.2.1 dX5_gcd_44 rfl (lv_at hl 1 rfl) ?_
          refine zo_lald C B ((f).toNat) (by omega) (by omega) dX5_gcd_45 ?_
          have q45 := B.1.2.2.2 ((f).toNat)
          refine lv_aload_n C.1 C.2.1 dX5_gcd_46 rfl (lv_at hl 0 rfl) ?_
          refine zo_get C B (Cn := RX5) (T := TX5) (N := 5) (v := .ref a) rfl inX5 0 (by decide) fl_X5_7 rfl rfl dX5_gcd_47 ?_
          refine lv_iload_n C.1 C.2.1 dX5_gcd_50 rfl (lv_at hl 2 rfl) ?_
          refine zo_lald C B ((g).toNat) (by omega) (by omega) dX5_gcd_51 ?_
          have q51 := B.1.2.2.2 ((g).toNat)
          refine z_iconst C dX5_gcd_52 ?_
          refine z_call C (c_X5_euclid l (c ((f).toNat)) (c ((g).toNat)) (0 : Int) (by first | assumption | omega | rfl | exact decide_eq_false (by omega) | exact decide_eq_true (by assumption) | exact decide_eq_true (by omega) | exact one_shl33 (by omega) | exact pm_lt _ _ | exact rm_lt (by first | assumption | exact pm_lt _ _) | exact Nat.lt_of_le_of_lt (Nat.shiftRight_le _ _) (by assumption) | exact Nat.lt_of_le_of_lt Nat.and_le_right (by omega)) (by first | assumption | omega | rfl | exact decide_eq_false (by omega) | exact decide_eq_true (by assumption) | exact decide_eq_true (by omega) | exact one_shl33 (by omega) | exact pm_lt _ _ | exact rm_lt (by first | assumption | exact pm_lt _ _) | exact Nat.lt_of_le_of_lt (Nat.shiftRight_le _ _) (by assumption) | exact Nat.lt_of_le_of_lt Nat.and_le_right (by omega)) (by first | assumption | omega | rfl | exact decide_eq_false (by omega) | exact decide_eq_true (by assumption) | exact decide_eq_true (by omega) | exact one_shl33 (by omega) | exact pm_lt _ _ | exact rm_lt (by first | assumption | exact pm_lt _ _) | exact Nat.lt_of_le_of_lt (Nat.shiftRight_le _ _) (by assumption) | exact Nat.lt_of_le_of_lt Nat.and_le_right (by omega))) ml_X5_94 ⟨by decide, by decide⟩ ⟨Nat.le_of_ble_eq_true rfl, Nat.le_of_ble_eq_true rfl⟩ hl (Nat.le_of_ble_eq_true rfl) rfl dX5_gcd_53 ?_
          have q53_0 := eu_ltE (c ((f).toNat)) (c ((g).toNat)) (eux (c ((f).toNat)) (0 : Int)) (euy (c ((g).toNat)) (0 : Int)) (eux_lt (by first | assumption | omega)) (euy_lt (by first | assumption | omega))
          refine zo_callD C B (r := some (.int (iZ (aR (c) (z).toNat (some (eu (c ((f).toNat)) (c ((g).toNat)) (eux (c ((f).toNat)) (0 : Int)) (euy (c ((g).toNat)) (0 : Int)))))))) (c_X5_lay l D cJ o a (c) (0) ((ac)) ((re)) ((kn)) (z) (eu (c ((f).toNat)) (c ((g).toNat)) (eux (c ((f).toNat)) (0 : Int)) (euy (c ((g).toNat)) (0 : Int))) (by omega) (by exact eu33g (by assumption) (by assumption))) ml_X5_59 rfl ⟨Nat.le_of_ble_eq_true rfl, Nat.le_of_ble_eq_true rfl⟩ ⟨Nat.le_of_ble_eq_true rfl, Nat.le_of_ble_eq_true rfl⟩ hl (Nat.le_of_ble_eq_true rfl) rfl dX5_gcd_56 (fun H locs B => ?_)
          have q56_0 := aR_rng ((c)) (z).toNat (some (eu (c ((f).toNat)) (c ((g).toNat)) (eux (c ((f).toNat)) (0 : Int)) (euy (c ((g).toNat)) (0 : Int))))
          have hw : (some (eu (c f.toNat) (c g.toNat) (c f.toNat) (c g.toNat))) = some (eu (c ((f).toNat)) (c ((g).toNat)) (eux (c ((f).toNat)) (0 : Int)) (euy (c ((g).toNat)) (0 : Int))) := by rfl
          exact zo_iret C B hr hk (Nat.le_of_ble_eq_true rfl) (Nat.le_of_ble_eq_true rfl) dX5_gcd_59 (by show some _ = some _; rw [hw] <;> rfl) (by rw [hw] <;> rfl) (by rw [hw] <;> rfl)
        · exact absurd h31 (by decide)
      · exact absurd (of_decide_eq_true h19) (by omega)

set_option maxHeartbeats 4000000 in
set_option maxRecDepth 100000 in
theorem c_X5_lcm (l : Launch) (D : va_G) (cJ : ClassId) (o a : Nat) (c : Nat → Nat) (th : Int) (ac : Int32) (re : Int32) (kn : Int32) (f : Int) (g : Int) (z : Int) (hf : 0 ≤ f ∧ f ≤ 5) (hg : 0 ≤ g ∧ g ≤ 5) (hz : 0 ≤ z ∧ z ≤ 5) : zA l yX5_lcm 4 116 0 0 D 4 cJ o a [.int (iZ (f)), .int (iZ (g)), .int (iZ (z))] c [.int (iZ (th)), .int (ac), .int (re), .int (kn)] (fun v => v = some (.int (iZ (aR c (z.toNat) (wL (c f.toNat) (c g.toNat)))))) (aC c (z.toNat) (wL (c f.toNat) (c g.toNat))) [.int (iZ (0)), .int (aA ac (wL (c f.toNat) (c g.toNat))), .int (aF re (wL (c f.toNat) (c g.toNat))), .int (kn)] := by
  refine zA.intro (lo := 93) (nA := 3) (own := RX5) zi_X5_lcm (by decide) rfl rfl (by decide +kernel) rfl (Nat.le_of_ble_eq_true rfl) ?_
  intro p e s m below meth c0 ls C hr hk B hl
  have hl : lv_has ls 4 [(0, .ref o), (1, .int (iZ (f))), (2, .int (iZ (g))), (3, .int (iZ (z)))] := hl
  refine lv_aload_n C.1 C.2.1 dX5_lcm_0 rfl (lv_at hl 0 rfl) ?_
  refine lv_iload_n C.1 C.2.1 dX5_lcm_1 rfl (lv_at hl 1 rfl) ?_
  refine z_call C (c_X5_isNo l (f) (by first | assumption | omega | rfl | exact decide_eq_false (by omega) | exact decide_eq_true (by assumption) | exact decide_eq_true (by omega) | exact one_shl33 (by omega) | exact pm_lt _ _ | exact rm_lt (by first | assumption | exact pm_lt _ _) | exact Nat.lt_of_le_of_lt (Nat.shiftRight_le _ _) (by assumption) | exact Nat.lt_of_le_of_lt Nat.and_le_right (by omega))) ml_X5_67 ⟨by decide, by decide⟩ ⟨Nat.le_of_ble_eq_true rfl, Nat.le_of_ble_eq_true rfl⟩ hl (Nat.le_of_ble_eq_true rfl) rfl dX5_lcm_2 ?_
  refine z_ifB_ne (tgt := 22) C dX5_lcm_5 (by decide) (fun h5 => ?_) (fun h5 => ?_)
  · exact absurd (of_decide_eq_true h5) (by omega)
  · refine lv_iload_n C.1 C.2.1 dX5_lcm_8 rfl (lv_at hl 2 rfl) ?_
    refine z_call C (c_X5_isNo l (g) (by first | assumption | omega | rfl | exact decide_eq_false (by omega) | exact decide_eq_true (by assumption) | exact decide_eq_true (by omega) | exact one_shl33 (by omega) | exact pm_lt _ _ | exact rm_lt (by first | assumption | exact pm_lt _ _) | exact Nat.lt_of_le_of_lt (Nat.shiftRight_le _ _) (by assumption) | exact Nat.lt_of_le_of_lt Nat.and_le_right (by omega))) ml_X5_67 ⟨by decide, by decide⟩ ⟨Nat.le_of_ble_eq_true rfl, Nat.le_of_ble_eq_true rfl⟩ hl (Nat.le_of_ble_eq_true rfl) rfl dX5_lcm_9 ?_
    refine z_ifB_ne (tgt := 22) C dX5_lcm_12 (by decide) (fun h12 => ?_) (fun h12 => ?_)
    · exact absurd (of_decide_eq_true h12) (by omega)
    · refine lv_iload_n C.1 C.2.1 dX5_lcm_15 rfl (lv_at hl 3 rfl) ?_
      refine z_call C (c_X5_isNo l (z) (by first | assumption | omega | rfl | exact decide_eq_false (by omega) | exact decide_eq_true (by assumption) | exact decide_eq_true (by omega) | exact one_shl33 (by omega) | exact pm_lt _ _ | exact rm_lt (by first | assumption | exact pm_lt _ _) | exact Nat.lt_of_le_of_lt (Nat.shiftRight_le _ _) (by assumption) | exact Nat.lt_of_le_of_lt Nat.and_le_right (by omega))) ml_X5_67 ⟨by decide, by decide⟩ ⟨Nat.le_of_ble_eq_true rfl, Nat.le_of_ble_eq_true rfl⟩ hl (Nat.le_of_ble_eq_true rfl) rfl dX5_lcm_16 ?_
      refine z_ifB_eq (tgt := 26) C dX5_lcm_19 (by decide) (fun h19 => ?_) (fun h19 => ?_)
      · refine z_iconst C dX5_lcm_26 ?_
        refine z_iconst C dX5_lcm_27 ?_
        refine zo_callD C B (r := some (.int (iZ (zB (false))))) (c_X5_start_ok l D cJ o a (c) (th) (ac) (re) (kn) (false) (1 : Int) (by first | assumption | omega | rfl | exact decide_eq_false (by omega) | exact decide_eq_true (by assumption) | exact decide_eq_true (by omega) | exact one_shl33 (by omega) | exact pm_lt _ _ | exact rm_lt (by first | assumption | exact pm_lt _ _) | exact Nat.lt_of_le_of_lt (Nat.shiftRight_le _ _) (by assumption) | exact Nat.lt_of_le_of_lt Nat.and_le_right (by omega))) ml_X5_71 rfl ⟨Nat.le_of_ble_eq_true rfl, Nat.le_of_ble_eq_true rfl⟩ ⟨Nat.le_of_ble_eq_true rfl, Nat.le_of_ble_eq_true rfl⟩ hl (Nat.le_of_ble_eq_true rfl) rfl dX5_lcm_28 (fun H locs B => ?_)
        refine z_ifB_eq (tgt := 36) C dX5_lcm_31 (by decide) (fun h31 => ?_) (fun h31 => ?_)
        · refine lv_aload_n C.1 C.2.1 dX5_lcm_36 rfl (lv_at hl 0 rfl) ?_
          refine zo_get C B (Cn := RX5) (T := TX5) (N := 5) (v := .ref a) rfl inX5 0 (by decide) fl_X5_7 rfl rfl dX5_lcm_37 ?_
          refine lv_iload_n C.1 C.2.1 dX5_lcm_40 rfl (lv_at hl 1 rfl) ?_
          refine zo_lald C B ((f).toNat) (by omega) (by omega) dX5_lcm_41 ?_
          have q41 := B.1.2.2.2 ((f).toNat)
          refine z_lconst (k0 := 0) C dX5_lcm_42 rfl ?_
          refine z_lc_eq (tgt := 58) C (by first | assumption | omega | rfl | exact decide_eq_false (by omega) | exact decide_eq_true (by assumption) | exact decide_eq_true (by omega) | exact one_shl33 (by omega) | exact pm_lt _ _ | exact rm_lt (by first | assumption | exact pm_lt _ _) | exact Nat.lt_of_le_of_lt (Nat.shiftRight_le _ _) (by assumption) | exact Nat.lt_of_le_of_lt Nat.and_le_right (by omega)) (by first | assumption | omega | rfl | exact decide_eq_false (by omega) | exact decide_eq_true (by assumption) | exact decide_eq_true (by omega) | exact one_shl33 (by omega) | exact pm_lt _ _ | exact rm_lt (by first | assumption | exact pm_lt _ _) | exact Nat.lt_of_le_of_lt (Nat.shiftRight_le _ _) (by assumption) | exact Nat.lt_of_le_of_lt Nat.and_le_right (by omega)) dX5_lcm_43 dX5_lcm_44 (by decide) (fun h43 => ?_) (fun h43 => ?_)
          · refine lv_aload_n C.1 C.2.1 dX5_lcm_58 rfl (lv_at hl 0 rfl) ?_
            refine lv_iload_n C.1 C.2.1 dX5_lcm_59 rfl (lv_at hl 3 rfl) ?_
            refine z_lconst (k0 := 0) C dX5_lcm_60 rfl ?_
            refine zo_callD C B (r := some (.int (iZ (aR (c) (z).toNat (some (0)))))) (c_X5_lay l D cJ o a (c) (0) ((ac)) ((re)) ((kn)) (z) (0) (by first | assumption | omega | rfl | exact decide_eq_false (by omega) | exact decide_eq_true (by assumption) | exact decide_eq_true (by omega) | exact one_shl33 (by omega) | exact pm_lt _ _ | exact rm_lt (by first | assumption | exact pm_lt _ _) | exact Nat.lt_of_le_of_lt (Nat.shiftRight_le _ _) (by assumption) | exact Nat.lt_of_le_of_lt Nat.and_le_right (by omega)) (by first | assumption | omega | rfl | exact decide_eq_false (by omega) | exact decide_eq_true (by assumption) | exact decide_eq_true (by omega) | exact one_shl33 (by omega) | exact pm_lt _ _ | exact rm_lt (by first | assumption | exact pm_lt _ _) | exact Nat.lt_of_le_of_lt (Nat.shiftRight_le _ _) (by assumption) | exact Nat.lt_of_le_of_lt Nat.and_le_right (by omega))) ml_X5_59 rfl ⟨Nat.le_of_ble_eq_true rfl, Nat.le_of_ble_eq_true rfl⟩ ⟨Nat.le_of_ble_eq_true rfl, Nat.le_of_ble_eq_true rfl⟩ hl (Nat.le_of_ble_eq_true rfl) rfl dX5_lcm_61 (fun H locs B => ?_)
            have q61_0 := aR_rng ((c)) (z).toNat (some (0))
            have hw : (wL (c f.toNat) (c g.toNat)) = some (0) := by exact if_pos (Or.inl h43)
            exact zo_iret C B hr hk (Nat.le_of_ble_eq_true rfl) (Nat.le_of_ble_eq_true rfl) dX5_lcm_64 (by show some _ = some _; rw [hw] <;> rfl) (by rw [hw] <;> rfl) (by rw [hw] <;> rfl)
          · refine lv_aload_n C.1 C.2.1 dX5_lcm_47 rfl (lv_at hl 0 rfl) ?_
            refine zo_get C B (Cn := RX5) (T := TX5) (N := 5) (v := .ref a) rfl inX5 0 (by decide) fl_X5_7 rfl rfl dX5_lcm_48 ?_
            refine lv_iload_n C.1 C.2.1 dX5_lcm_51 rfl (lv_at hl 2 rfl) ?_
            refine zo_lald C B ((g).toNat) (by omega) (by omega) dX5_lcm_52 ?_
            have q52 := B.1.2.2.2 ((g).toNat)
            refine z_lconst (k0 := 0) C dX5_lcm_53 rfl ?_
            refine z_lc_ne (tgt := 65) C (by first | assumption | omega | rfl | exact decide_eq_false (by omega) | exact decide_eq_true (by assumption) | exact decide_eq_true (by omega) | exact one_shl33 (by omega) | exact pm_lt _ _ | exact rm_lt (by first | assumption | exact pm_lt _ _) | exact Nat.lt_of_le_of_lt (Nat.shiftRight_le _ _) (by assumption) | exact Nat.lt_of_le_of_lt Nat.and_le_right (by omega)) (by first | assumption | omega | rfl | exact decide_eq_false (by omega) | exact decide_eq_true (by assumption) | exact decide_eq_true (by omega) | exact one_shl33 (by omega) | exact pm_lt _ _ | exact rm_lt (by first | assumption | exact pm_lt _ _) | exact Nat.lt_of_le_of_lt (Nat.shiftRight_le _ _) (by assumption) | exact Nat.lt_of_le_of_lt Nat.and_le_right (by omega)) dX5_lcm_54 dX5_lcm_55 (by decide) (fun h54 => ?_) (fun h54 => ?_)
            · have g0 := B.1.2.2.2 f.toNat
              have g1 := B.1.2.2.2 g.toNat
              have g2 := eu33g g0 g1
              have g3 : ¬ eu (c f.toNat) (c g.toNat) (c f.toNat) (c g.toNat) = 0 := eu_ne g0 g1 h43
              refine lv_aload_n C.1 C.2.1 dX5_lcm_65 rfl (lv_at hl 0 rfl) ?_
              refine lv_aload_n C.1 C.2.1 dX5_lcm_66 rfl (lv_at hl 0 rfl) ?_
              refine zo_get C B (Cn := RX5) (T := TX5) (N := 5) (v := .ref a) rfl inX5 0 (by decide) fl_X5_7 rfl rfl dX5_lcm_67 ?_
              refine lv_iload_n C.1 C.2.1 dX5_lcm_70 rfl (lv_at hl 1 rfl) ?_
              refine zo_lald C B ((f).toNat) (by omega) (by omega) dX5_lcm_71 ?_
              have q71 := B.1.2.2.2 ((f).toNat)
              refine lv_aload_n C.1 C.2.1 dX5_lcm_72 rfl (lv_at hl 0 rfl) ?_
              refine zo_get C B (Cn := RX5) (T := TX5) (N := 5) (v := .ref a) rfl inX5 0 (by decide) fl_X5_7 rfl rfl dX5_lcm_73 ?_
              refine lv_iload_n C.1 C.2.1 dX5_lcm_76 rfl (lv_at hl 1 rfl) ?_
              refine zo_lald C B ((f).toNat) (by omega) (by omega) dX5_lcm_77 ?_
              have q77 := B.1.2.2.2 ((f).toNat)
              refine lv_aload_n C.1 C.2.1 dX5_lcm_78 rfl (lv_at hl 0 rfl) ?_
              refine zo_get C B (Cn := RX5) (T := TX5) (N := 5) (v := .ref a) rfl inX5 0 (by decide) fl_X5_7 rfl rfl dX5_lcm_79 ?_
              refine lv_iload_n C.1 C.2.1 dX5_lcm_82 rfl (lv_at hl 2 rfl) ?_
              refine zo_lald C B ((g).toNat) (by omega) (by omega) dX5_lcm_83 ?_
              have q83 := B.1.2.2.2 ((g).toNat)
              refine z_iconst C dX5_lcm_84 ?_
              refine z_call C (c_X5_euclid l (c ((f).toNat)) (c ((g).toNat)) (0 : Int) (by first | assumption | omega | rfl | exact decide_eq_false (by omega) | exact decide_eq_true (by assumption) | exact decide_eq_true (by omega) | exact one_shl33 (by omega) | exact pm_lt _ _ | exact rm_lt (by first | assumption | exact pm_lt _ _) | exact Nat.lt_of_le_of_lt (Nat.shiftRight_le _ _) (by assumption) | exact Nat.lt_of_le_of_lt Nat.and_le_right (by omega)) (by first | assumption | omega | rfl | exact decide_eq_false (by omega) | exact decide_eq_true (by assumption) | exact decide_eq_true (by omega) | exact one_shl33 (by omega) | exact pm_lt _ _ | exact rm_lt (by first | assumption | exact pm_lt _ _) | exact Nat.lt_of_le_of_lt (Nat.shiftRight_le _ _) (by assumption) | exact Nat.lt_of_le_of_lt Nat.and_le_right (by omega)) (by first | assumption | omega | rfl | exact decide_eq_false (by omega) | exact decide_eq_true (by assumption) | exact decide_eq_true (by omega) | exact one_shl33 (by omega) | exact pm_lt _ _ | exact rm_lt (by first | assumption | exact pm_lt _ _) | exact Nat.lt_of_le_of_lt (Nat.shiftRight_le _ _) (by assumption) | exact Nat.lt_of_le_of_lt Nat.and_le_right (by omega))) ml_X5_94 ⟨by decide, by decide⟩ ⟨Nat.le_of_ble_eq_true rfl, Nat.le_of_ble_eq_true rfl⟩ hl (Nat.le_of_ble_eq_true rfl) rfl dX5_lcm_85 ?_
              have q85_0 := eu_ltE (c ((f).toNat)) (c ((g).toNat)) (eux (c ((f).toNat)) (0 : Int)) (euy (c ((g).toNat)) (0 : Int)) (eux_lt (by first | assumption | omega)) (euy_lt (by first | assumption | omega))
              refine z_call C (c_X5_quotientOf l (c ((f).toNat)) (eu (c ((f).toNat)) (c ((g).toNat)) (eux (c ((f).toNat)) (0 : Int)) (euy (c ((g).toNat)) (0 : Int))) (by omega) (by exact Nat.lt_trans g2 (by omega)) (by exact g3)) ml_X5_37 ⟨by decide, by decide⟩ ⟨Nat.le_of_ble_eq_true rfl, Nat.le_of_ble_eq_true rfl⟩ hl (Nat.le_of_ble_eq_true rfl) rfl dX5_lcm_88 ?_
              refine lv_aload_n C.1 C.2.1 dX5_lcm_91 rfl (lv_at hl 0 rfl) ?_
              refine zo_get C B (Cn := RX5) (T := TX5) (N := 5) (v := .ref a) rfl inX5 0 (by decide) fl_X5_7 rfl rfl dX5_lcm_92 ?_
              refine lv_iload_n C.1 C.2.1 dX5_lcm_95 rfl (lv_at hl 2 rfl) ?_
              refine zo_lald C B ((g).toNat) (by omega) (by omega) dX5_lcm_96 ?_
              have q96 := B.1.2.2.2 ((g).toNat)
              refine lv_iload_n C.1 C.2.1 dX5_lcm_97 rfl (lv_at hl 3 rfl) ?_
              refine zo_callD C B (r := some (.int (iZ (aR (c) ((z).toNat) (wT (qo (c ((f).toNat)) (eu (c ((f).toNat)) (c ((g).toNat)) (eux (c ((f).toNat)) (0 : Int)) (euy (c ((g).toNat)) (0 : Int)))) (c ((g).toNat))))))) (c_X5_multiply l D cJ o a (c) (0) ((ac)) ((re)) ((kn)) (qo (c ((f).toNat)) (eu (c ((f).toNat)) (c ((g).toNat)) (eux (c ((f).toNat)) (0 : Int)) (euy (c ((g).toNat)) (0 : Int)))) (c ((g).toNat)) (z) (by exact qo33 g0 g2) (by omega) (by omega)) ml_X5_90 rfl ⟨Nat.le_of_ble_eq_true rfl, Nat.le_of_ble_eq_true rfl⟩ ⟨Nat.le_of_ble_eq_true rfl, Nat.le_of_ble_eq_true rfl⟩ hl (Nat.le_of_ble_eq_true rfl) rfl dX5_lcm_98 (fun H locs B => ?_)
              have q98_0 := aR_rng ((c)) ((z).toNat) (wT (qo (c ((f).toNat)) (eu (c ((f).toNat)) (c ((g).toNat)) (eux (c ((f).toNat)) (0 : Int)) (euy (c ((g).toNat)) (0 : Int)))) (c ((g).toNat)))
              have hw : (wL (c f.toNat) (c g.toNat)) = wT (qo (c ((f).toNat)) (eu (c ((f).toNat)) (c ((g).toNat)) (eux (c ((f).toNat)) (0 : Int)) (euy (c ((g).toNat)) (0 : Int)))) (c ((g).toNat)) := by exact if_neg (fun h => h.elim h43 h54)
              exact zo_iret C B hr hk (Nat.le_of_ble_eq_true rfl) (Nat.le_of_ble_eq_true rfl) dX5_lcm_101 (by show some _ = some _; rw [hw] <;> rfl) (by rw [hw] <;> rfl) (by rw [hw] <;> rfl)
            · refine lv_aload_n C.1 C.2.1 dX5_lcm_58 rfl (lv_at hl 0 rfl) ?_
              refine lv_iload_n C.1 C.2.1 dX5_lcm_59 rfl (lv_at hl 3 rfl) ?_
              refine z_lconst (k0 := 0) C dX5_lcm_60 rfl ?_
              refine zo_callD C B (r := some (.int (iZ (aR (c) (z).toNat (some (0)))))) (c_X5_lay l D cJ o a (c) (0) ((ac)) ((re)) ((kn)) (z) (0) (by first | assumption | omega | rfl | exact decide_eq_false (by omega) | exact decide_eq_true (by assumption) | exact decide_eq_true (by omega) | exact one_shl33 (by omega) | exact pm_lt _ _ | exact rm_lt (by first | assumption | exact pm_lt _ _) | exact Nat.lt_of_le_of_lt (Nat.shiftRight_le _ _) (by assumption) | exact Nat.lt_of_le_of_lt Nat.and_le_right (by omega)) (by first | assumption | omega | rfl | exact decide_eq_false (by omega) | exact decide_eq_true (by assumption) | exact decide_eq_true (by omega) | exact one_shl33 (by omega) | exact pm_lt _ _ | exact rm_lt (by first | assumption | exact pm_lt _ _) | exact Nat.lt_of_le_of_lt (Nat.shiftRight_le _ _) (by assumption) | exact Nat.lt_of_le_of_lt Nat.and_le_right (by omega))) ml_X5_59 rfl ⟨Nat.le_of_ble_eq_true rfl, Nat.le_of_ble_eq_true rfl⟩ ⟨Nat.le_of_ble_eq_true rfl, Nat.le_of_ble_eq_true rfl⟩ hl (Nat.le_of_ble_eq_true rfl) rfl dX5_lcm_61 (fun H locs B => ?_)
              have q61_0 := aR_rng ((c)) (z).toNat (some (0))
              have hw : (wL (c f.toNat) (c g.toNat)) = some (0) := by exact if_pos (Or.inr h54)
              exact zo_iret C B hr hk (Nat.le_of_ble_eq_true rfl) (Nat.le_of_ble_eq_true rfl) dX5_lcm_64 (by show some _ = some _; rw [hw] <;> rfl) (by rw [hw] <;> rfl) (by rw [hw] <;> rfl)
        · exact absurd h31 (by decide)
      · exact absurd (of_decide_eq_true h19) (by omega)

set_option maxHeartbeats 4000000 in
set_option maxRecDepth 100000 in
theorem c_X5_bezout (l : Launch) (D : va_G) (cJ : ClassId) (o a : Nat) (c : Nat → Nat) (th : Int) (ac : Int32) (re : Int32) (kn : Int32) (f : Int) (g : Int) (b : Bool) (z : Int) (hf : 0 ≤ f ∧ f ≤ 5) (hg : 0 ≤ g ∧ g ≤ 5) (hz : 0 ≤ z ∧ z ≤ 5) : zA l yX5_bezout 3 113 0 0 D 4 cJ o a [.int (iZ (f)), .int (iZ (g)), .int (iZ (zB (b))), .int (iZ (z))] c [.int (iZ (th)), .int (ac), .int (re), .int (kn)] (fun v => v = some (.int (iZ (aR c (z.toNat) (some (if b = true then eu (c f.toNat) (c g.toNat) 1 0 else eu (c f.toNat) (c g.toNat) 0 1)))))) (aC c (z.toNat) (some (if b = true then eu (c f.toNat) (c g.toNat) 1 0 else eu (c f.toNat) (c g.toNat) 0 1))) [.int (iZ (0)), .int (aA ac (some (if b = true then eu (c f.toNat) (c g.toNat) 1 0 else eu (c f.toNat) (c g.toNat) 0 1))), .int (aF re (some (if b = true then eu (c f.toNat) (c g.toNat) 1 0 else eu (c f.toNat) (c g.toNat) 0 1))), .int (kn)] := by
  refine zA.intro (lo := 89) (nA := 4) (own := RX5) zi_X5_bezout (by decide) rfl rfl (by decide +kernel) rfl (Nat.le_of_ble_eq_true rfl) ?_
  intro p e s m below meth c0 ls C hr hk B hl
  have hl : lv_has ls 5 [(0, .ref o), (1, .int (iZ (f))), (2, .int (iZ (g))), (3, .int (iZ (zB (b)))), (4, .int (iZ (z)))] := hl
  refine lv_aload_n C.1 C.2.1 dX5_bezout_0 rfl (lv_at hl 0 rfl) ?_
  refine lv_iload_n C.1 C.2.1 dX5_bezout_1 rfl (lv_at hl 1 rfl) ?_
  refine z_call C (c_X5_isNo l (f) (by first | assumption | omega | rfl | exact decide_eq_false (by omega) | exact decide_eq_true (by assumption) | exact decide_eq_true (by omega) | exact one_shl33 (by omega) | exact pm_lt _ _ | exact rm_lt (by first | assumption | exact pm_lt _ _) | exact Nat.lt_of_le_of_lt (Nat.shiftRight_le _ _) (by assumption) | exact Nat.lt_of_le_of_lt Nat.and_le_right (by omega))) ml_X5_67 ⟨by decide, by decide⟩ ⟨Nat.le_of_ble_eq_true rfl, Nat.le_of_ble_eq_true rfl⟩ hl (Nat.le_of_ble_eq_true rfl) rfl dX5_bezout_2 ?_
  refine z_ifB_ne (tgt := 23) C dX5_bezout_5 (by decide) (fun h5 => ?_) (fun h5 => ?_)
  · exact absurd (of_decide_eq_true h5) (by omega)
  · refine lv_iload_n C.1 C.2.1 dX5_bezout_8 rfl (lv_at hl 2 rfl) ?_
    refine z_call C (c_X5_isNo l (g) (by first | assumption | omega | rfl | exact decide_eq_false (by omega) | exact decide_eq_true (by assumption) | exact decide_eq_true (by omega) | exact one_shl33 (by omega) | exact pm_lt _ _ | exact rm_lt (by first | assumption | exact pm_lt _ _) | exact Nat.lt_of_le_of_lt (Nat.shiftRight_le _ _) (by assumption) | exact Nat.lt_of_le_of_lt Nat.and_le_right (by omega))) ml_X5_67 ⟨by decide, by decide⟩ ⟨Nat.le_of_ble_eq_true rfl, Nat.le_of_ble_eq_true rfl⟩ hl (Nat.le_of_ble_eq_true rfl) rfl dX5_bezout_9 ?_
    refine z_ifB_ne (tgt := 23) C dX5_bezout_12 (by decide) (fun h12 => ?_) (fun h12 => ?_)
    · exact absurd (of_decide_eq_true h12) (by omega)
    · refine lv_iload C.1 C.2.1 dX5_bezout_15 (lv_at hl 4 rfl) ?_
      refine z_call C (c_X5_isNo l (z) (by first | assumption | omega | rfl | exact decide_eq_false (by omega) | exact decide_eq_true (by assumption) | exact decide_eq_true (by omega) | exact one_shl33 (by omega) | exact pm_lt _ _ | exact rm_lt (by first | assumption | exact pm_lt _ _) | exact Nat.lt_of_le_of_lt (Nat.shiftRight_le _ _) (by assumption) | exact Nat.lt_of_le_of_lt Nat.and_le_right (by omega))) ml_X5_67 ⟨by decide, by decide⟩ ⟨Nat.le_of_ble_eq_true rfl, Nat.le_of_ble_eq_true rfl⟩ hl (Nat.le_of_ble_eq_true rfl) rfl dX5_bezout_17 ?_
      refine z_ifB_eq (tgt := 27) C dX5_bezout_20 (by decide) (fun h20 => ?_) (fun h20 => ?_)
      · refine z_iconst C dX5_bezout_27 ?_
        refine z_iconst C dX5_bezout_28 ?_
        refine zo_callD C B (r := some (.int (iZ (zB (false))))) (c_X5_start_ok l D cJ o a (c) (th) (ac) (re) (kn) (false) (1 : Int) (by first | assumption | omega | rfl | exact decide_eq_false (by omega) | exact decide_eq_true (by assumption) | exact decide_eq_true (by omega) | exact one_shl33 (by omega) | exact pm_lt _ _ | exact rm_lt (by first | assumption | exact pm_lt _ _) | exact Nat.lt_of_le_of_lt (Nat.shiftRight_le _ _) (by assumption) | exact Nat.lt_of_le_of_lt Nat.and_le_right (by omega))) ml_X5_71 rfl ⟨Nat.le_of_ble_eq_true rfl, Nat.le_of_ble_eq_true rfl⟩ ⟨Nat.le_of_ble_eq_true rfl, Nat.le_of_ble_eq_true rfl⟩ hl (Nat.le_of_ble_eq_true rfl) rfl dX5_bezout_29 (fun H locs B => ?_)
        refine z_ifB_eq (tgt := 39) C dX5_bezout_32 (by decide) (fun h32 => ?_) (fun h32 => ?_)
        · refine lv_aload_n C.1 C.2.1 dX5_bezout_39 rfl (lv_at hl 0 rfl) ?_
          refine lv_iload C.1 C.2.1 dX5_bezout_40 (lv_at hl 4 rfl) ?_
          refine lv_aload_n C.1 C.2.1 dX5_bezout_42 rfl (lv_at hl 0 rfl) ?_
          refine zo_get C B (Cn := RX5) (T := TX5) (N := 5) (v := .ref a) rfl inX5 0 (by decide) fl_X5_7 rfl rfl dX5_bezout_43 ?_
          refine lv_iload_n C.1 C.2.1 dX5_bezout_46 rfl (lv_at hl 1 rfl) ?_
          refine zo_lald C B ((f).toNat) (by omega) (by omega) dX5_bezout_47 ?_
          have q47 := B.1.2.2.2 ((f).toNat)
          refine lv_aload_n C.1 C.2.1 dX5_bezout_48 rfl (lv_at hl 0 rfl) ?_
          refine zo_get C B (Cn := RX5) (T := TX5) (N := 5) (v := .ref a) rfl inX5 0 (by decide) fl_X5_7 rfl rfl dX5_bezout_49 ?_
          refine lv_iload_n C.1 C.2.1 dX5_bezout_52 rfl (lv_at hl 2 rfl) ?_
          refine zo_lald C B ((g).toNat) (by omega) (by omega) dX5_bezout_53 ?_
          have q53 := B.1.2.2.2 ((g).toNat)
          refine lv_iload_n C.1 C.2.1 dX5_bezout_54 rfl (lv_at hl 3 rfl) ?_
          refine z_ifB_eq (tgt := 62) C dX5_bezout_55 (by decide) (fun h55 => ?_) (fun h55 => ?_)
          · refine z_iconst C dX5_bezout_62 ?_
            refine z_call C (c_X5_euclid l (c ((f).toNat)) (c ((g).toNat)) (2 : Int) (by first | assumption | omega | rfl | exact decide_eq_false (by omega) | exact decide_eq_true (by assumption) | exact decide_eq_true (by omega) | exact one_shl33 (by omega) | exact pm_lt _ _ | exact rm_lt (by first | assumption | exact pm_lt _ _) | exact Nat.lt_of_le_of_lt (Nat.shiftRight_le _ _) (by assumption) | exact Nat.lt_of_le_of_lt Nat.and_le_right (by omega)) (by first | assumption | omega | rfl | exact decide_eq_false (by omega) | exact decide_eq_true (by assumption) | exact decide_eq_true (by omega) | exact one_shl33 (by omega) | exact pm_lt _ _ | exact rm_lt (by first | assumption | exact pm_lt _ _) | exact Nat.lt_of_le_of_lt (Nat.shiftRight_le _ _) (by assumption) | exact Nat.lt_of_le_of_lt Nat.and_le_right (by omega)) (by first | assumption | omega | rfl | exact decide_eq_false (by omega) | exact decide_eq_true (by assumption) | exact decide_eq_true (by omega) | exact one_shl33 (by omega) | exact pm_lt _ _ | exact rm_lt (by first | assumption | exact pm_lt _ _) | exact Nat.lt_of_le_of_lt (Nat.shiftRight_le _ _) (by assumption) | exact Nat.lt_of_le_of_lt Nat.and_le_right (by omega))) ml_X5_94 ⟨by decide, by decide⟩ ⟨Nat.le_of_ble_eq_true rfl, Nat.le_of_ble_eq_true rfl⟩ hl (Nat.le_of_ble_eq_true rfl) rfl dX5_bezout_63 ?_
            have q63_0 := eu_ltE (c ((f).toNat)) (c ((g).toNat)) (eux (c ((f).toNat)) (2 : Int)) (euy (c ((g).toNat)) (2 : Int)) (eux_lt (by first | assumption | omega)) (euy_lt (by first | assumption | omega))
            refine zo_callD C B (r := some (.int (iZ (aR (c) (z).toNat (some (eu (c ((f).toNat)) (c ((g).toNat)) (eux (c ((f).toNat)) (2 : Int)) (euy (c ((g).toNat)) (2 : Int)))))))) (c_X5_lay l D cJ o a (c) (0) ((ac)) ((re)) ((kn)) (z) (eu (c ((f).toNat)) (c ((g).toNat)) (eux (c ((f).toNat)) (2 : Int)) (euy (c ((g).toNat)) (2 : Int))) (by omega) (by exact eu33s (by assumption) (by assumption))) ml_X5_59 rfl ⟨Nat.le_of_ble_eq_true rfl, Nat.le_of_ble_eq_true rfl⟩ ⟨Nat.le_of_ble_eq_true rfl, Nat.le_of_ble_eq_true rfl⟩ hl (Nat.le_of_ble_eq_true rfl) rfl dX5_bezout_66 (fun H locs B => ?_)
            have q66_0 := aR_rng ((c)) (z).toNat (some (eu (c ((f).toNat)) (c ((g).toNat)) (eux (c ((f).toNat)) (2 : Int)) (euy (c ((g).toNat)) (2 : Int))))
            have hw : (some (if b = true then eu (c f.toNat) (c g.toNat) 1 0 else eu (c f.toNat) (c g.toNat) 0 1)) = some (eu (c ((f).toNat)) (c ((g).toNat)) (eux (c ((f).toNat)) (2 : Int)) (euy (c ((g).toNat)) (2 : Int))) := by rw [if_neg (by rw [h55]; decide)]; rfl
            exact zo_iret C B hr hk (Nat.le_of_ble_eq_true rfl) (Nat.le_of_ble_eq_true rfl) dX5_bezout_69 (by show some _ = some _; rw [hw] <;> rfl) (by rw [hw] <;> rfl) (by rw [hw] <;> rfl)
          · refine z_iconst C dX5_bezout_58 ?_
            refine lv_goto (tgt := 63) C.1 C.2.1 dX5_bezout_59 (by decide) ?_
            refine z_call C (c_X5_euclid l (c ((f).toNat)) (c ((g).toNat)) (1 : Int) (by first | assumption | omega | rfl | exact decide_eq_false (by omega) | exact decide_eq_true (by assumption) | exact decide_eq_true (by omega) | exact one_shl33 (by omega) | exact pm_lt _ _ | exact rm_lt (by first | assumption | exact pm_lt _ _) | exact Nat.lt_of_le_of_lt (Nat.shiftRight_le _ _) (by assumption) | exact Nat.lt_of_le_of_lt Nat.and_le_right (by omega)) (by first | assumption | omega | rfl | exact decide_eq_false (by omega) | exact decide_eq_true (by assumption) | exact decide_eq_true (by omega) | exact one_shl33 (by omega) | exact pm_lt _ _ | exact rm_lt (by first | assumption | exact pm_lt _ _) | exact Nat.lt_of_le_of_lt (Nat.shiftRight_le _ _) (by assumption) | exact Nat.lt_of_le_of_lt Nat.and_le_right (by omega)) (by first | assumption | omega | rfl | exact decide_eq_false (by omega) | exact decide_eq_true (by assumption) | exact decide_eq_true (by omega) | exact one_shl33 (by omega) | exact pm_lt _ _ | exact rm_lt (by first | assumption | exact pm_lt _ _) | exact Nat.lt_of_le_of_lt (Nat.shiftRight_le _ _) (by assumption) | exact Nat.lt_of_le_of_lt Nat.and_le_right (by omega))) ml_X5_94 ⟨by decide, by decide⟩ ⟨Nat.le_of_ble_eq_true rfl, Nat.le_of_ble_eq_true rfl⟩ hl (Nat.le_of_ble_eq_true rfl) rfl dX5_bezout_63 ?_
            have q63_0 := eu_ltE (c ((f).toNat)) (c ((g).toNat)) (eux (c ((f).toNat)) (1 : Int)) (euy (c ((g).toNat)) (1 : Int)) (eux_lt (by first | assumption | omega)) (euy_lt (by first | assumption | omega))
            refine zo_callD C B (r := some (.int (iZ (aR (c) (z).toNat (some (eu (c ((f).toNat)) (c ((g).toNat)) (eux (c ((f).toNat)) (1 : Int)) (euy (c ((g).toNat)) (1 : Int)))))))) (c_X5_lay l D cJ o a (c) (0) ((ac)) ((re)) ((kn)) (z) (eu (c ((f).toNat)) (c ((g).toNat)) (eux (c ((f).toNat)) (1 : Int)) (euy (c ((g).toNat)) (1 : Int))) (by omega) (by exact eu33f (by assumption) (by assumption))) ml_X5_59 rfl ⟨Nat.le_of_ble_eq_true rfl, Nat.le_of_ble_eq_true rfl⟩ ⟨Nat.le_of_ble_eq_true rfl, Nat.le_of_ble_eq_true rfl⟩ hl (Nat.le_of_ble_eq_true rfl) rfl dX5_bezout_66 (fun H locs B => ?_)
            have q66_0 := aR_rng ((c)) (z).toNat (some (eu (c ((f).toNat)) (c ((g).toNat)) (eux (c ((f).toNat)) (1 : Int)) (euy (c ((g).toNat)) (1 : Int))))
            have hw : (some (if b = true then eu (c f.toNat) (c g.toNat) 1 0 else eu (c f.toNat) (c g.toNat) 0 1)) = some (eu (c ((f).toNat)) (c ((g).toNat)) (eux (c ((f).toNat)) (1 : Int)) (euy (c ((g).toNat)) (1 : Int))) := by rw [if_pos h55]; rfl
            exact zo_iret C B hr hk (Nat.le_of_ble_eq_true rfl) (Nat.le_of_ble_eq_true rfl) dX5_bezout_69 (by show some _ = some _; rw [hw] <;> rfl) (by rw [hw] <;> rfl) (by rw [hw] <;> rfl)
        · exact absurd h32 (by decide)
      · exact absurd (of_decide_eq_true h20) (by omega)

set_option maxHeartbeats 4000000 in
set_option maxRecDepth 100000 in
theorem c_X5_derive (l : Launch) (D : va_G) (cJ : ClassId) (o a : Nat) (c : Nat → Nat) (th : Int) (ac : Int32) (re : Int32) (kn : Int32) (f : Int) (z : Int) (hf : 0 ≤ f ∧ f ≤ 5) (hz : 0 ≤ z ∧ z ≤ 5) : zA l yX5_derive 2 68 0 0 D 4 cJ o a [.int (iZ (f)), .int (iZ (z))] c [.int (iZ (th)), .int (ac), .int (re), .int (kn)] (fun v => v = some (.int (iZ (aR c (z.toNat) (some (mdF (c f.toNat) 16)))))) (aC c (z.toNat) (some (mdF (c f.toNat) 16))) [.int (iZ (0)), .int (aA ac (some (mdF (c f.toNat) 16))), .int (aF re (some (mdF (c f.toNat) 16))), .int (kn)] := by
  refine zA.intro (lo := 46) (nA := 2) (own := RX5) zi_X5_derive (by decide) rfl rfl (by decide +kernel) rfl (Nat.le_of_ble_eq_true rfl) ?_
  intro p e s m below meth c0 ls C hr hk B hl
  have hl : lv_has ls 3 [(0, .ref o), (1, .int (iZ (f))), (2, .int (iZ (z)))] := hl
  refine lv_aload_n C.1 C.2.1 dX5_derive_0 rfl (lv_at hl 0 rfl) ?_
  refine lv_iload_n C.1 C.2.1 dX5_derive_1 rfl (lv_at hl 1 rfl) ?_
  refine z_call C (c_X5_isNo l (f) (by first | assumption | omega | rfl | exact decide_eq_false (by omega) | exact decide_eq_true (by assumption) | exact decide_eq_true (by omega) | exact one_shl33 (by omega) | exact pm_lt _ _ | exact rm_lt (by first | assumption | exact pm_lt _ _) | exact Nat.lt_of_le_of_lt (Nat.shiftRight_le _ _) (by assumption) | exact Nat.lt_of_le_of_lt Nat.and_le_right (by omega))) ml_X5_67 ⟨by decide, by decide⟩ ⟨Nat.le_of_ble_eq_true rfl, Nat.le_of_ble_eq_true rfl⟩ hl (Nat.le_of_ble_eq_true rfl) rfl dX5_derive_2 ?_
  refine z_ifB_ne (tgt := 15) C dX5_derive_5 (by decide) (fun h5 => ?_) (fun h5 => ?_)
  · exact absurd (of_decide_eq_true h5) (by omega)
  · refine lv_iload_n C.1 C.2.1 dX5_derive_8 rfl (lv_at hl 2 rfl) ?_
    refine z_call C (c_X5_isNo l (z) (by first | assumption | omega | rfl | exact decide_eq_false (by omega) | exact decide_eq_true (by assumption) | exact decide_eq_true (by omega) | exact one_shl33 (by omega) | exact pm_lt _ _ | exact rm_lt (by first | assumption | exact pm_lt _ _) | exact Nat.lt_of_le_of_lt (Nat.shiftRight_le _ _) (by assumption) | exact Nat.lt_of_le_of_lt Nat.and_le_right (by omega))) ml_X5_67 ⟨by decide, by decide⟩ ⟨Nat.le_of_ble_eq_true rfl, Nat.le_of_ble_eq_true rfl⟩ hl (Nat.le_of_ble_eq_true rfl) rfl dX5_derive_9 ?_
    refine z_ifB_eq (tgt := 19) C dX5_derive_12 (by decide) (fun h12 => ?_) (fun h12 => ?_)
    · refine z_iconst C dX5_derive_19 ?_
      refine z_iconst C dX5_derive_20 ?_
      refine zo_callD C B (r := some (.int (iZ (zB (false))))) (c_X5_start_ok l D cJ o a (c) (th) (ac) (re) (kn) (false) (1 : Int) (by first | assumption | omega | rfl | exact decide_eq_false (by omega) | exact decide_eq_true (by assumption) | exact decide_eq_true (by omega) | exact one_shl33 (by omega) | exact pm_lt _ _ | exact rm_lt (by first | assumption | exact pm_lt _ _) | exact Nat.lt_of_le_of_lt (Nat.shiftRight_le _ _) (by assumption) | exact Nat.lt_of_le_of_lt Nat.and_le_right (by omega))) ml_X5_71 rfl ⟨Nat.le_of_ble_eq_true rfl, Nat.le_of_ble_eq_true rfl⟩ ⟨Nat.le_of_ble_eq_true rfl, Nat.le_of_ble_eq_true rfl⟩ hl (Nat.le_of_ble_eq_true rfl) rfl dX5_derive_21 (fun H locs B => ?_)
      refine z_ifB_eq (tgt := 31) C dX5_derive_24 (by decide) (fun h24 => ?_) (fun h24 => ?_)
      · refine lv_aload_n C.1 C.2.1 dX5_derive_31 rfl (lv_at hl 0 rfl) ?_
        refine lv_iload_n C.1 C.2.1 dX5_derive_32 rfl (lv_at hl 2 rfl) ?_
        refine lv_aload_n C.1 C.2.1 dX5_derive_33 rfl (lv_at hl 0 rfl) ?_
        refine zo_get C B (Cn := RX5) (T := TX5) (N := 5) (v := .ref a) rfl inX5 0 (by decide) fl_X5_7 rfl rfl dX5_derive_34 ?_
        refine lv_iload_n C.1 C.2.1 dX5_derive_37 rfl (lv_at hl 1 rfl) ?_
        refine zo_lald C B ((f).toNat) (by omega) (by omega) dX5_derive_38 ?_
        have q38 := B.1.2.2.2 ((f).toNat)
        refine z_call C (c_X5_derived l (c ((f).toNat)) (by first | assumption | omega | rfl | exact decide_eq_false (by omega) | exact decide_eq_true (by assumption) | exact decide_eq_true (by omega) | exact one_shl33 (by omega) | exact pm_lt _ _ | exact rm_lt (by first | assumption | exact pm_lt _ _) | exact Nat.lt_of_le_of_lt (Nat.shiftRight_le _ _) (by assumption) | exact Nat.lt_of_le_of_lt Nat.and_le_right (by omega))) ml_X5_98 ⟨by decide, by decide⟩ ⟨Nat.le_of_ble_eq_true rfl, Nat.le_of_ble_eq_true rfl⟩ hl (Nat.le_of_ble_eq_true rfl) rfl dX5_derive_39 ?_
        have q39_0 := mdF_lt (c ((f).toNat))
        refine zo_callD C B (r := some (.int (iZ (aR (c) (z).toNat (some (mdF (c ((f).toNat)) 16)))))) (c_X5_lay l D cJ o a (c) (0) ((ac)) ((re)) ((kn)) (z) (mdF (c ((f).toNat)) 16) (by omega) (by exact mdF33 _)) ml_X5_59 rfl ⟨Nat.le_of_ble_eq_true rfl, Nat.le_of_ble_eq_true rfl⟩ ⟨Nat.le_of_ble_eq_true rfl, Nat.le_of_ble_eq_true rfl⟩ hl (Nat.le_of_ble_eq_true rfl) rfl dX5_derive_42 (fun H locs B => ?_)
        have q42_0 := aR_rng ((c)) (z).toNat (some (mdF (c ((f).toNat)) 16))
        have hw : (some (mdF (c f.toNat) 16)) = some (mdF (c ((f).toNat)) 16) := by rfl
        exact zo_iret C B hr hk (Nat.le_of_ble_eq_true rfl) (Nat.le_of_ble_eq_true rfl) dX5_derive_45 (by show some _ = some _; rw [hw] <;> rfl) (by rw [hw] <;> rfl) (by rw [hw] <;> rfl)
      · exact absurd h24 (by decide)
    · exact absurd (of_decide_eq_true h12) (by omega)

set_option maxHeartbeats 4000000 in
set_option maxRecDepth 100000 in
theorem c_X5_root (l : Launch) (D : va_G) (cJ : ClassId) (o a : Nat) (c : Nat → Nat) (th : Int) (ac : Int32) (re : Int32) (kn : Int32) (f : Int) (z : Int) (hf : 0 ≤ f ∧ f ≤ 5) (hz : 0 ≤ z ∧ z ≤ 5) : zA l yX5_root 3 90 0 0 D 4 cJ o a [.int (iZ (f)), .int (iZ (z))] c [.int (iZ (th)), .int (ac), .int (re), .int (kn)] (fun v => v = some (.int (iZ (aR c (z.toNat) (wEm (c f.toNat)))))) (aC c (z.toNat) (wEm (c f.toNat))) [.int (iZ (0)), .int (aA ac (wEm (c f.toNat))), .int (aF re (wEm (c f.toNat))), .int (kn)] := by
  refine zA.intro (lo := 68) (nA := 2) (own := RX5) zi_X5_root (by decide) rfl rfl (by decide +kernel) rfl (Nat.le_of_ble_eq_true rfl) ?_
  intro p e s m below meth c0 ls C hr hk B hl
  have hl : lv_has ls 3 [(0, .ref o), (1, .int (iZ (f))), (2, .int (iZ (z)))] := hl
  refine lv_aload_n C.1 C.2.1 dX5_root_0 rfl (lv_at hl 0 rfl) ?_
  refine lv_iload_n C.1 C.2.1 dX5_root_1 rfl (lv_at hl 1 rfl) ?_
  refine z_call C (c_X5_isNo l (f) (by first | assumption | omega | rfl | exact decide_eq_false (by omega) | exact decide_eq_true (by assumption) | exact decide_eq_true (by omega) | exact one_shl33 (by omega) | exact pm_lt _ _ | exact rm_lt (by first | assumption | exact pm_lt _ _) | exact Nat.lt_of_le_of_lt (Nat.shiftRight_le _ _) (by assumption) | exact Nat.lt_of_le_of_lt Nat.and_le_right (by omega))) ml_X5_67 ⟨by decide, by decide⟩ ⟨Nat.le_of_ble_eq_true rfl, Nat.le_of_ble_eq_true rfl⟩ hl (Nat.le_of_ble_eq_true rfl) rfl dX5_root_2 ?_
  refine z_ifB_ne (tgt := 15) C dX5_root_5 (by decide) (fun h5 => ?_) (fun h5 => ?_)
  · exact absurd (of_decide_eq_true h5) (by omega)
  · refine lv_iload_n C.1 C.2.1 dX5_root_8 rfl (lv_at hl 2 rfl) ?_
    refine z_call C (c_X5_isNo l (z) (by first | assumption | omega | rfl | exact decide_eq_false (by omega) | exact decide_eq_true (by assumption) | exact decide_eq_true (by omega) | exact one_shl33 (by omega) | exact pm_lt _ _ | exact rm_lt (by first | assumption | exact pm_lt _ _) | exact Nat.lt_of_le_of_lt (Nat.shiftRight_le _ _) (by assumption) | exact Nat.lt_of_le_of_lt Nat.and_le_right (by omega))) ml_X5_67 ⟨by decide, by decide⟩ ⟨Nat.le_of_ble_eq_true rfl, Nat.le_of_ble_eq_true rfl⟩ hl (Nat.le_of_ble_eq_true rfl) rfl dX5_root_9 ?_
    refine z_ifB_eq (tgt := 19) C dX5_root_12 (by decide) (fun h12 => ?_) (fun h12 => ?_)
    · refine z_iconst C dX5_root_19 ?_
      refine z_iconst C dX5_root_20 ?_
      refine zo_callD C B (r := some (.int (iZ (zB (false))))) (c_X5_start_ok l D cJ o a (c) (th) (ac) (re) (kn) (false) (1 : Int) (by first | assumption | omega | rfl | exact decide_eq_false (by omega) | exact decide_eq_true (by assumption) | exact decide_eq_true (by omega) | exact one_shl33 (by omega) | exact pm_lt _ _ | exact rm_lt (by first | assumption | exact pm_lt _ _) | exact Nat.lt_of_le_of_lt (Nat.shiftRight_le _ _) (by assumption) | exact Nat.lt_of_le_of_lt Nat.and_le_right (by omega))) ml_X5_71 rfl ⟨Nat.le_of_ble_eq_true rfl, Nat.le_of_ble_eq_true rfl⟩ ⟨Nat.le_of_ble_eq_true rfl, Nat.le_of_ble_eq_true rfl⟩ hl (Nat.le_of_ble_eq_true rfl) rfl dX5_root_21 (fun H locs B => ?_)
      refine z_ifB_eq (tgt := 31) C dX5_root_24 (by decide) (fun h24 => ?_) (fun h24 => ?_)
      · refine lv_aload_n C.1 C.2.1 dX5_root_31 rfl (lv_at hl 0 rfl) ?_
        refine lv_aload_n C.1 C.2.1 dX5_root_32 rfl (lv_at hl 0 rfl) ?_
        refine zo_get C B (Cn := RX5) (T := TX5) (N := 5) (v := .ref a) rfl inX5 0 (by decide) fl_X5_7 rfl rfl dX5_root_33 ?_
        refine lv_iload_n C.1 C.2.1 dX5_root_36 rfl (lv_at hl 1 rfl) ?_
        refine zo_lald C B ((f).toNat) (by omega) (by omega) dX5_root_37 ?_
        have q37 := B.1.2.2.2 ((f).toNat)
        refine z_call C (c_X5_derived l (c ((f).toNat)) (by first | assumption | omega | rfl | exact decide_eq_false (by omega) | exact decide_eq_true (by assumption) | exact decide_eq_true (by omega) | exact one_shl33 (by omega) | exact pm_lt _ _ | exact rm_lt (by first | assumption | exact pm_lt _ _) | exact Nat.lt_of_le_of_lt (Nat.shiftRight_le _ _) (by assumption) | exact Nat.lt_of_le_of_lt Nat.and_le_right (by omega))) ml_X5_98 ⟨by decide, by decide⟩ ⟨Nat.le_of_ble_eq_true rfl, Nat.le_of_ble_eq_true rfl⟩ hl (Nat.le_of_ble_eq_true rfl) rfl dX5_root_38 ?_
        have q38_0 := mdF_lt (c ((f).toNat))
        refine z_lconst (k0 := 0) C dX5_root_41 rfl ?_
        refine z_lc_ne (tgt := 50) C (by exact mdF_lt _) (by omega) dX5_root_42 dX5_root_43 (by decide) (fun h42 => ?_) (fun h42 => ?_)
        · refine z_iconst C dX5_root_50 ?_
          refine lv_iload_n C.1 C.2.1 dX5_root_51 rfl (lv_at hl 2 rfl) ?_
          refine lv_aload_n C.1 C.2.1 dX5_root_52 rfl (lv_at hl 0 rfl) ?_
          refine zo_get C B (Cn := RX5) (T := TX5) (N := 5) (v := .ref a) rfl inX5 0 (by decide) fl_X5_7 rfl rfl dX5_root_53 ?_
          refine lv_iload_n C.1 C.2.1 dX5_root_56 rfl (lv_at hl 1 rfl) ?_
          refine zo_lald C B ((f).toNat) (by omega) (by omega) dX5_root_57 ?_
          have q57 := B.1.2.2.2 ((f).toNat)
          refine z_call C (c_X5_half l (c ((f).toNat)) (by first | assumption | omega | rfl | exact decide_eq_false (by omega) | exact decide_eq_true (by assumption) | exact decide_eq_true (by omega) | exact one_shl33 (by omega) | exact pm_lt _ _ | exact rm_lt (by first | assumption | exact pm_lt _ _) | exact Nat.lt_of_le_of_lt (Nat.shiftRight_le _ _) (by assumption) | exact Nat.lt_of_le_of_lt Nat.and_le_right (by omega))) ml_X5_102 ⟨by decide, by decide⟩ ⟨Nat.le_of_ble_eq_true rfl, Nat.le_of_ble_eq_true rfl⟩ hl (Nat.le_of_ble_eq_true rfl) rfl dX5_root_58 ?_
          have q58_0 := ehF17_lt (c ((f).toNat))
          refine zo_callD C B (r := some (.int (iZ (aR (c) ((z).toNat) (if (false) = true then some (ehF (c ((f).toNat)) 17) else none))))) (c_X5_layIf l D cJ o a (c) (0) ((ac)) ((re)) ((kn)) (false) (z) (ehF (c ((f).toNat)) 17) (by omega) (by exact fun h => absurd h (by decide))) ml_X5_86 rfl ⟨Nat.le_of_ble_eq_true rfl, Nat.le_of_ble_eq_true rfl⟩ ⟨Nat.le_of_ble_eq_true rfl, Nat.le_of_ble_eq_true rfl⟩ hl (Nat.le_of_ble_eq_true rfl) rfl dX5_root_61 (fun H locs B => ?_)
          have q61_0 := aR_rng ((c)) ((z).toNat) (if (false) = true then some (ehF (c ((f).toNat)) 17) else none)
          have hw : (wEm (c f.toNat)) = if (false) = true then some (ehF (c ((f).toNat)) 17) else none := by exact if_neg h42
          exact zo_iret C B hr hk (Nat.le_of_ble_eq_true rfl) (Nat.le_of_ble_eq_true rfl) dX5_root_64 (by show some _ = some _; rw [hw] <;> rfl) (by rw [hw] <;> rfl) (by rw [hw] <;> rfl)
        · refine z_iconst C dX5_root_46 ?_
          refine lv_goto (tgt := 51) C.1 C.2.1 dX5_root_47 (by decide) ?_
          refine lv_iload_n C.1 C.2.1 dX5_root_51 rfl (lv_at hl 2 rfl) ?_
          refine lv_aload_n C.1 C.2.1 dX5_root_52 rfl (lv_at hl 0 rfl) ?_
          refine zo_get C B (Cn := RX5) (T := TX5) (N := 5) (v := .ref a) rfl inX5 0 (by decide) fl_X5_7 rfl rfl dX5_root_53 ?_
          refine lv_iload_n C.1 C.2.1 dX5_root_56 rfl (lv_at hl 1 rfl) ?_
          refine zo_lald C B ((f).toNat) (by omega) (by omega) dX5_root_57 ?_
          have q57 := B.1.2.2.2 ((f).toNat)
          refine z_call C (c_X5_half l (c ((f).toNat)) (by first | assumption | omega | rfl | exact decide_eq_false (by omega) | exact decide_eq_true (by assumption) | exact decide_eq_true (by omega) | exact one_shl33 (by omega) | exact pm_lt _ _ | exact rm_lt (by first | assumption | exact pm_lt _ _) | exact Nat.lt_of_le_of_lt (Nat.shiftRight_le _ _) (by assumption) | exact Nat.lt_of_le_of_lt Nat.and_le_right (by omega))) ml_X5_102 ⟨by decide, by decide⟩ ⟨Nat.le_of_ble_eq_true rfl, Nat.le_of_ble_eq_true rfl⟩ hl (Nat.le_of_ble_eq_true rfl) rfl dX5_root_58 ?_
          have q58_0 := ehF17_lt (c ((f).toNat))
          refine zo_callD C B (r := some (.int (iZ (aR (c) ((z).toNat) (if (true) = true then some (ehF (c ((f).toNat)) 17) else none))))) (c_X5_layIf l D cJ o a (c) (0) ((ac)) ((re)) ((kn)) (true) (z) (ehF (c ((f).toNat)) 17) (by omega) (by exact fun _ => ehF33 _)) ml_X5_86 rfl ⟨Nat.le_of_ble_eq_true rfl, Nat.le_of_ble_eq_true rfl⟩ ⟨Nat.le_of_ble_eq_true rfl, Nat.le_of_ble_eq_true rfl⟩ hl (Nat.le_of_ble_eq_true rfl) rfl dX5_root_61 (fun H locs B => ?_)
          have q61_0 := aR_rng ((c)) ((z).toNat) (if (true) = true then some (ehF (c ((f).toNat)) 17) else none)
          have hw : (wEm (c f.toNat)) = if (true) = true then some (ehF (c ((f).toNat)) 17) else none := by exact if_pos h42
          exact zo_iret C B hr hk (Nat.le_of_ble_eq_true rfl) (Nat.le_of_ble_eq_true rfl) dX5_root_64 (by show some _ = some _; rw [hw] <;> rfl) (by rw [hw] <;> rfl) (by rw [hw] <;> rfl)
      · exact absurd h24 (by decide)
    · exact absurd (of_decide_eq_true h12) (by omega)

set_option maxHeartbeats 4000000 in
set_option maxRecDepth 100000 in
theorem c_X5_turn (l : Launch) (D : va_G) (cJ : ClassId) (o a : Nat) (c : Nat → Nat) (th : Int) (ac : Int32) (re : Int32) (kn : Int32) (f : Int) (z : Int) (hf : 0 ≤ f ∧ f ≤ 5) (hz : 0 ≤ z ∧ z ≤ 5) : zA l yX5_turn 2 70 0 0 D 4 cJ o a [.int (iZ (f)), .int (iZ (z))] c [.int (iZ (th)), .int (ac), .int (re), .int (kn)] (fun v => v = some (.int (iZ (aR c (z.toNat) (some (tm (c f.toNat))))))) (aC c (z.toNat) (some (tm (c f.toNat)))) [.int (iZ (0)), .int (aA ac (some (tm (c f.toNat)))), .int (aF re (some (tm (c f.toNat)))), .int (kn)] := by
  refine zA.intro (lo := 44) (nA := 2) (own := RX5) zi_X5_turn (by decide) rfl rfl (by decide +kernel) rfl (Nat.le_of_ble_eq_true rfl) ?_
  intro p e s m below meth c0 ls C hr hk B hl
  have hl : lv_has ls 7 [(0, .ref o), (1, .int (iZ (f))), (2, .int (iZ (z)))] := hl
  refine lv_aload_n C.1 C.2.1 dX5_turn_0 rfl (lv_at hl 0 rfl) ?_
  refine lv_iload_n C.1 C.2.1 dX5_turn_1 rfl (lv_at hl 1 rfl) ?_
  refine z_call C (c_X5_isNo l (f) (by first | assumption | omega | rfl | exact decide_eq_false (by omega) | exact decide_eq_true (by assumption) | exact decide_eq_true (by omega) | exact one_shl33 (by omega) | exact pm_lt _ _ | exact rm_lt (by first | assumption | exact pm_lt _ _) | exact Nat.lt_of_le_of_lt (Nat.shiftRight_le _ _) (by assumption) | exact Nat.lt_of_le_of_lt Nat.and_le_right (by omega))) ml_X5_67 ⟨by decide, by decide⟩ ⟨Nat.le_of_ble_eq_true rfl, Nat.le_of_ble_eq_true rfl⟩ hl (Nat.le_of_ble_eq_true rfl) rfl dX5_turn_2 ?_
  refine z_ifB_ne (tgt := 15) C dX5_turn_5 (by decide) (fun h5 => ?_) (fun h5 => ?_)
  · exact absurd (of_decide_eq_true h5) (by omega)
  · refine lv_iload_n C.1 C.2.1 dX5_turn_8 rfl (lv_at hl 2 rfl) ?_
    refine z_call C (c_X5_isNo l (z) (by first | assumption | omega | rfl | exact decide_eq_false (by omega) | exact decide_eq_true (by assumption) | exact decide_eq_true (by omega) | exact one_shl33 (by omega) | exact pm_lt _ _ | exact rm_lt (by first | assumption | exact pm_lt _ _) | exact Nat.lt_of_le_of_lt (Nat.shiftRight_le _ _) (by assumption) | exact Nat.lt_of_le_of_lt Nat.and_le_right (by omega))) ml_X5_67 ⟨by decide, by decide⟩ ⟨Nat.le_of_ble_eq_true rfl, Nat.le_of_ble_eq_true rfl⟩ hl (Nat.le_of_ble_eq_true rfl) rfl dX5_turn_9 ?_
    refine z_ifB_eq (tgt := 19) C dX5_turn_12 (by decide) (fun h12 => ?_) (fun h12 => ?_)
    · refine z_iconst C dX5_turn_19 ?_
      refine z_iconst C dX5_turn_20 ?_
      refine zo_callD C B (r := some (.int (iZ (zB (false))))) (c_X5_start_ok l D cJ o a (c) (th) (ac) (re) (kn) (false) (1 : Int) (by first | assumption | omega | rfl | exact decide_eq_false (by omega) | exact decide_eq_true (by assumption) | exact decide_eq_true (by omega) | exact one_shl33 (by omega) | exact pm_lt _ _ | exact rm_lt (by first | assumption | exact pm_lt _ _) | exact Nat.lt_of_le_of_lt (Nat.shiftRight_le _ _) (by assumption) | exact Nat.lt_of_le_of_lt Nat.and_le_right (by omega))) ml_X5_71 rfl ⟨Nat.le_of_ble_eq_true rfl, Nat.le_of_ble_eq_true rfl⟩ ⟨Nat.le_of_ble_eq_true rfl, Nat.le_of_ble_eq_true rfl⟩ hl (Nat.le_of_ble_eq_true rfl) rfl dX5_turn_21 (fun H locs B => ?_)
      refine z_ifB_eq (tgt := 29) C dX5_turn_24 (by decide) (fun h24 => ?_) (fun h24 => ?_)
      · refine z_lconst (k0 := 0) C dX5_turn_29 rfl ?_
        refine lv_lstore_n (lv' := [(3, .long (lN (0))), (0, .ref o), (1, .int (iZ (f))), (2, .int (iZ (z)))]) C.1 C.2.1 dX5_turn_30 rfl hl (by decide) rfl (fun ls hl => ?_)
        refine lv_aload_n C.1 C.2.1 dX5_turn_31 rfl (lv_at hl 1 rfl) ?_
        refine zo_get C B (Cn := RX5) (T := TX5) (N := 5) (v := .ref a) rfl inX5 0 (by decide) fl_X5_7 rfl rfl dX5_turn_32 ?_
        refine lv_iload_n C.1 C.2.1 dX5_turn_35 rfl (lv_at hl 2 rfl) ?_
        refine zo_lald C B ((f).toNat) (by omega) (by omega) dX5_turn_36 ?_
        have q36 := B.1.2.2.2 ((f).toNat)
        refine lv_lstore (lv' := [(5, .long (lN (c ((f).toNat)))), (3, .long (lN (0))), (0, .ref o), (1, .int (iZ (f))), (2, .int (iZ (z)))]) C.1 C.2.1 dX5_turn_37 hl (by decide) rfl (fun ls hl => ?_)
        have L39 : ∀ (j : Nat) (k : Nat) (x3 : Nat) (x5 : Nat) (ls : Array Slot), 65 - k < j → (x5 = c f.toNat >>> k) → (x3 = tmF (c f.toNat) k) → ((k : Int) ≤ tp (c f.toNat) + 1) → lv_has ls 7 [(0, .ref o), (1, .int (iZ (f))), (2, .int (iZ (z))), (3, .long (lN (x3))), (5, .long (lN (x5)))] → W p l e { frames := 2, cells := 0, slots := 0, locals := 44 } s m (Value.ref o :: ([.int (iZ (f)), .int (iZ (z))] : List Value)).toArray below meth c0 H locs (0 + 0) (0 + 0) (zE1 below D 4 cJ o a (Value.ref o :: ([.int (iZ (f)), .int (iZ (z))] : List Value)).toArray s 0 0 (fun v => v = some (.int (iZ (aR c (z.toNat) (some (tm (c f.toNat))))))) (aC c (z.toNat) (some (tm (c f.toNat)))) [.int (iZ (0)), .int (aA ac (some (tm (c f.toNat)))), .int (aF re (some (tm (c f.toNat)))), .int (kn)]) (F0 m 39 ls []) := by
          intro j
          induction j with
          | zero => intro k x3 x5 ls hmu; exact absurd hmu (Nat.not_lt_zero _)
          | succ j ih39 =>
            intro k x3 x5 ls hmu i39_0 i39_1 i39_2 hl
            have g0 := B.1.2.2.2 f.toNat
            have hr9 := tp33.mp g0
            have hx5 : x5 < 8589934592 := by rw [i39_0]; exact shr33 g0
            refine lv_lload C.1 C.2.1 dX5_turn_39 (lv_at hl 4 rfl) ?_
            refine z_lconst (k0 := 0) C dX5_turn_41 rfl ?_
            refine z_lc_eq (tgt := 64) C (by first | assumption | omega | rfl | exact decide_eq_false (by omega) | exact decide_eq_true (by assumption) | exact decide_eq_true (by omega) | exact one_shl33 (by omega) | exact pm_lt _ _ | exact rm_lt (by first | assumption | exact pm_lt _ _) | exact Nat.lt_of_le_of_lt (Nat.shiftRight_le _ _) (by assumption) | exact Nat.lt_of_le_of_lt Nat.and_le_right (by omega)) (by first | assumption | omega | rfl | exact decide_eq_false (by omega) | exact decide_eq_true (by assumption) | exact decide_eq_true (by omega) | exact one_shl33 (by omega) | exact pm_lt _ _ | exact rm_lt (by first | assumption | exact pm_lt _ _) | exact Nat.lt_of_le_of_lt (Nat.shiftRight_le _ _) (by assumption) | exact Nat.lt_of_le_of_lt Nat.and_le_right (by omega)) dX5_turn_42 dX5_turn_43 (by decide) (fun h42 => ?_) (fun h42 => ?_)
            · refine lv_aload_n C.1 C.2.1 dX5_turn_64 rfl (lv_at hl 0 rfl) ?_
              refine lv_iload_n C.1 C.2.1 dX5_turn_65 rfl (lv_at hl 2 rfl) ?_
              refine lv_lload_n C.1 C.2.1 dX5_turn_66 rfl (lv_at hl 3 rfl) ?_
              refine zo_callD C B (r := some (.int (iZ (aR (c) (z).toNat (some (x3)))))) (c_X5_lay l D cJ o a (c) (0) ((ac)) ((re)) ((kn)) (z) (x3) (by omega) (by rw [i39_0] at h42; have := tp_shr.mp h42; rw [i39_1, show k = (tp (c f.toNat) + 1).toNat by omega]; exact tm33 g0)) ml_X5_59 rfl ⟨Nat.le_of_ble_eq_true rfl, Nat.le_of_ble_eq_true rfl⟩ ⟨Nat.le_of_ble_eq_true rfl, Nat.le_of_ble_eq_true rfl⟩ hl (Nat.le_of_ble_eq_true rfl) rfl dX5_turn_67 (fun H locs B => ?_)
              have q67_0 := aR_rng ((c)) (z).toNat (some (x3))
              have hw : (some (tm (c f.toNat))) = some (x3) := by rw [i39_0] at h42; have := tp_shr.mp h42; rw [i39_1, show k = (tp (c f.toNat) + 1).toNat by omega]; rfl
              exact zo_iret C B hr hk (Nat.le_of_ble_eq_true rfl) (Nat.le_of_ble_eq_true rfl) dX5_turn_70 (by show some _ = some _; rw [hw] <;> rfl) (by rw [hw] <;> rfl) (by rw [hw] <;> rfl)
            · refine lv_lload_n C.1 C.2.1 dX5_turn_46 rfl (lv_at hl 3 rfl) ?_
              refine z_iconst C dX5_turn_47 ?_
              refine z_lshl C (1) (by omega) (by omega) dX5_turn_48 ?_
              refine lv_lload C.1 C.2.1 dX5_turn_49 (lv_at hl 4 rfl) ?_
              refine z_lconst (k0 := 1) C dX5_turn_51 rfl ?_
              refine z_land C dX5_turn_52 ?_
              refine z_lor C dX5_turn_53 ?_
              refine lv_lstore_n (lv' := [(3, .long (lN (((x3) <<< (1)) ||| ((x5) &&& (1))))), (0, .ref o), (1, .int (iZ (f))), (2, .int (iZ (z))), (5, .long (lN (x5)))]) C.1 C.2.1 dX5_turn_54 rfl hl (by decide) rfl (fun ls hl => ?_)
              refine lv_lload C.1 C.2.1 dX5_turn_55 (lv_at hl 4 rfl) ?_
              refine z_iconst C dX5_turn_57 ?_
              refine z_lushr C (1) (by first | assumption | omega | rfl | exact decide_eq_false (by omega) | exact decide_eq_true (by assumption) | exact decide_eq_true (by omega) | exact one_shl33 (by omega) | exact pm_lt _ _ | exact rm_lt (by first | assumption | exact pm_lt _ _) | exact Nat.lt_of_le_of_lt (Nat.shiftRight_le _ _) (by assumption) | exact Nat.lt_of_le_of_lt Nat.and_le_right (by omega)) (by omega) (by omega) dX5_turn_58 ?_
              refine lv_lstore (lv' := [(5, .long (lN ((x5) >>> (1)))), (3, .long (lN (((x3) <<< (1)) ||| ((x5) &&& (1))))), (0, .ref o), (1, .int (iZ (f))), (2, .int (iZ (z)))]) C.1 C.2.1 dX5_turn_59 hl (by decide) rfl (fun ls hl => ?_)
              refine lv_goto (tgt := 39) C.1 C.2.1 dX5_turn_61 (by decide) ?_
              rw [i39_0] at h42
              have := mt tp_shr.mpr h42
              exact ih39 (k + 1) _ _ _ (by omega) (by rw [i39_0, Nat.shiftRight_add]) (by rw [tmF, i39_1, i39_0]) (by omega) (lv_sub hl [2, 3, 4, 1, 0] rfl)
        have hr9 := tp_ge (c f.toNat)
        exact L39 _ (0) _ _ _ (by exact Nat.lt_succ_self _) (by rfl) (by rfl) (by omega) (lv_sub hl [2, 3, 4, 1, 0] rfl)
      · exact absurd h24 (by decide)
    · exact absurd (of_decide_eq_true h12) (by omega)

set_option maxHeartbeats 4000000 in
set_option maxRecDepth 100000 in
theorem c_X5_move (l : Launch) (D : va_G) (cJ : ClassId) (o a : Nat) (c : Nat → Nat) (th : Int) (ac : Int32) (re : Int32) (kn : Int32) (f : Int) (z : Int) (hf : 0 ≤ f ∧ f ≤ 5) (hz : 0 ≤ z ∧ z ≤ 5) : zA l yX5_move 2 69 0 0 D 4 cJ o a [.int (iZ (f)), .int (iZ (z))] c [.int (iZ (th)), .int (ac), .int (re), .int (kn)] (fun v => v = some (.int (iZ (aR c (z.toNat) (some (mm (c f.toNat))))))) (aC c (z.toNat) (some (mm (c f.toNat)))) [.int (iZ (0)), .int (aA ac (some (mm (c f.toNat)))), .int (aF re (some (mm (c f.toNat)))), .int (kn)] := by
  refine zA.intro (lo := 44) (nA := 2) (own := RX5) zi_X5_move (by decide) rfl rfl (by decide +kernel) rfl (Nat.le_of_ble_eq_true rfl) ?_
  intro p e s m below meth c0 ls C hr hk B hl
  have hl : lv_has ls 6 [(0, .ref o), (1, .int (iZ (f))), (2, .int (iZ (z)))] := hl
  refine lv_aload_n C.1 C.2.1 dX5_move_0 rfl (lv_at hl 0 rfl) ?_
  refine lv_iload_n C.1 C.2.1 dX5_move_1 rfl (lv_at hl 1 rfl) ?_
  refine z_call C (c_X5_isNo l (f) (by first | assumption | omega | rfl | exact decide_eq_false (by omega) | exact decide_eq_true (by assumption) | exact decide_eq_true (by omega) | exact one_shl33 (by omega) | exact pm_lt _ _ | exact rm_lt (by first | assumption | exact pm_lt _ _) | exact Nat.lt_of_le_of_lt (Nat.shiftRight_le _ _) (by assumption) | exact Nat.lt_of_le_of_lt Nat.and_le_right (by omega))) ml_X5_67 ⟨by decide, by decide⟩ ⟨Nat.le_of_ble_eq_true rfl, Nat.le_of_ble_eq_true rfl⟩ hl (Nat.le_of_ble_eq_true rfl) rfl dX5_move_2 ?_
  refine z_ifB_ne (tgt := 15) C dX5_move_5 (by decide) (fun h5 => ?_) (fun h5 => ?_)
  · exact absurd (of_decide_eq_true h5) (by omega)
  · refine lv_iload_n C.1 C.2.1 dX5_move_8 rfl (lv_at hl 2 rfl) ?_
    refine z_call C (c_X5_isNo l (z) (by first | assumption | omega | rfl | exact decide_eq_false (by omega) | exact decide_eq_true (by assumption) | exact decide_eq_true (by omega) | exact one_shl33 (by omega) | exact pm_lt _ _ | exact rm_lt (by first | assumption | exact pm_lt _ _) | exact Nat.lt_of_le_of_lt (Nat.shiftRight_le _ _) (by assumption) | exact Nat.lt_of_le_of_lt Nat.and_le_right (by omega))) ml_X5_67 ⟨by decide, by decide⟩ ⟨Nat.le_of_ble_eq_true rfl, Nat.le_of_ble_eq_true rfl⟩ hl (Nat.le_of_ble_eq_true rfl) rfl dX5_move_9 ?_
    refine z_ifB_eq (tgt := 19) C dX5_move_12 (by decide) (fun h12 => ?_) (fun h12 => ?_)
    · refine z_iconst C dX5_move_19 ?_
      refine z_iconst C dX5_move_20 ?_
      refine zo_callD C B (r := some (.int (iZ (zB (false))))) (c_X5_start_ok l D cJ o a (c) (th) (ac) (re) (kn) (false) (1 : Int) (by first | assumption | omega | rfl | exact decide_eq_false (by omega) | exact decide_eq_true (by assumption) | exact decide_eq_true (by omega) | exact one_shl33 (by omega) | exact pm_lt _ _ | exact rm_lt (by first | assumption | exact pm_lt _ _) | exact Nat.lt_of_le_of_lt (Nat.shiftRight_le _ _) (by assumption) | exact Nat.lt_of_le_of_lt Nat.and_le_right (by omega))) ml_X5_71 rfl ⟨Nat.le_of_ble_eq_true rfl, Nat.le_of_ble_eq_true rfl⟩ ⟨Nat.le_of_ble_eq_true rfl, Nat.le_of_ble_eq_true rfl⟩ hl (Nat.le_of_ble_eq_true rfl) rfl dX5_move_21 (fun H locs B => ?_)
      refine z_ifB_eq (tgt := 29) C dX5_move_24 (by decide) (fun h24 => ?_) (fun h24 => ?_)
      · refine z_lconst (k0 := 0) C dX5_move_29 rfl ?_
        refine lv_lstore_n (lv' := [(3, .long (lN (0))), (0, .ref o), (1, .int (iZ (f))), (2, .int (iZ (z)))]) C.1 C.2.1 dX5_move_30 rfl hl (by decide) rfl (fun ls hl => ?_)
        refine z_bipush C dX5_move_31 (by decide) ?_
        refine lv_istore (lv' := [(5, .int (iZ (32))), (3, .long (lN (0))), (0, .ref o), (1, .int (iZ (f))), (2, .int (iZ (z)))]) C.1 C.2.1 dX5_move_33 hl (by decide) rfl (fun ls hl => ?_)
        have L35 : ∀ (j : Nat) (j0 : Nat) (x3 : Nat) (x5 : Int) (ls : Array Slot), j0 < j → (x5 + 1 = (j0 : Int)) → (j0 ≤ 33) → (mmF (c f.toNat) j0 x3 = mm (c f.toNat)) → lv_has ls 6 [(0, .ref o), (1, .int (iZ (f))), (2, .int (iZ (z))), (3, .long (lN (x3))), (5, .int (iZ (x5)))] → W p l e { frames := 2, cells := 0, slots := 0, locals := 44 } s m (Value.ref o :: ([.int (iZ (f)), .int (iZ (z))] : List Value)).toArray below meth c0 H locs (0 + 0) (0 + 0) (zE1 below D 4 cJ o a (Value.ref o :: ([.int (iZ (f)), .int (iZ (z))] : List Value)).toArray s 0 0 (fun v => v = some (.int (iZ (aR c (z.toNat) (some (mm (c f.toNat))))))) (aC c (z.toNat) (some (mm (c f.toNat)))) [.int (iZ (0)), .int (aA ac (some (mm (c f.toNat)))), .int (aF re (some (mm (c f.toNat)))), .int (kn)]) (F0 m 35 ls []) := by
          intro j
          induction j with
          | zero => intro j0 x3 x5 ls hmu; exact absurd hmu (Nat.not_lt_zero _)
          | succ j ih35 =>
            intro j0 x3 x5 ls hmu i35_0 i35_1 i35_2 hl
            refine lv_iload C.1 C.2.1 dX5_move_35 (lv_at hl 4 rfl) ?_
            refine z_if_lt (tgt := 64) C (by omega) dX5_move_37 (by decide) (fun h37 => ?_) (fun h37 => ?_)
            · refine lv_aload_n C.1 C.2.1 dX5_move_64 rfl (lv_at hl 0 rfl) ?_
              refine lv_iload_n C.1 C.2.1 dX5_move_65 rfl (lv_at hl 2 rfl) ?_
              refine lv_lload_n C.1 C.2.1 dX5_move_66 rfl (lv_at hl 3 rfl) ?_
              refine zo_callD C B (r := some (.int (iZ (aR (c) (z).toNat (some (x3)))))) (c_X5_lay l D cJ o a (c) (0) ((ac)) ((re)) ((kn)) (z) (x3) (by omega) (by rw [show j0 = 0 by omega] at i35_2; have i9 : x3 = mm (c f.toNat) := i35_2; rw [i9]; exact mm33 _)) ml_X5_59 rfl ⟨Nat.le_of_ble_eq_true rfl, Nat.le_of_ble_eq_true rfl⟩ ⟨Nat.le_of_ble_eq_true rfl, Nat.le_of_ble_eq_true rfl⟩ hl (Nat.le_of_ble_eq_true rfl) rfl dX5_move_67 (fun H locs B => ?_)
              have q67_0 := aR_rng ((c)) (z).toNat (some (x3))
              have hw : (some (mm (c f.toNat))) = some (x3) := by rw [show j0 = 0 by omega] at i35_2; have i9 : x3 = mm (c f.toNat) := i35_2; rw [i9]
              exact zo_iret C B hr hk (Nat.le_of_ble_eq_true rfl) (Nat.le_of_ble_eq_true rfl) dX5_move_70 (by show some _ = some _; rw [hw] <;> rfl) (by rw [hw] <;> rfl) (by rw [hw] <;> rfl)
            · refine lv_lload_n C.1 C.2.1 dX5_move_40 rfl (lv_at hl 3 rfl) ?_
              refine lv_lload_n C.1 C.2.1 dX5_move_41 rfl (lv_at hl 3 rfl) ?_
              refine z_iconst C dX5_move_42 ?_
              refine z_lshl C (1) (by omega) (by omega) dX5_move_43 ?_
              refine z_lxor C dX5_move_44 ?_
              refine lv_aload_n C.1 C.2.1 dX5_move_45 rfl (lv_at hl 0 rfl) ?_
              refine zo_get C B (Cn := RX5) (T := TX5) (N := 5) (v := .ref a) rfl inX5 0 (by decide) fl_X5_7 rfl rfl dX5_move_46 ?_
              refine lv_iload_n C.1 C.2.1 dX5_move_49 rfl (lv_at hl 1 rfl) ?_
              refine zo_lald C B ((f).toNat) (by omega) (by omega) dX5_move_50 ?_
              have q50 := B.1.2.2.2 ((f).toNat)
              refine lv_iload C.1 C.2.1 dX5_move_51 (lv_at hl 4 rfl) ?_
              refine z_lushr C ((x5).toNat) (by first | assumption | omega | rfl | exact decide_eq_false (by omega) | exact decide_eq_true (by assumption) | exact decide_eq_true (by omega) | exact one_shl33 (by omega) | exact pm_lt _ _ | exact rm_lt (by first | assumption | exact pm_lt _ _) | exact Nat.lt_of_le_of_lt (Nat.shiftRight_le _ _) (by assumption) | exact Nat.lt_of_le_of_lt Nat.and_le_right (by omega)) (by omega) (by omega) dX5_move_53 ?_
              refine z_lconst (k0 := 1) C dX5_move_54 rfl ?_
              refine z_land C dX5_move_55 ?_
              refine z_lxor C dX5_move_56 ?_
              refine lv_lstore_n (lv' := [(3, .long (lN (((x3) ^^^ ((x3) <<< (1))) ^^^ (((c ((f).toNat)) >>> ((x5).toNat)) &&& (1))))), (0, .ref o), (1, .int (iZ (f))), (2, .int (iZ (z))), (5, .int (iZ (x5)))]) C.1 C.2.1 dX5_move_57 rfl hl (by decide) rfl (fun ls hl => ?_)
              refine z_iinc (j := 4) (lv' := [(5, .int (iZ (x5 + (-1)))), (3, .long (lN (((x3) ^^^ ((x3) <<< (1))) ^^^ (((c ((f).toNat)) >>> ((x5).toNat)) &&& (1))))), (0, .ref o), (1, .int (iZ (f))), (2, .int (iZ (z)))]) C dX5_move_58 hl rfl (by decide) rfl (fun ls hl => ?_)
              refine lv_goto (tgt := 35) C.1 C.2.1 dX5_move_61 (by decide) ?_
              obtain ⟨j1, rfl⟩ : ∃ g, j0 = g + 1 := ⟨j0 - 1, by omega⟩
              have ej : x5.toNat = j1 := by omega
              exact ih35 (j1) _ _ _ (by omega) (by omega) (by omega) (by rw [ej]; exact i35_2) (lv_sub hl [2, 3, 4, 1, 0] rfl)
        exact L35 _ (33) _ _ _ (by exact Nat.lt_succ_self _) (by rfl) (by omega) (by rfl) (lv_sub hl [2, 3, 4, 1, 0] rfl)
      · exact absurd h24 (by decide)
    · exact absurd (of_decide_eq_true h12) (by omega)

set_option maxHeartbeats 4000000 in
set_option maxRecDepth 100000 in
theorem c_X5_power (l : Launch) (D : va_G) (cJ : ClassId) (o a : Nat) (c : Nat → Nat) (th : Int) (ac : Int32) (re : Int32) (kn : Int32) (f : Int) (t : Int) (g : Int) (z : Int) (hf : 0 ≤ f ∧ f ≤ 5) (ht : 0 ≤ t ∧ t ≤ 255) (hg : 0 ≤ g ∧ g ≤ 5) (hz : 0 ≤ z ∧ z ≤ 5) : zA l yX5_power 3 105 0 0 D 4 cJ o a [.int (iZ (f)), .int (iZ (t)), .int (iZ (g)), .int (iZ (z))] c [.int (iZ (th)), .int (ac), .int (re), .int (kn)] (fun v => v = some (.int (iZ (aR c (z.toNat) (wPm (c f.toNat) (c g.toNat) t))))) (aC c (z.toNat) (wPm (c f.toNat) (c g.toNat) t)) [.int (iZ (0)), .int (aA ac (wPm (c f.toNat) (c g.toNat) t)), .int (aF re (wPm (c f.toNat) (c g.toNat) t)), .int (kn)] := by
  refine zA.intro (lo := 76) (nA := 4) (own := RX5) zi_X5_power (by decide) rfl rfl (by decide +kernel) rfl (Nat.le_of_ble_eq_true rfl) ?_
  intro p e s m below meth c0 ls C hr hk B hl
  have hl : lv_has ls 10 [(0, .ref o), (1, .int (iZ (f))), (2, .int (iZ (t))), (3, .int (iZ (g))), (4, .int (iZ (z)))] := hl
  refine lv_aload_n C.1 C.2.1 dX5_power_0 rfl (lv_at hl 0 rfl) ?_
  refine lv_iload_n C.1 C.2.1 dX5_power_1 rfl (lv_at hl 1 rfl) ?_
  refine z_call C (c_X5_isNo l (f) (by first | assumption | omega | rfl | exact decide_eq_false (by omega) | exact decide_eq_true (by assumption) | exact decide_eq_true (by omega) | exact one_shl33 (by omega) | exact pm_lt _ _ | exact rm_lt (by first | assumption | exact pm_lt _ _) | exact Nat.lt_of_le_of_lt (Nat.shiftRight_le _ _) (by assumption) | exact Nat.lt_of_le_of_lt Nat.and_le_right (by omega))) ml_X5_67 ⟨by decide, by decide⟩ ⟨Nat.le_of_ble_eq_true rfl, Nat.le_of_ble_eq_true rfl⟩ hl (Nat.le_of_ble_eq_true rfl) rfl dX5_power_2 ?_
  refine z_ifB_ne (tgt := 23) C dX5_power_5 (by decide) (fun h5 => ?_) (fun h5 => ?_)
  · exact absurd (of_decide_eq_true h5) (by omega)
  · refine lv_iload_n C.1 C.2.1 dX5_power_8 rfl (lv_at hl 3 rfl) ?_
    refine z_call C (c_X5_isNo l (g) (by first | assumption | omega | rfl | exact decide_eq_false (by omega) | exact decide_eq_true (by assumption) | exact decide_eq_true (by omega) | exact one_shl33 (by omega) | exact pm_lt _ _ | exact rm_lt (by first | assumption | exact pm_lt _ _) | exact Nat.lt_of_le_of_lt (Nat.shiftRight_le _ _) (by assumption) | exact Nat.lt_of_le_of_lt Nat.and_le_right (by omega))) ml_X5_67 ⟨by decide, by decide⟩ ⟨Nat.le_of_ble_eq_true rfl, Nat.le_of_ble_eq_true rfl⟩ hl (Nat.le_of_ble_eq_true rfl) rfl dX5_power_9 ?_
    refine z_ifB_ne (tgt := 23) C dX5_power_12 (by decide) (fun h12 => ?_) (fun h12 => ?_)
    · exact absurd (of_decide_eq_true h12) (by omega)
    · refine lv_iload C.1 C.2.1 dX5_power_15 (lv_at hl 4 rfl) ?_
      refine z_call C (c_X5_isNo l (z) (by first | assumption | omega | rfl | exact decide_eq_false (by omega) | exact decide_eq_true (by assumption) | exact decide_eq_true (by omega) | exact one_shl33 (by omega) | exact pm_lt _ _ | exact rm_lt (by first | assumption | exact pm_lt _ _) | exact Nat.lt_of_le_of_lt (Nat.shiftRight_le _ _) (by assumption) | exact Nat.lt_of_le_of_lt Nat.and_le_right (by omega))) ml_X5_67 ⟨by decide, by decide⟩ ⟨Nat.le_of_ble_eq_true rfl, Nat.le_of_ble_eq_true rfl⟩ hl (Nat.le_of_ble_eq_true rfl) rfl dX5_power_17 ?_
      refine z_ifB_eq (tgt := 27) C dX5_power_20 (by decide) (fun h20 => ?_) (fun h20 => ?_)
      · refine z_iconst C dX5_power_27 ?_
        refine z_iconst C dX5_power_28 ?_
        refine zo_callD C B (r := some (.int (iZ (zB (false))))) (c_X5_start_ok l D cJ o a (c) (th) (ac) (re) (kn) (false) (1 : Int) (by first | assumption | omega | rfl | exact decide_eq_false (by omega) | exact decide_eq_true (by assumption) | exact decide_eq_true (by omega) | exact one_shl33 (by omega) | exact pm_lt _ _ | exact rm_lt (by first | assumption | exact pm_lt _ _) | exact Nat.lt_of_le_of_lt (Nat.shiftRight_le _ _) (by assumption) | exact Nat.lt_of_le_of_lt Nat.and_le_right (by omega))) ml_X5_71 rfl ⟨Nat.le_of_ble_eq_true rfl, Nat.le_of_ble_eq_true rfl⟩ ⟨Nat.le_of_ble_eq_true rfl, Nat.le_of_ble_eq_true rfl⟩ hl (Nat.le_of_ble_eq_true rfl) rfl dX5_power_29 (fun H locs B => ?_)
        refine z_ifB_ne (tgt := 59) C dX5_power_32 (by decide) (fun h32 => ?_) (fun h32 => ?_)
        · exact absurd h32 (by decide)
        · refine lv_aload_n C.1 C.2.1 dX5_power_35 rfl (lv_at hl 0 rfl) ?_
          refine lv_iload_n C.1 C.2.1 dX5_power_36 rfl (lv_at hl 2 rfl) ?_
          refine z_iconst C dX5_power_37 ?_
          refine z_sipush C dX5_power_38 (by decide) ?_
          refine z_call C (c_X5_isIn l (t) (0 : Int) (255 : Int) (by first | assumption | omega | rfl | exact decide_eq_false (by omega) | exact decide_eq_true (by assumption) | exact decide_eq_true (by omega) | exact one_shl33 (by omega) | exact pm_lt _ _ | exact rm_lt (by first | assumption | exact pm_lt _ _) | exact Nat.lt_of_le_of_lt (Nat.shiftRight_le _ _) (by assumption) | exact Nat.lt_of_le_of_lt Nat.and_le_right (by omega)) (by first | assumption | omega | rfl | exact decide_eq_false (by omega) | exact decide_eq_true (by assumption) | exact decide_eq_true (by omega) | exact one_shl33 (by omega) | exact pm_lt _ _ | exact rm_lt (by first | assumption | exact pm_lt _ _) | exact Nat.lt_of_le_of_lt (Nat.shiftRight_le _ _) (by assumption) | exact Nat.lt_of_le_of_lt Nat.and_le_right (by omega)) (by first | assumption | omega | rfl | exact decide_eq_false (by omega) | exact decide_eq_true (by assumption) | exact decide_eq_true (by omega) | exact one_shl33 (by omega) | exact pm_lt _ _ | exact rm_lt (by first | assumption | exact pm_lt _ _) | exact Nat.lt_of_le_of_lt (Nat.shiftRight_le _ _) (by assumption) | exact Nat.lt_of_le_of_lt Nat.and_le_right (by omega))) ml_X5_21 ⟨by decide, by decide⟩ ⟨Nat.le_of_ble_eq_true rfl, Nat.le_of_ble_eq_true rfl⟩ hl (Nat.le_of_ble_eq_true rfl) rfl dX5_power_41 ?_
          refine z_ifB_ne (tgt := 51) C dX5_power_44 (by decide) (fun h44 => ?_) (fun h44 => ?_)
          · refine z_iconst C dX5_power_51 ?_
            refine z_iconst C dX5_power_52 ?_
            refine zo_callD C B (r := some (.int (iZ (zB (false))))) (c_X5_refuse_ok l D cJ o a (c) (0) ((ac)) ((re)) ((kn)) (false) (2 : Int) (by first | assumption | omega | rfl | exact decide_eq_false (by omega) | exact decide_eq_true (by assumption) | exact decide_eq_true (by omega) | exact one_shl33 (by omega) | exact pm_lt _ _ | exact rm_lt (by first | assumption | exact pm_lt _ _) | exact Nat.lt_of_le_of_lt (Nat.shiftRight_le _ _) (by assumption) | exact Nat.lt_of_le_of_lt Nat.and_le_right (by omega)) (by first | assumption | omega | rfl | exact decide_eq_false (by omega) | exact decide_eq_true (by assumption) | exact decide_eq_true (by omega) | exact one_shl33 (by omega) | exact pm_lt _ _ | exact rm_lt (by first | assumption | exact pm_lt _ _) | exact Nat.lt_of_le_of_lt (Nat.shiftRight_le _ _) (by assumption) | exact Nat.lt_of_le_of_lt Nat.and_le_right (by omega))) ml_X5_17 rfl ⟨Nat.le_of_ble_eq_true rfl, Nat.le_of_ble_eq_true rfl⟩ ⟨Nat.le_of_ble_eq_true rfl, Nat.le_of_ble_eq_true rfl⟩ hl (Nat.le_of_ble_eq_true rfl) rfl dX5_power_53 (fun H locs B => ?_)
            refine z_ifB_eq (tgt := 61) C dX5_power_56 (by decide) (fun h56 => ?_) (fun h56 => ?_)
            · refine lv_aload_n C.1 C.2.1 dX5_power_61 rfl (lv_at hl 0 rfl) ?_
              refine zo_get C B (Cn := RX5) (T := TX5) (N := 5) (v := .ref a) rfl inX5 0 (by decide) fl_X5_7 rfl rfl dX5_power_62 ?_
              refine lv_iload_n C.1 C.2.1 dX5_power_65 rfl (lv_at hl 3 rfl) ?_
              refine zo_lald C B ((g).toNat) (by omega) (by omega) dX5_power_66 ?_
              have q66 := B.1.2.2.2 ((g).toNat)
              refine z_call C (c_X5_degreeOf l (c ((g).toNat)) (by first | assumption | omega | rfl | exact decide_eq_false (by omega) | exact decide_eq_true (by assumption) | exact decide_eq_true (by omega) | exact one_shl33 (by omega) | exact pm_lt _ _ | exact rm_lt (by first | assumption | exact pm_lt _ _) | exact Nat.lt_of_le_of_lt (Nat.shiftRight_le _ _) (by assumption) | exact Nat.lt_of_le_of_lt Nat.and_le_right (by omega))) ml_X5_33 ⟨by decide, by decide⟩ ⟨Nat.le_of_ble_eq_true rfl, Nat.le_of_ble_eq_true rfl⟩ hl (Nat.le_of_ble_eq_true rfl) rfl dX5_power_67 ?_
              have q67_0 := tp_rngE (c ((g).toNat)) (by first | assumption | omega | exact pm_lt _ _ | exact rm_lt (by assumption))
              refine z_iconst C dX5_power_70 ?_
              refine z_bipush C dX5_power_71 (by decide) ?_
              refine z_call C (c_X5_isIn l (tp (c ((g).toNat))) (1 : Int) (12 : Int) (by first | assumption | omega | rfl | exact decide_eq_false (by omega) | exact decide_eq_true (by assumption) | exact decide_eq_true (by omega) | exact one_shl33 (by omega) | exact pm_lt _ _ | exact rm_lt (by first | assumption | exact pm_lt _ _) | exact Nat.lt_of_le_of_lt (Nat.shiftRight_le _ _) (by assumption) | exact Nat.lt_of_le_of_lt Nat.and_le_right (by omega)) (by first | assumption | omega | rfl | exact decide_eq_false (by omega) | exact decide_eq_true (by assumption) | exact decide_eq_true (by omega) | exact one_shl33 (by omega) | exact pm_lt _ _ | exact rm_lt (by first | assumption | exact pm_lt _ _) | exact Nat.lt_of_le_of_lt (Nat.shiftRight_le _ _) (by assumption) | exact Nat.lt_of_le_of_lt Nat.and_le_right (by omega)) (by first | assumption | omega | rfl | exact decide_eq_false (by omega) | exact decide_eq_true (by assumption) | exact decide_eq_true (by omega) | exact one_shl33 (by omega) | exact pm_lt _ _ | exact rm_lt (by first | assumption | exact pm_lt _ _) | exact Nat.lt_of_le_of_lt (Nat.shiftRight_le _ _) (by assumption) | exact Nat.lt_of_le_of_lt Nat.and_le_right (by omega))) ml_X5_21 ⟨by decide, by decide⟩ ⟨Nat.le_of_ble_eq_true rfl, Nat.le_of_ble_eq_true rfl⟩ hl (Nat.le_of_ble_eq_true rfl) rfl dX5_power_73 ?_
              refine z_ifB_ne (tgt := 84) C dX5_power_76 (by decide) (fun h76 => ?_) (fun h76 => ?_)
              · have g0 := B.1.2.2.2 f.toNat
                have g1 := B.1.2.2.2 g.toNat
                have h76b := of_decide_eq_true h76
                have g3 : ¬ c g.toNat = 0 := mt tp_neg.mpr (by omega)
                refine lv_aload_n C.1 C.2.1 dX5_power_84 rfl (lv_at hl 0 rfl) ?_
                refine zo_get C B (Cn := RX5) (T := TX5) (N := 5) (v := .ref a) rfl inX5 0 (by decide) fl_X5_7 rfl rfl dX5_power_85 ?_
                refine lv_iload_n C.1 C.2.1 dX5_power_88 rfl (lv_at hl 1 rfl) ?_
                refine zo_lald C B ((f).toNat) (by omega) (by omega) dX5_power_89 ?_
                have q89 := B.1.2.2.2 ((f).toNat)
                refine lv_aload_n C.1 C.2.1 dX5_power_90 rfl (lv_at hl 0 rfl) ?_
                refine zo_get C B (Cn := RX5) (T := TX5) (N := 5) (v := .ref a) rfl inX5 0 (by decide) fl_X5_7 rfl rfl dX5_power_91 ?_
                refine lv_iload_n C.1 C.2.1 dX5_power_94 rfl (lv_at hl 3 rfl) ?_
                refine zo_lald C B ((g).toNat) (by omega) (by omega) dX5_power_95 ?_
                have q95 := B.1.2.2.2 ((g).toNat)
                refine z_call C (c_X5_restOf l (c ((f).toNat)) (c ((g).toNat)) (by omega) (by omega) (by exact g3)) ml_X5_46 ⟨by decide, by decide⟩ ⟨Nat.le_of_ble_eq_true rfl, Nat.le_of_ble_eq_true rfl⟩ hl (Nat.le_of_ble_eq_true rfl) rfl dX5_power_96 ?_
                refine lv_lstore (lv' := [(5, .long (lN (rm (c ((f).toNat)) (c ((g).toNat))))), (0, .ref o), (1, .int (iZ (f))), (2, .int (iZ (t))), (3, .int (iZ (g))), (4, .int (iZ (z)))]) C.1 C.2.1 dX5_power_99 hl (by decide) rfl (fun ls hl => ?_)
                refine z_lconst (k0 := 1) C dX5_power_101 rfl ?_
                refine lv_lstore (lv' := [(7, .long (lN (1))), (5, .long (lN (rm (c ((f).toNat)) (c ((g).toNat))))), (0, .ref o), (1, .int (iZ (f))), (2, .int (iZ (t))), (3, .int (iZ (g))), (4, .int (iZ (z)))]) C.1 C.2.1 dX5_power_102 hl (by decide) rfl (fun ls hl => ?_)
                refine z_iconst C dX5_power_104 ?_
                refine lv_istore (lv' := [(9, .int (iZ (0))), (7, .long (lN (1))), (5, .long (lN (rm (c ((f).toNat)) (c ((g).toNat))))), (0, .ref o), (1, .int (iZ (f))), (2, .int (iZ (t))), (3, .int (iZ (g))), (4, .int (iZ (z)))]) C.1 C.2.1 dX5_power_105 hl (by decide) rfl (fun ls hl => ?_)
                have L107 : ∀ (j : Nat) (k : Nat) (x7 : Nat) (x9 : Int) (ls : Array Slot), 256 - k < j → (x9 = (k : Int)) → (x9 ≤ t) → (x7 = pqF (rm (c f.toNat) (c g.toNat)) (c g.toNat) k) → lv_has ls 10 [(0, .ref o), (1, .int (iZ (f))), (2, .int (iZ (t))), (3, .int (iZ (g))), (4, .int (iZ (z))), (5, .long (lN (rm (c ((f).toNat)) (c ((g).toNat))))), (7, .long (lN (x7))), (9, .int (iZ (x9)))] → W p l e { frames := 3, cells := 0, slots := 0, locals := 76 } s m (Value.ref o :: ([.int (iZ (f)), .int (iZ (t)), .int (iZ (g)), .int (iZ (z))] : List Value)).toArray below meth c0 H locs ((0 + 0) + 0) ((0 + 0) + 0) (zE1 below D 4 cJ o a (Value.ref o :: ([.int (iZ (f)), .int (iZ (t)), .int (iZ (g)), .int (iZ (z))] : List Value)).toArray s 0 0 (fun v => v = some (.int (iZ (aR c (z.toNat) (wPm (c f.toNat) (c g.toNat) t))))) (aC c (z.toNat) (wPm (c f.toNat) (c g.toNat) t)) [.int (iZ (0)), .int (aA ac (wPm (c f.toNat) (c g.toNat) t)), .int (aF re (wPm (c f.toNat) (c g.toNat) t)), .int (kn)]) (F0 m 107 ls []) := by
                  intro j
                  induction j with
                  | zero => intro k x7 x9 ls hmu; exact absurd hmu (Nat.not_lt_zero _)
                  | succ j ih107 =>
                    intro k x7 x9 ls hmu i107_0 i107_1 i107_2 hl
                    refine lv_iload C.1 C.2.1 dX5_power_107 (lv_at hl 7 rfl) ?_
                    refine lv_iload_n C.1 C.2.1 dX5_power_109 rfl (lv_at hl 2 rfl) ?_
                    refine z_icmp_ge (tgt := 137) C (by omega) (by omega) dX5_power_110 (by decide) (fun h110 => ?_) (fun h110 => ?_)
                    · refine lv_aload_n C.1 C.2.1 dX5_power_137 rfl (lv_at hl 0 rfl) ?_
                      refine lv_iload C.1 C.2.1 dX5_power_138 (lv_at hl 4 rfl) ?_
                      refine lv_lload C.1 C.2.1 dX5_power_140 (lv_at hl 6 rfl) ?_
                      refine zo_callD C B (r := some (.int (iZ (aR (c) (z).toNat (some (x7)))))) (c_X5_lay l D cJ o a (c) ((0)) (((ac))) (((re))) (((kn))) (z) (x7) (by omega) (by rw [i107_2]; exact pqF33 g1 g3 _)) ml_X5_59 rfl ⟨Nat.le_of_ble_eq_true rfl, Nat.le_of_ble_eq_true rfl⟩ ⟨Nat.le_of_ble_eq_true rfl, Nat.le_of_ble_eq_true rfl⟩ hl (Nat.le_of_ble_eq_true rfl) rfl dX5_power_142 (fun H locs B => ?_)
                      have q142_0 := aR_rng ((c)) (z).toNat (some (x7))
                      have hw : (wPm (c f.toNat) (c g.toNat) t) = some (x7) := by rw [wPm, if_pos h76b, i107_2, show k = t.toNat by omega]
                      exact zo_iret C B hr hk (Nat.le_of_ble_eq_true rfl) (Nat.le_of_ble_eq_true rfl) dX5_power_145 (by show some _ = some _; rw [hw] <;> rfl) (by rw [hw] <;> rfl) (by rw [hw] <;> rfl)
                    · refine lv_lload C.1 C.2.1 dX5_power_113 (lv_at hl 6 rfl) ?_
                      refine lv_lload C.1 C.2.1 dX5_power_115 (lv_at hl 5 rfl) ?_
                      refine z_call C (c_X5_product l (x7) (rm (c ((f).toNat)) (c ((g).toNat))) (by exact rm_lt (by omega))) ml_X5_41 ⟨by decide, by decide⟩ ⟨Nat.le_of_ble_eq_true rfl, Nat.le_of_ble_eq_true rfl⟩ hl (Nat.le_of_ble_eq_true rfl) rfl dX5_power_117 ?_
                      refine lv_aload_n C.1 C.2.1 dX5_power_120 rfl (lv_at hl 0 rfl) ?_
                      refine zo_get C B (Cn := RX5) (T := TX5) (N := 5) (v := .ref a) rfl inX5 0 (by decide) fl_X5_7 rfl rfl dX5_power_121 ?_
                      refine lv_iload_n C.1 C.2.1 dX5_power_124 rfl (lv_at hl 3 rfl) ?_
                      refine zo_lald C B ((g).toNat) (by omega) (by omega) dX5_power_125 ?_
                      have q125 := B.1.2.2.2 ((g).toNat)
                      refine z_call C (c_X5_restOf l (pm (x7) (rm (c ((f).toNat)) (c ((g).toNat)))) (c ((g).toNat)) (by exact pm_lt _ _) (by omega) (by exact g3)) ml_X5_46 ⟨by decide, by decide⟩ ⟨Nat.le_of_ble_eq_true rfl, Nat.le_of_ble_eq_true rfl⟩ hl (Nat.le_of_ble_eq_true rfl) rfl dX5_power_126 ?_
                      refine lv_lstore (lv' := [(7, .long (lN (rm (pm (x7) (rm (c ((f).toNat)) (c ((g).toNat)))) (c ((g).toNat))))), (0, .ref o), (1, .int (iZ (f))), (2, .int (iZ (t))), (3, .int (iZ (g))), (4, .int (iZ (z))), (5, .long (lN (rm (c ((f).toNat)) (c ((g).toNat))))), (9, .int (iZ (x9)))]) C.1 C.2.1 dX5_power_129 hl (by decide) rfl (fun ls hl => ?_)
                      refine z_iinc (j := 7) (lv' := [(9, .int (iZ (x9 + 1))), (7, .long (lN (rm (pm (x7) (rm (c ((f).toNat)) (c ((g).toNat)))) (c ((g).toNat))))), (0, .ref o), (1, .int (iZ (f))), (2, .int (iZ (t))), (3, .int (iZ (g))), (4, .int (iZ (z))), (5, .long (lN (rm (c ((f).toNat)) (c ((g).toNat)))))]) C dX5_power_131 hl rfl (by decide) rfl (fun ls hl => ?_)
                      refine lv_goto (tgt := 107) C.1 C.2.1 dX5_power_134 (by decide) ?_
                      exact ih107 (k + 1) _ _ _ (by omega) (by omega) (by omega) (by rw [pqF, i107_2]) (lv_sub hl [2, 3, 4, 5, 6, 7, 1, 0] rfl)
                exact L107 _ (0) _ _ _ (by exact Nat.lt_succ_self _) (by rfl) (by omega) (by rfl) (lv_sub hl [3, 4, 5, 6, 7, 2, 1, 0] rfl)
              · refine lv_aload_n C.1 C.2.1 dX5_power_79 rfl (lv_at hl 0 rfl) ?_
                refine zo_callD C B (r := some (.int (iZ (-9)))) (c_X5_no l D cJ o a (c) ((0)) (((ac))) (((re))) (((kn)))  ) ml_X5_63 rfl ⟨Nat.le_of_ble_eq_true rfl, Nat.le_of_ble_eq_true rfl⟩ ⟨Nat.le_of_ble_eq_true rfl, Nat.le_of_ble_eq_true rfl⟩ hl (Nat.le_of_ble_eq_true rfl) rfl dX5_power_80 (fun H locs B => ?_)
                have hw : (wPm (c f.toNat) (c g.toNat) t) = none := by exact if_neg (of_decide_eq_false h76)
                exact zo_iret C B hr hk (Nat.le_of_ble_eq_true rfl) (Nat.le_of_ble_eq_true rfl) dX5_power_83 (by show some _ = some _; rw [hw] <;> rfl) (by rw [hw] <;> rfl) (by rw [hw] <;> rfl)
            · exact absurd h56 (by decide)
          · exact absurd (of_decide_eq_false h44) (by omega)
      · exact absurd (of_decide_eq_true h20) (by omega)

set_option maxHeartbeats 4000000 in
set_option maxRecDepth 100000 in
theorem c_X5_nth (l : Launch) (D : va_G) (cJ : ClassId) (o a : Nat) (c : Nat → Nat) (th : Int) (ac : Int32) (re : Int32) (kn : Int32) (d : Int) (r : Int) (z : Int) (hd : 1 ≤ d ∧ d ≤ 8) (hr0 : 0 ≤ r ∧ r ≤ 40) (hz : 0 ≤ z ∧ z ≤ 5) : zA l yX5_nth 4 126 0 0 D 4 cJ o a [.int (iZ (d)), .int (iZ (r)), .int (iZ (z))] c [.int (iZ (th)), .int (ac), .int (re), .int (kn)] (fun v => v = some (.int (iZ (aR c (z.toNat) (wN d r))))) (aC c (z.toNat) (wN d r)) [.int (iZ (0)), .int (aA ac (wN d r)), .int (aF re (wN d r)), .int (kn)] := by
  refine zA.intro (lo := 100) (nA := 3) (own := RX5) zi_X5_nth (by decide) rfl rfl (by decide +kernel) rfl (Nat.le_of_ble_eq_true rfl) ?_
  intro p e s m below meth c0 ls C hr hk B hl
  have hl : lv_has ls 7 [(0, .ref o), (1, .int (iZ (d))), (2, .int (iZ (r))), (3, .int (iZ (z)))] := hl
  refine lv_aload_n C.1 C.2.1 dX5_nth_0 rfl (lv_at hl 0 rfl) ?_
  refine lv_iload_n C.1 C.2.1 dX5_nth_1 rfl (lv_at hl 3 rfl) ?_
  refine z_call C (c_X5_isNo l (z) (by first | assumption | omega | rfl | exact decide_eq_false (by omega) | exact decide_eq_true (by assumption) | exact decide_eq_true (by omega) | exact one_shl33 (by omega) | exact pm_lt _ _ | exact rm_lt (by first | assumption | exact pm_lt _ _) | exact Nat.lt_of_le_of_lt (Nat.shiftRight_le _ _) (by assumption) | exact Nat.lt_of_le_of_lt Nat.and_le_right (by omega))) ml_X5_67 ⟨by decide, by decide⟩ ⟨Nat.le_of_ble_eq_true rfl, Nat.le_of_ble_eq_true rfl⟩ hl (Nat.le_of_ble_eq_true rfl) rfl dX5_nth_2 ?_
  refine z_iconst C dX5_nth_5 ?_
  refine zo_callD C B (r := some (.int (iZ (zB (false))))) (c_X5_start_ok l D cJ o a (c) (th) (ac) (re) (kn) (decide (¬ (0 ≤ (z) ∧ (z) ≤ 5))) (1 : Int) (by first | assumption | omega | rfl | exact decide_eq_false (by omega) | exact decide_eq_true (by assumption) | exact decide_eq_true (by omega) | exact one_shl33 (by omega) | exact pm_lt _ _ | exact rm_lt (by first | assumption | exact pm_lt _ _) | exact Nat.lt_of_le_of_lt (Nat.shiftRight_le _ _) (by assumption) | exact Nat.lt_of_le_of_lt Nat.and_le_right (by omega))) ml_X5_71 rfl ⟨Nat.le_of_ble_eq_true rfl, Nat.le_of_ble_eq_true rfl⟩ ⟨Nat.le_of_ble_eq_true rfl, Nat.le_of_ble_eq_true rfl⟩ hl (Nat.le_of_ble_eq_true rfl) rfl dX5_nth_6 (fun H locs B => ?_)
  refine z_ifB_ne (tgt := 45) C dX5_nth_9 (by decide) (fun h9 => ?_) (fun h9 => ?_)
  · exact absurd h9 (by decide)
  · refine lv_aload_n C.1 C.2.1 dX5_nth_12 rfl (lv_at hl 0 rfl) ?_
    refine lv_iload_n C.1 C.2.1 dX5_nth_13 rfl (lv_at hl 1 rfl) ?_
    refine z_iconst C dX5_nth_14 ?_
    refine z_bipush C dX5_nth_15 (by decide) ?_
    refine z_call C (c_X5_isIn l (d) (1 : Int) (8 : Int) (by first | assumption | omega | rfl | exact decide_eq_false (by omega) | exact decide_eq_true (by assumption) | exact decide_eq_true (by omega) | exact one_shl33 (by omega) | exact pm_lt _ _ | exact rm_lt (by first | assumption | exact pm_lt _ _) | exact Nat.lt_of_le_of_lt (Nat.shiftRight_le _ _) (by assumption) | exact Nat.lt_of_le_of_lt Nat.and_le_right (by omega)) (by first | assumption | omega | rfl | exact decide_eq_false (by omega) | exact decide_eq_true (by assumption) | exact decide_eq_true (by omega) | exact one_shl33 (by omega) | exact pm_lt _ _ | exact rm_lt (by first | assumption | exact pm_lt _ _) | exact Nat.lt_of_le_of_lt (Nat.shiftRight_le _ _) (by assumption) | exact Nat.lt_of_le_of_lt Nat.and_le_right (by omega)) (by first | assumption | omega | rfl | exact decide_eq_false (by omega) | exact decide_eq_true (by assumption) | exact decide_eq_true (by omega) | exact one_shl33 (by omega) | exact pm_lt _ _ | exact rm_lt (by first | assumption | exact pm_lt _ _) | exact Nat.lt_of_le_of_lt (Nat.shiftRight_le _ _) (by assumption) | exact Nat.lt_of_le_of_lt Nat.and_le_right (by omega))) ml_X5_21 ⟨by decide, by decide⟩ ⟨Nat.le_of_ble_eq_true rfl, Nat.le_of_ble_eq_true rfl⟩ hl (Nat.le_of_ble_eq_true rfl) rfl dX5_nth_17 ?_
    refine z_ifB_eq (tgt := 33) C dX5_nth_20 (by decide) (fun h20 => ?_) (fun h20 => ?_)
    · exact absurd (of_decide_eq_false h20) (by omega)
    · refine lv_iload_n C.1 C.2.1 dX5_nth_23 rfl (lv_at hl 2 rfl) ?_
      refine z_iconst C dX5_nth_24 ?_
      refine z_bipush C dX5_nth_25 (by decide) ?_
      refine z_call C (c_X5_isIn l (r) (0 : Int) (40 : Int) (by first | assumption | omega | rfl | exact decide_eq_false (by omega) | exact decide_eq_true (by assumption) | exact decide_eq_true (by omega) | exact one_shl33 (by omega) | exact pm_lt _ _ | exact rm_lt (by first | assumption | exact pm_lt _ _) | exact Nat.lt_of_le_of_lt (Nat.shiftRight_le _ _) (by assumption) | exact Nat.lt_of_le_of_lt Nat.and_le_right (by omega)) (by first | assumption | omega | rfl | exact decide_eq_false (by omega) | exact decide_eq_true (by assumption) | exact decide_eq_true (by omega) | exact one_shl33 (by omega) | exact pm_lt _ _ | exact rm_lt (by first | assumption | exact pm_lt _ _) | exact Nat.lt_of_le_of_lt (Nat.shiftRight_le _ _) (by assumption) | exact Nat.lt_of_le_of_lt Nat.and_le_right (by omega)) (by first | assumption | omega | rfl | exact decide_eq_false (by omega) | exact decide_eq_true (by assumption) | exact decide_eq_true (by omega) | exact one_shl33 (by omega) | exact pm_lt _ _ | exact rm_lt (by first | assumption | exact pm_lt _ _) | exact Nat.lt_of_le_of_lt (Nat.shiftRight_le _ _) (by assumption) | exact Nat.lt_of_le_of_lt Nat.and_le_right (by omega))) ml_X5_21 ⟨by decide, by decide⟩ ⟨Nat.le_of_ble_eq_true rfl, Nat.le_of_ble_eq_true rfl⟩ hl (Nat.le_of_ble_eq_true rfl) rfl dX5_nth_27 ?_
      refine z_ifB_ne (tgt := 37) C dX5_nth_30 (by decide) (fun h30 => ?_) (fun h30 => ?_)
      · refine z_iconst C dX5_nth_37 ?_
        refine z_iconst C dX5_nth_38 ?_
        refine zo_callD C B (r := some (.int (iZ (zB (false))))) (c_X5_refuse_ok l D cJ o a (c) (0) ((ac)) ((re)) ((kn)) (false) (2 : Int) (by first | assumption | omega | rfl | exact decide_eq_false (by omega) | exact decide_eq_true (by assumption) | exact decide_eq_true (by omega) | exact one_shl33 (by omega) | exact pm_lt _ _ | exact rm_lt (by first | assumption | exact pm_lt _ _) | exact Nat.lt_of_le_of_lt (Nat.shiftRight_le _ _) (by assumption) | exact Nat.lt_of_le_of_lt Nat.and_le_right (by omega)) (by first | assumption | omega | rfl | exact decide_eq_false (by omega) | exact decide_eq_true (by assumption) | exact decide_eq_true (by omega) | exact one_shl33 (by omega) | exact pm_lt _ _ | exact rm_lt (by first | assumption | exact pm_lt _ _) | exact Nat.lt_of_le_of_lt (Nat.shiftRight_le _ _) (by assumption) | exact Nat.lt_of_le_of_lt Nat.and_le_right (by omega))) ml_X5_17 rfl ⟨Nat.le_of_ble_eq_true rfl, Nat.le_of_ble_eq_true rfl⟩ ⟨Nat.le_of_ble_eq_true rfl, Nat.le_of_ble_eq_true rfl⟩ hl (Nat.le_of_ble_eq_true rfl) rfl dX5_nth_39 (fun H locs B => ?_)
        refine z_ifB_eq (tgt := 47) C dX5_nth_42 (by decide) (fun h42 => ?_) (fun h42 => ?_)
        · refine z_iconst C dX5_nth_47 ?_
          refine lv_istore (lv' := [(4, .int (iZ (0))), (0, .ref o), (1, .int (iZ (d))), (2, .int (iZ (r))), (3, .int (iZ (z)))]) C.1 C.2.1 dX5_nth_48 hl (by decide) rfl (fun ls hl => ?_)
          have hp := pow_8 (d := d.toNat) (by omega)
          have hps := pow_s d.toNat
          have e1 : 1 <<< d.toNat = 2 ^ d.toNat := by rw [Nat.shiftLeft_eq, Nat.one_mul]
          have e2 : 2 <<< d.toNat = 2 ^ (d.toNat + 1) := by rw [Nat.shiftLeft_eq]; omega
          have hp2 : 2 ≤ 2 ^ d.toNat := by have : 2 ^ 1 ≤ 2 ^ d.toNat := Nat.pow_le_pow_right (by omega) (by omega); omega
          refine z_lconst (k0 := 1) C dX5_nth_50 rfl ?_
          refine lv_iload_n C.1 C.2.1 dX5_nth_51 rfl (lv_at hl 2 rfl) ?_
          refine z_lshl C ((d).toNat) (by omega) (by omega) dX5_nth_52 ?_
          refine lv_lstore (lv' := [(5, .long (lN ((1) <<< ((d).toNat)))), (4, .int (iZ (0))), (0, .ref o), (1, .int (iZ (d))), (2, .int (iZ (r))), (3, .int (iZ (z)))]) C.1 C.2.1 dX5_nth_53 hl (by decide) rfl (fun ls hl => ?_)
          have L55 : ∀ (j : Nat) (f : Nat) (x4 : Int) (x5 : Nat) (ls : Array Slot), f < j → (f = 2 ^ (d.toNat + 1) - x5) → (2 ^ d.toNat ≤ x5) → (x5 ≤ 2 ^ (d.toNat + 1)) → (wrF r f x5 x4 = wr d.toNat r) → (0 ≤ x4) → (x4 ≤ (x5 : Int)) → lv_has ls 7 [(0, .ref o), (1, .int (iZ (d))), (2, .int (iZ (r))), (3, .int (iZ (z))), (4, .int (iZ (x4))), (5, .long (lN (x5)))] → W p l e { frames := 4, cells := 0, slots := 0, locals := 100 } s m (Value.ref o :: ([.int (iZ (d)), .int (iZ (r)), .int (iZ (z))] : List Value)).toArray below meth c0 H locs ((0 + 0) + 0) ((0 + 0) + 0) (zE1 below D 4 cJ o a (Value.ref o :: ([.int (iZ (d)), .int (iZ (r)), .int (iZ (z))] : List Value)).toArray s 0 0 (fun v => v = some (.int (iZ (aR c (z.toNat) (wN d r))))) (aC c (z.toNat) (wN d r)) [.int (iZ (0)), .int (aA ac (wN d r)), .int (aF re (wN d r)), .int (kn)]) (F0 m 55 ls []) := by
            intro j
            induction j with
            | zero => intro f x4 x5 ls hmu; exact absurd hmu (Nat.not_lt_zero _)
            | succ j ih55 =>
              intro f x4 x5 ls hmu i55_0 i55_1 i55_2 i55_3 i55_4 i55_5 hl
              refine lv_lload C.1 C.2.1 dX5_nth_55 (lv_at hl 5 rfl) ?_
              refine z_ldc2 C 2 (T0_of kl_X5_44 rfl) (by decide) dX5_nth_57 ?_
              refine lv_iload_n C.1 C.2.1 dX5_nth_60 rfl (lv_at hl 1 rfl) ?_
              refine z_lshl C ((d).toNat) (by omega) (by omega) dX5_nth_61 ?_
              refine z_lc_ge (tgt := 103) C (by omega) (by rw [e2]; omega) dX5_nth_62 dX5_nth_63 (by decide) (fun h62 => ?_) (fun h62 => ?_)
              · refine lv_aload_n C.1 C.2.1 dX5_nth_103 rfl (lv_at hl 0 rfl) ?_
                refine zo_callD C B (r := some (.int (iZ (-9)))) (c_X5_no l D cJ o a (c) ((0)) (((ac))) (((re))) (((kn)))  ) ml_X5_63 rfl ⟨Nat.le_of_ble_eq_true rfl, Nat.le_of_ble_eq_true rfl⟩ ⟨Nat.le_of_ble_eq_true rfl, Nat.le_of_ble_eq_true rfl⟩ hl (Nat.le_of_ble_eq_true rfl) rfl dX5_nth_104 (fun H locs B => ?_)
                have hw : (wN d r) = none := by have h62b : 2 ^ (d.toNat + 1) ≤ x5 := (by rw [← e2]; exact h62); rw [show f = 0 by omega] at i55_3; rw [wN, ← i55_3]; rfl
                exact zo_iret C B hr hk (Nat.le_of_ble_eq_true rfl) (Nat.le_of_ble_eq_true rfl) dX5_nth_107 (by show some _ = some _; rw [hw] <;> rfl) (by rw [hw] <;> rfl) (by rw [hw] <;> rfl)
              · refine lv_lload C.1 C.2.1 dX5_nth_66 (lv_at hl 5 rfl) ?_
                refine z_call C (c_X5_isIrreducible l (x5) (by first | assumption | omega | rfl | exact decide_eq_false (by omega) | exact decide_eq_true (by assumption) | exact decide_eq_true (by omega) | exact one_shl33 (by omega) | exact pm_lt _ _ | exact rm_lt (by first | assumption | exact pm_lt _ _) | exact Nat.lt_of_le_of_lt (Nat.shiftRight_le _ _) (by assumption) | exact Nat.lt_of_le_of_lt Nat.and_le_right (by omega))) ml_X5_49 ⟨by decide, by decide⟩ ⟨Nat.le_of_ble_eq_true rfl, Nat.le_of_ble_eq_true rfl⟩ hl (Nat.le_of_ble_eq_true rfl) rfl dX5_nth_68 ?_
                refine z_ifB_ne (tgt := 77) C dX5_nth_71 (by decide) (fun h71 => ?_) (fun h71 => ?_)
                · refine lv_iload C.1 C.2.1 dX5_nth_77 (lv_at hl 4 rfl) ?_
                  refine lv_iload_n C.1 C.2.1 dX5_nth_79 rfl (lv_at hl 2 rfl) ?_
                  refine z_icmp_ne (tgt := 91) C (by omega) (by omega) dX5_nth_80 (by decide) (fun h80 => ?_) (fun h80 => ?_)
                  · refine z_iinc (j := 4) (lv' := [(4, .int (iZ (x4 + 1))), (0, .ref o), (1, .int (iZ (d))), (2, .int (iZ (r))), (3, .int (iZ (z))), (5, .long (lN (x5)))]) C dX5_nth_91 hl rfl (by decide) rfl (fun ls hl => ?_)
                    refine lv_lload C.1 C.2.1 dX5_nth_94 (lv_at hl 5 rfl) ?_
                    refine z_lconst (k0 := 1) C dX5_nth_96 rfl ?_
                    refine z_ladd C dX5_nth_97 ?_
                    refine lv_lstore (lv' := [(5, .long (lN ((x5) + (1)))), (4, .int (iZ (x4 + 1))), (0, .ref o), (1, .int (iZ (d))), (2, .int (iZ (r))), (3, .int (iZ (z)))]) C.1 C.2.1 dX5_nth_98 hl (by decide) rfl (fun ls hl => ?_)
                    refine lv_goto (tgt := 55) C.1 C.2.1 dX5_nth_100 (by decide) ?_
                    obtain ⟨f, rfl⟩ : ∃ g, f = g + 1 := ⟨f - 1, by have h62b : x5 < 2 ^ (d.toNat + 1) := (by rw [← e2]; exact h62); omega⟩
                    rw [wrF_s h71 h80] at i55_3
                    exact ih55 (f) _ _ _ (by omega) (by omega) (by omega) (by omega) (by exact i55_3) (by omega) (by omega) (lv_sub hl [2, 3, 4, 5, 1, 0] rfl)
                  · refine lv_aload_n C.1 C.2.1 dX5_nth_83 rfl (lv_at hl 0 rfl) ?_
                    refine lv_iload_n C.1 C.2.1 dX5_nth_84 rfl (lv_at hl 3 rfl) ?_
                    refine lv_lload C.1 C.2.1 dX5_nth_85 (lv_at hl 5 rfl) ?_
                    refine zo_callD C B (r := some (.int (iZ (aR (c) (z).toNat (some (x5)))))) (c_X5_lay l D cJ o a (c) ((0)) (((ac))) (((re))) (((kn))) (z) (x5) (by first | assumption | omega | rfl | exact decide_eq_false (by omega) | exact decide_eq_true (by assumption) | exact decide_eq_true (by omega) | exact one_shl33 (by omega) | exact pm_lt _ _ | exact rm_lt (by first | assumption | exact pm_lt _ _) | exact Nat.lt_of_le_of_lt (Nat.shiftRight_le _ _) (by assumption) | exact Nat.lt_of_le_of_lt Nat.and_le_right (by omega)) (by first | assumption | omega | rfl | exact decide_eq_false (by omega) | exact decide_eq_true (by assumption) | exact decide_eq_true (by omega) | exact one_shl33 (by omega) | exact pm_lt _ _ | exact rm_lt (by first | assumption | exact pm_lt _ _) | exact Nat.lt_of_le_of_lt (Nat.shiftRight_le _ _) (by assumption) | exact Nat.lt_of_le_of_lt Nat.and_le_right (by omega))) ml_X5_59 rfl ⟨Nat.le_of_ble_eq_true rfl, Nat.le_of_ble_eq_true rfl⟩ ⟨Nat.le_of_ble_eq_true rfl, Nat.le_of_ble_eq_true rfl⟩ hl (Nat.le_of_ble_eq_true rfl) rfl dX5_nth_87 (fun H locs B => ?_)
                    have q87_0 := aR_rng ((c)) (z).toNat (some (x5))
                    have hw : (wN d r) = some (x5) := by obtain ⟨f, rfl⟩ : ∃ g, f = g + 1 := ⟨f - 1, by have h62b : x5 < 2 ^ (d.toNat + 1) := (by rw [← e2]; exact h62); omega⟩; rw [wrF_e h71 h80] at i55_3; rw [wN, ← i55_3, if_neg (by omega)]
                    exact zo_iret C B hr hk (Nat.le_of_ble_eq_true rfl) (Nat.le_of_ble_eq_true rfl) dX5_nth_90 (by show some _ = some _; rw [hw] <;> rfl) (by rw [hw] <;> rfl) (by rw [hw] <;> rfl)
                · refine lv_goto (tgt := 94) C.1 C.2.1 dX5_nth_74 (by decide) ?_
                  refine lv_lload C.1 C.2.1 dX5_nth_94 (lv_at hl 5 rfl) ?_
                  refine z_lconst (k0 := 1) C dX5_nth_96 rfl ?_
                  refine z_ladd C dX5_nth_97 ?_
                  refine lv_lstore (lv' := [(5, .long (lN ((x5) + (1)))), (0, .ref o), (1, .int (iZ (d))), (2, .int (iZ (r))), (3, .int (iZ (z))), (4, .int (iZ (x4)))]) C.1 C.2.1 dX5_nth_98 hl (by decide) rfl (fun ls hl => ?_)
                  refine lv_goto (tgt := 55) C.1 C.2.1 dX5_nth_100 (by decide) ?_
                  obtain ⟨f, rfl⟩ : ∃ g, f = g + 1 := ⟨f - 1, by have h62b : x5 < 2 ^ (d.toNat + 1) := (by rw [← e2]; exact h62); omega⟩
                  rw [wrF_n h71] at i55_3
                  exact ih55 (f) _ _ _ (by omega) (by omega) (by omega) (by omega) (by exact i55_3) (by omega) (by omega) (lv_sub hl [1, 2, 3, 4, 5, 0] rfl)
          exact L55 _ (2 ^ (d.toNat + 1) - 2 ^ d.toNat) _ _ _ (by exact Nat.lt_succ_self _) (by rw [e1]) (by omega) (by omega) (by rw [e1]; rfl) (by omega) (by exact Int.natCast_nonneg _) (lv_sub hl [2, 3, 4, 5, 1, 0] rfl)
        · exact absurd h42 (by decide)
      · exact absurd (of_decide_eq_false h30) (by omega)

set_option maxHeartbeats 4000000 in
set_option maxRecDepth 100000 in
theorem c_X5_field (l : Launch) (D : va_G) (cJ : ClassId) (o a : Nat) (c : Nat → Nat) (th : Int) (ac : Int32) (re : Int32) (kn : Int32) (n : Int) (z : Int) (hn : 1 ≤ n ∧ n ≤ 5) (hz : 0 ≤ z ∧ z ≤ 5) : zA l yX5_field 4 126 0 0 D 4 cJ o a [.int (iZ (n)), .int (iZ (z))] c [.int (iZ (th)), .int (ac), .int (re), .int (kn)] (fun v => v = some (.int (iZ (aR c (z.toNat) (some (fi n)))))) (aC c (z.toNat) (some (fi n))) [.int (iZ (0)), .int (aA ac (some (fi n))), .int (aF re (some (fi n))), .int (kn)] := by
  refine zA.intro (lo := 100) (nA := 2) (own := RX5) zi_X5_field (by decide) rfl rfl (by decide +kernel) rfl (Nat.le_of_ble_eq_true rfl) ?_
  intro p e s m below meth c0 ls C hr hk B hl
  have hl : lv_has ls 7 [(0, .ref o), (1, .int (iZ (n))), (2, .int (iZ (z)))] := hl
  refine lv_aload_n C.1 C.2.1 dX5_field_0 rfl (lv_at hl 0 rfl) ?_
  refine lv_iload_n C.1 C.2.1 dX5_field_1 rfl (lv_at hl 2 rfl) ?_
  refine z_call C (c_X5_isNo l (z) (by first | assumption | omega | rfl | exact decide_eq_false (by omega) | exact decide_eq_true (by assumption) | exact decide_eq_true (by omega) | exact one_shl33 (by omega) | exact pm_lt _ _ | exact rm_lt (by first | assumption | exact pm_lt _ _) | exact Nat.lt_of_le_of_lt (Nat.shiftRight_le _ _) (by assumption) | exact Nat.lt_of_le_of_lt Nat.and_le_right (by omega))) ml_X5_67 ⟨by decide, by decide⟩ ⟨Nat.le_of_ble_eq_true rfl, Nat.le_of_ble_eq_true rfl⟩ hl (Nat.le_of_ble_eq_true rfl) rfl dX5_field_2 ?_
  refine z_iconst C dX5_field_5 ?_
  refine zo_callD C B (r := some (.int (iZ (zB (false))))) (c_X5_start_ok l D cJ o a (c) (th) (ac) (re) (kn) (decide (¬ (0 ≤ (z) ∧ (z) ≤ 5))) (1 : Int) (by first | assumption | omega | rfl | exact decide_eq_false (by omega) | exact decide_eq_true (by assumption) | exact decide_eq_true (by omega) | exact one_shl33 (by omega) | exact pm_lt _ _ | exact rm_lt (by first | assumption | exact pm_lt _ _) | exact Nat.lt_of_le_of_lt (Nat.shiftRight_le _ _) (by assumption) | exact Nat.lt_of_le_of_lt Nat.and_le_right (by omega))) ml_X5_71 rfl ⟨Nat.le_of_ble_eq_true rfl, Nat.le_of_ble_eq_true rfl⟩ ⟨Nat.le_of_ble_eq_true rfl, Nat.le_of_ble_eq_true rfl⟩ hl (Nat.le_of_ble_eq_true rfl) rfl dX5_field_6 (fun H locs B => ?_)
  refine z_ifB_ne (tgt := 34) C dX5_field_9 (by decide) (fun h9 => ?_) (fun h9 => ?_)
  · exact absurd h9 (by decide)
  · refine lv_aload_n C.1 C.2.1 dX5_field_12 rfl (lv_at hl 0 rfl) ?_
    refine lv_iload_n C.1 C.2.1 dX5_field_13 rfl (lv_at hl 1 rfl) ?_
    refine z_iconst C dX5_field_14 ?_
    refine z_iconst C dX5_field_15 ?_
    refine z_call C (c_X5_isIn l (n) (1 : Int) (5 : Int) (by first | assumption | omega | rfl | exact decide_eq_false (by omega) | exact decide_eq_true (by assumption) | exact decide_eq_true (by omega) | exact one_shl33 (by omega) | exact pm_lt _ _ | exact rm_lt (by first | assumption | exact pm_lt _ _) | exact Nat.lt_of_le_of_lt (Nat.shiftRight_le _ _) (by assumption) | exact Nat.lt_of_le_of_lt Nat.and_le_right (by omega)) (by first | assumption | omega | rfl | exact decide_eq_false (by omega) | exact decide_eq_true (by assumption) | exact decide_eq_true (by omega) | exact one_shl33 (by omega) | exact pm_lt _ _ | exact rm_lt (by first | assumption | exact pm_lt _ _) | exact Nat.lt_of_le_of_lt (Nat.shiftRight_le _ _) (by assumption) | exact Nat.lt_of_le_of_lt Nat.and_le_right (by omega)) (by first | assumption | omega | rfl | exact decide_eq_false (by omega) | exact decide_eq_true (by assumption) | exact decide_eq_true (by omega) | exact one_shl33 (by omega) | exact pm_lt _ _ | exact rm_lt (by first | assumption | exact pm_lt _ _) | exact Nat.lt_of_le_of_lt (Nat.shiftRight_le _ _) (by assumption) | exact Nat.lt_of_le_of_lt Nat.and_le_right (by omega))) ml_X5_21 ⟨by decide, by decide⟩ ⟨Nat.le_of_ble_eq_true rfl, Nat.le_of_ble_eq_true rfl⟩ hl (Nat.le_of_ble_eq_true rfl) rfl dX5_field_16 ?_
    refine z_ifB_ne (tgt := 26) C dX5_field_19 (by decide) (fun h19 => ?_) (fun h19 => ?_)
    · refine z_iconst C dX5_field_26 ?_
      refine z_iconst C dX5_field_27 ?_
      refine zo_callD C B (r := some (.int (iZ (zB (false))))) (c_X5_refuse_ok l D cJ o a (c) (0) ((ac)) ((re)) ((kn)) (false) (2 : Int) (by first | assumption | omega | rfl | exact decide_eq_false (by omega) | exact decide_eq_true (by assumption) | exact decide_eq_true (by omega) | exact one_shl33 (by omega) | exact pm_lt _ _ | exact rm_lt (by first | assumption | exact pm_lt _ _) | exact Nat.lt_of_le_of_lt (Nat.shiftRight_le _ _) (by assumption) | exact Nat.lt_of_le_of_lt Nat.and_le_right (by omega)) (by first | assumption | omega | rfl | exact decide_eq_false (by omega) | exact decide_eq_true (by assumption) | exact decide_eq_true (by omega) | exact one_shl33 (by omega) | exact pm_lt _ _ | exact rm_lt (by first | assumption | exact pm_lt _ _) | exact Nat.lt_of_le_of_lt (Nat.shiftRight_le _ _) (by assumption) | exact Nat.lt_of_le_of_lt Nat.and_le_right (by omega))) ml_X5_17 rfl ⟨Nat.le_of_ble_eq_true rfl, Nat.le_of_ble_eq_true rfl⟩ ⟨Nat.le_of_ble_eq_true rfl, Nat.le_of_ble_eq_true rfl⟩ hl (Nat.le_of_ble_eq_true rfl) rfl dX5_field_28 (fun H locs B => ?_)
      refine z_ifB_eq (tgt := 36) C dX5_field_31 (by decide) (fun h31 => ?_) (fun h31 => ?_)
      · have hp := pow_8 (d := n.toNat) (by omega)
        have e2 : 2 <<< n.toNat = 2 * 2 ^ n.toNat := Nat.shiftLeft_eq _ _
        have hp2 : 2 ^ n.toNat ≤ 32 := Nat.pow_le_pow_right (n := 2) (by omega) (by omega : n.toNat ≤ 5)
        refine z_lconst (k0 := 1) C dX5_field_36 rfl ?_
        refine lv_lstore_n (lv' := [(3, .long (lN (1))), (0, .ref o), (1, .int (iZ (n))), (2, .int (iZ (z)))]) C.1 C.2.1 dX5_field_37 rfl hl (by decide) rfl (fun ls hl => ?_)
        refine z_ldc2 C 2 (T0_of kl_X5_44 rfl) (by decide) dX5_field_38 ?_
        refine lv_lstore (lv' := [(5, .long (lN (2))), (3, .long (lN (1))), (0, .ref o), (1, .int (iZ (n))), (2, .int (iZ (z)))]) C.1 C.2.1 dX5_field_41 hl (by decide) rfl (fun ls hl => ?_)
        have L43 : ∀ (j : Nat) (f : Nat) (x3 : Nat) (x5 : Nat) (ls : Array Slot), f < j → (f + x5 = 2 <<< n.toNat ∨ (f = 0 ∧ 2 <<< n.toNat ≤ x5)) → (2 ≤ x5) → (x5 ≤ 100) → (x3 < 18446744073709551616) → (fiF n f x5 x3 = fi n) → lv_has ls 7 [(0, .ref o), (1, .int (iZ (n))), (2, .int (iZ (z))), (3, .long (lN (x3))), (5, .long (lN (x5)))] → W p l e { frames := 4, cells := 0, slots := 0, locals := 100 } s m (Value.ref o :: ([.int (iZ (n)), .int (iZ (z))] : List Value)).toArray below meth c0 H locs ((0 + 0) + 0) ((0 + 0) + 0) (zE1 below D 4 cJ o a (Value.ref o :: ([.int (iZ (n)), .int (iZ (z))] : List Value)).toArray s 0 0 (fun v => v = some (.int (iZ (aR c (z.toNat) (some (fi n)))))) (aC c (z.toNat) (some (fi n))) [.int (iZ (0)), .int (aA ac (some (fi n))), .int (aF re (some (fi n))), .int (kn)]) (F0 m 43 ls []) := by
          intro j
          induction j with
          | zero => intro f x3 x5 ls hmu; exact absurd hmu (Nat.not_lt_zero _)
          | succ j ih43 =>
            intro f x3 x5 ls hmu i43_0 i43_1 i43_2 i43_3 i43_4 hl
            have ht := tp_2 i43_1
            have ht2 := tp_rngE x5 (by omega)
            refine lv_lload C.1 C.2.1 dX5_field_43 (lv_at hl 4 rfl) ?_
            refine z_ldc2 C 2 (T0_of kl_X5_44 rfl) (by decide) dX5_field_45 ?_
            refine lv_iload_n C.1 C.2.1 dX5_field_48 rfl (lv_at hl 1 rfl) ?_
            refine z_lshl C ((n).toNat) (by omega) (by omega) dX5_field_49 ?_
            refine z_lc_ge (tgt := 88) C (by omega) (by omega) dX5_field_50 dX5_field_51 (by decide) (fun h50 => ?_) (fun h50 => ?_)
            · refine lv_aload_n C.1 C.2.1 dX5_field_88 rfl (lv_at hl 0 rfl) ?_
              refine lv_iload_n C.1 C.2.1 dX5_field_89 rfl (lv_at hl 2 rfl) ?_
              refine lv_lload_n C.1 C.2.1 dX5_field_90 rfl (lv_at hl 3 rfl) ?_
              refine zo_callD C B (r := some (.int (iZ (aR (c) (z).toNat (some (x3)))))) (c_X5_lay l D cJ o a (c) ((0)) (((ac))) (((re))) (((kn))) (z) (x3) (by omega) (by rw [show f = 0 by omega] at i43_4; have i9 : x3 = fi n := i43_4; rw [i9]; exact fi33 hn)) ml_X5_59 rfl ⟨Nat.le_of_ble_eq_true rfl, Nat.le_of_ble_eq_true rfl⟩ ⟨Nat.le_of_ble_eq_true rfl, Nat.le_of_ble_eq_true rfl⟩ hl (Nat.le_of_ble_eq_true rfl) rfl dX5_field_91 (fun H locs B => ?_)
              have q91_0 := aR_rng ((c)) (z).toNat (some (x3))
              have hw : (some (fi n)) = some (x3) := by rw [show f = 0 by omega] at i43_4; have i9 : x3 = fi n := i43_4; rw [i9]
              exact zo_iret C B hr hk (Nat.le_of_ble_eq_true rfl) (Nat.le_of_ble_eq_true rfl) dX5_field_94 (by show some _ = some _; rw [hw] <;> rfl) (by rw [hw] <;> rfl) (by rw [hw] <;> rfl)
            · refine lv_iload_n C.1 C.2.1 dX5_field_54 rfl (lv_at hl 1 rfl) ?_
              refine lv_lload C.1 C.2.1 dX5_field_55 (lv_at hl 4 rfl) ?_
              refine z_call C (c_X5_degreeOf l (x5) (by first | assumption | omega | rfl | exact decide_eq_false (by omega) | exact decide_eq_true (by assumption) | exact decide_eq_true (by omega) | exact one_shl33 (by omega) | exact pm_lt _ _ | exact rm_lt (by first | assumption | exact pm_lt _ _) | exact Nat.lt_of_le_of_lt (Nat.shiftRight_le _ _) (by assumption) | exact Nat.lt_of_le_of_lt Nat.and_le_right (by omega))) ml_X5_33 ⟨by decide, by decide⟩ ⟨Nat.le_of_ble_eq_true rfl, Nat.le_of_ble_eq_true rfl⟩ hl (Nat.le_of_ble_eq_true rfl) rfl dX5_field_57 ?_
              have q57_0 := tp_rngE (x5) (by first | assumption | omega | exact pm_lt _ _ | exact rm_lt (by assumption))
              refine z_irem C (by omega) (by omega) dX5_field_60 ?_
              refine z_if_ne (tgt := 79) C (by have := Int.emod_nonneg n (b := tp x5) (by omega); have := Int.emod_lt_of_pos n (b := tp x5) (by omega); omega) dX5_field_61 (by decide) (fun h61 => ?_) (fun h61 => ?_)
              · refine lv_lload C.1 C.2.1 dX5_field_79 (lv_at hl 4 rfl) ?_
                refine z_lconst (k0 := 1) C dX5_field_81 rfl ?_
                refine z_ladd C dX5_field_82 ?_
                refine lv_lstore (lv' := [(5, .long (lN ((x5) + (1)))), (0, .ref o), (1, .int (iZ (n))), (2, .int (iZ (z))), (3, .long (lN (x3)))]) C.1 C.2.1 dX5_field_83 hl (by decide) rfl (fun ls hl => ?_)
                refine lv_goto (tgt := 43) C.1 C.2.1 dX5_field_85 (by decide) ?_
                obtain ⟨f, rfl⟩ : ∃ g, f = g + 1 := ⟨f - 1, by omega⟩
                rw [fiF, if_neg (fun h => h61 h.1)] at i43_4
                exact ih43 (f) _ _ _ (by omega) (by omega) (by omega) (by omega) (by assumption) (by exact i43_4) (lv_sub hl [1, 2, 3, 4, 0] rfl)
              · refine lv_lload C.1 C.2.1 dX5_field_64 (lv_at hl 4 rfl) ?_
                refine z_call C (c_X5_isIrreducible l (x5) (by first | assumption | omega | rfl | exact decide_eq_false (by omega) | exact decide_eq_true (by assumption) | exact decide_eq_true (by omega) | exact one_shl33 (by omega) | exact pm_lt _ _ | exact rm_lt (by first | assumption | exact pm_lt _ _) | exact Nat.lt_of_le_of_lt (Nat.shiftRight_le _ _) (by assumption) | exact Nat.lt_of_le_of_lt Nat.and_le_right (by omega))) ml_X5_49 ⟨by decide, by decide⟩ ⟨Nat.le_of_ble_eq_true rfl, Nat.le_of_ble_eq_true rfl⟩ hl (Nat.le_of_ble_eq_true rfl) rfl dX5_field_66 ?_
                refine z_ifB_eq (tgt := 79) C dX5_field_69 (by decide) (fun h69 => ?_) (fun h69 => ?_)
                · refine lv_lload C.1 C.2.1 dX5_field_79 (lv_at hl 4 rfl) ?_
                  refine z_lconst (k0 := 1) C dX5_field_81 rfl ?_
                  refine z_ladd C dX5_field_82 ?_
                  refine lv_lstore (lv' := [(5, .long (lN ((x5) + (1)))), (0, .ref o), (1, .int (iZ (n))), (2, .int (iZ (z))), (3, .long (lN (x3)))]) C.1 C.2.1 dX5_field_83 hl (by decide) rfl (fun ls hl => ?_)
                  refine lv_goto (tgt := 43) C.1 C.2.1 dX5_field_85 (by decide) ?_
                  obtain ⟨f, rfl⟩ : ∃ g, f = g + 1 := ⟨f - 1, by omega⟩
                  rw [fiF, if_neg (fun h => absurd h.2 (by rw [h69]; decide))] at i43_4
                  exact ih43 (f) _ _ _ (by omega) (by omega) (by omega) (by omega) (by assumption) (by exact i43_4) (lv_sub hl [1, 2, 3, 4, 0] rfl)
                · refine lv_lload_n C.1 C.2.1 dX5_field_72 rfl (lv_at hl 3 rfl) ?_
                  refine lv_lload C.1 C.2.1 dX5_field_73 (lv_at hl 4 rfl) ?_
                  refine z_call C (c_X5_product l (x3) (x5) (by first | assumption | omega | rfl | exact decide_eq_false (by omega) | exact decide_eq_true (by assumption) | exact decide_eq_true (by omega) | exact one_shl33 (by omega) | exact pm_lt _ _ | exact rm_lt (by first | assumption | exact pm_lt _ _) | exact Nat.lt_of_le_of_lt (Nat.shiftRight_le _ _) (by assumption) | exact Nat.lt_of_le_of_lt Nat.and_le_right (by omega))) ml_X5_41 ⟨by decide, by decide⟩ ⟨Nat.le_of_ble_eq_true rfl, Nat.le_of_ble_eq_true rfl⟩ hl (Nat.le_of_ble_eq_true rfl) rfl dX5_field_75 ?_
                  refine lv_lstore_n (lv' := [(3, .long (lN (pm (x3) (x5)))), (0, .ref o), (1, .int (iZ (n))), (2, .int (iZ (z))), (5, .long (lN (x5)))]) C.1 C.2.1 dX5_field_78 rfl hl (by decide) rfl (fun ls hl => ?_)
                  refine lv_lload C.1 C.2.1 dX5_field_79 (lv_at hl 4 rfl) ?_
                  refine z_lconst (k0 := 1) C dX5_field_81 rfl ?_
                  refine z_ladd C dX5_field_82 ?_
                  refine lv_lstore (lv' := [(5, .long (lN ((x5) + (1)))), (3, .long (lN (pm (x3) (x5)))), (0, .ref o), (1, .int (iZ (n))), (2, .int (iZ (z)))]) C.1 C.2.1 dX5_field_83 hl (by decide) rfl (fun ls hl => ?_)
                  refine lv_goto (tgt := 43) C.1 C.2.1 dX5_field_85 (by decide) ?_
                  obtain ⟨f, rfl⟩ : ∃ g, f = g + 1 := ⟨f - 1, by omega⟩
                  rw [fiF, if_pos ⟨h61, h69⟩] at i43_4
                  exact ih43 (f) _ _ _ (by omega) (by omega) (by omega) (by omega) (by exact pm_lt _ _) (by exact i43_4) (lv_sub hl [2, 3, 4, 1, 0] rfl)
        exact L43 _ ((2 <<< n.toNat) - 2) _ _ _ (by exact Nat.lt_succ_self _) (by omega) (by omega) (by omega) (by omega) (by rfl) (lv_sub hl [2, 3, 4, 1, 0] rfl)
      · exact absurd h31 (by decide)
    · exact absurd (of_decide_eq_false h19) (by omega)

set_option maxHeartbeats 4000000 in
set_option maxRecDepth 100000 in
theorem c_X5_again (l : Launch) (D : va_G) (cJ : ClassId) (o a : Nat) (c : Nat → Nat) (th : Int) (ac : Int32) (re : Int32) (kn : Int32) (f : Int) (r : Int) (z : Int) (hf : 0 ≤ f ∧ f ≤ 5) (hr0 : 2 ≤ r ∧ r ≤ 36) (hz : 0 ≤ z ∧ z ≤ 5) : zA l yX5_again 2 67 0 0 D 4 cJ o a [.int (iZ (f)), .int (iZ (r)), .int (iZ (z))] c [.int (iZ (th)), .int (ac), .int (re), .int (kn)] (fun v => v = some (.int (iZ (aR c (z.toNat) (some (c f.toNat)))))) (aC c (z.toNat) (some (c f.toNat))) [.int (iZ (0)), .int (aA ac (some (c f.toNat))), .int (aF re (some (c f.toNat))), .int (kn)] := by
  refine zA.intro (lo := 44) (nA := 3) (own := RX5) zi_X5_again (by decide) rfl rfl (by decide +kernel) rfl (Nat.le_of_ble_eq_true rfl) ?_
  intro p e s m below meth c0 ls C hr hk B hl
  have hl : lv_has ls 4 [(0, .ref o), (1, .int (iZ (f))), (2, .int (iZ (r))), (3, .int (iZ (z)))] := hl
  refine lv_aload_n C.1 C.2.1 dX5_again_0 rfl (lv_at hl 0 rfl) ?_
  refine lv_iload_n C.1 C.2.1 dX5_again_1 rfl (lv_at hl 1 rfl) ?_
  refine z_call C (c_X5_isNo l (f) (by first | assumption | omega | rfl | exact decide_eq_false (by omega) | exact decide_eq_true (by assumption) | exact decide_eq_true (by omega) | exact one_shl33 (by omega) | exact pm_lt _ _ | exact rm_lt (by first | assumption | exact pm_lt _ _) | exact Nat.lt_of_le_of_lt (Nat.shiftRight_le _ _) (by assumption) | exact Nat.lt_of_le_of_lt Nat.and_le_right (by omega))) ml_X5_67 ⟨by decide, by decide⟩ ⟨Nat.le_of_ble_eq_true rfl, Nat.le_of_ble_eq_true rfl⟩ hl (Nat.le_of_ble_eq_true rfl) rfl dX5_again_2 ?_
  refine z_ifB_ne (tgt := 15) C dX5_again_5 (by decide) (fun h5 => ?_) (fun h5 => ?_)
  · exact absurd (of_decide_eq_true h5) (by omega)
  · refine lv_iload_n C.1 C.2.1 dX5_again_8 rfl (lv_at hl 3 rfl) ?_
    refine z_call C (c_X5_isNo l (z) (by first | assumption | omega | rfl | exact decide_eq_false (by omega) | exact decide_eq_true (by assumption) | exact decide_eq_true (by omega) | exact one_shl33 (by omega) | exact pm_lt _ _ | exact rm_lt (by first | assumption | exact pm_lt _ _) | exact Nat.lt_of_le_of_lt (Nat.shiftRight_le _ _) (by assumption) | exact Nat.lt_of_le_of_lt Nat.and_le_right (by omega))) ml_X5_67 ⟨by decide, by decide⟩ ⟨Nat.le_of_ble_eq_true rfl, Nat.le_of_ble_eq_true rfl⟩ hl (Nat.le_of_ble_eq_true rfl) rfl dX5_again_9 ?_
    refine z_ifB_eq (tgt := 19) C dX5_again_12 (by decide) (fun h12 => ?_) (fun h12 => ?_)
    · refine z_iconst C dX5_again_19 ?_
      refine z_iconst C dX5_again_20 ?_
      refine zo_callD C B (r := some (.int (iZ (zB (false))))) (c_X5_start_ok l D cJ o a (c) (th) (ac) (re) (kn) (false) (1 : Int) (by first | assumption | omega | rfl | exact decide_eq_false (by omega) | exact decide_eq_true (by assumption) | exact decide_eq_true (by omega) | exact one_shl33 (by omega) | exact pm_lt _ _ | exact rm_lt (by first | assumption | exact pm_lt _ _) | exact Nat.lt_of_le_of_lt (Nat.shiftRight_le _ _) (by assumption) | exact Nat.lt_of_le_of_lt Nat.and_le_right (by omega))) ml_X5_71 rfl ⟨Nat.le_of_ble_eq_true rfl, Nat.le_of_ble_eq_true rfl⟩ ⟨Nat.le_of_ble_eq_true rfl, Nat.le_of_ble_eq_true rfl⟩ hl (Nat.le_of_ble_eq_true rfl) rfl dX5_again_21 (fun H locs B => ?_)
      refine z_ifB_ne (tgt := 50) C dX5_again_24 (by decide) (fun h24 => ?_) (fun h24 => ?_)
      · exact absurd h24 (by decide)
      · refine lv_aload_n C.1 C.2.1 dX5_again_27 rfl (lv_at hl 0 rfl) ?_
        refine lv_iload_n C.1 C.2.1 dX5_again_28 rfl (lv_at hl 2 rfl) ?_
        refine z_iconst C dX5_again_29 ?_
        refine z_bipush C dX5_again_30 (by decide) ?_
        refine z_call C (c_X5_isIn l (r) (2 : Int) (36 : Int) (by first | assumption | omega | rfl | exact decide_eq_false (by omega) | exact decide_eq_true (by assumption) | exact decide_eq_true (by omega) | exact one_shl33 (by omega) | exact pm_lt _ _ | exact rm_lt (by first | assumption | exact pm_lt _ _) | exact Nat.lt_of_le_of_lt (Nat.shiftRight_le _ _) (by assumption) | exact Nat.lt_of_le_of_lt Nat.and_le_right (by omega)) (by first | assumption | omega | rfl | exact decide_eq_false (by omega) | exact decide_eq_true (by assumption) | exact decide_eq_true (by omega) | exact one_shl33 (by omega) | exact pm_lt _ _ | exact rm_lt (by first | assumption | exact pm_lt _ _) | exact Nat.lt_of_le_of_lt (Nat.shiftRight_le _ _) (by assumption) | exact Nat.lt_of_le_of_lt Nat.and_le_right (by omega)) (by first | assumption | omega | rfl | exact decide_eq_false (by omega) | exact decide_eq_true (by assumption) | exact decide_eq_true (by omega) | exact one_shl33 (by omega) | exact pm_lt _ _ | exact rm_lt (by first | assumption | exact pm_lt _ _) | exact Nat.lt_of_le_of_lt (Nat.shiftRight_le _ _) (by assumption) | exact Nat.lt_of_le_of_lt Nat.and_le_right (by omega))) ml_X5_21 ⟨by decide, by decide⟩ ⟨Nat.le_of_ble_eq_true rfl, Nat.le_of_ble_eq_true rfl⟩ hl (Nat.le_of_ble_eq_true rfl) rfl dX5_again_32 ?_
        refine z_ifB_ne (tgt := 42) C dX5_again_35 (by decide) (fun h35 => ?_) (fun h35 => ?_)
        · refine z_iconst C dX5_again_42 ?_
          refine z_iconst C dX5_again_43 ?_
          refine zo_callD C B (r := some (.int (iZ (zB (false))))) (c_X5_refuse_ok l D cJ o a (c) (0) ((ac)) ((re)) ((kn)) (false) (2 : Int) (by first | assumption | omega | rfl | exact decide_eq_false (by omega) | exact decide_eq_true (by assumption) | exact decide_eq_true (by omega) | exact one_shl33 (by omega) | exact pm_lt _ _ | exact rm_lt (by first | assumption | exact pm_lt _ _) | exact Nat.lt_of_le_of_lt (Nat.shiftRight_le _ _) (by assumption) | exact Nat.lt_of_le_of_lt Nat.and_le_right (by omega)) (by first | assumption | omega | rfl | exact decide_eq_false (by omega) | exact decide_eq_true (by assumption) | exact decide_eq_true (by omega) | exact one_shl33 (by omega) | exact pm_lt _ _ | exact rm_lt (by first | assumption | exact pm_lt _ _) | exact Nat.lt_of_le_of_lt (Nat.shiftRight_le _ _) (by assumption) | exact Nat.lt_of_le_of_lt Nat.and_le_right (by omega))) ml_X5_17 rfl ⟨Nat.le_of_ble_eq_true rfl, Nat.le_of_ble_eq_true rfl⟩ ⟨Nat.le_of_ble_eq_true rfl, Nat.le_of_ble_eq_true rfl⟩ hl (Nat.le_of_ble_eq_true rfl) rfl dX5_again_44 (fun H locs B => ?_)
          refine z_ifB_eq (tgt := 54) C dX5_again_47 (by decide) (fun h47 => ?_) (fun h47 => ?_)
          · refine lv_aload_n C.1 C.2.1 dX5_again_54 rfl (lv_at hl 0 rfl) ?_
            refine lv_iload_n C.1 C.2.1 dX5_again_55 rfl (lv_at hl 3 rfl) ?_
            refine lv_aload_n C.1 C.2.1 dX5_again_56 rfl (lv_at hl 0 rfl) ?_
            refine zo_get C B (Cn := RX5) (T := TX5) (N := 5) (v := .ref a) rfl inX5 0 (by decide) fl_X5_7 rfl rfl dX5_again_57 ?_
            refine lv_iload_n C.1 C.2.1 dX5_again_60 rfl (lv_at hl 1 rfl) ?_
            refine zo_lald C B ((f).toNat) (by omega) (by omega) dX5_again_61 ?_
            have q61 := B.1.2.2.2 ((f).toNat)
            refine zo_callD C B (r := some (.int (iZ (aR (c) (z).toNat (some (c ((f).toNat))))))) (c_X5_lay l D cJ o a (c) ((0)) (((ac))) (((re))) (((kn))) (z) (c ((f).toNat)) (by first | assumption | omega | rfl | exact decide_eq_false (by omega) | exact decide_eq_true (by assumption) | exact decide_eq_true (by omega) | exact one_shl33 (by omega) | exact pm_lt _ _ | exact rm_lt (by first | assumption | exact pm_lt _ _) | exact Nat.lt_of_le_of_lt (Nat.shiftRight_le _ _) (by assumption) | exact Nat.lt_of_le_of_lt Nat.and_le_right (by omega)) (by first | assumption | omega | rfl | exact decide_eq_false (by omega) | exact decide_eq_true (by assumption) | exact decide_eq_true (by omega) | exact one_shl33 (by omega) | exact pm_lt _ _ | exact rm_lt (by first | assumption | exact pm_lt _ _) | exact Nat.lt_of_le_of_lt (Nat.shiftRight_le _ _) (by assumption) | exact Nat.lt_of_le_of_lt Nat.and_le_right (by omega))) ml_X5_59 rfl ⟨Nat.le_of_ble_eq_true rfl, Nat.le_of_ble_eq_true rfl⟩ ⟨Nat.le_of_ble_eq_true rfl, Nat.le_of_ble_eq_true rfl⟩ hl (Nat.le_of_ble_eq_true rfl) rfl dX5_again_62 (fun H locs B => ?_)
            have q62_0 := aR_rng ((c)) (z).toNat (some (c ((f).toNat)))
            have hw : (some (c f.toNat)) = some (c ((f).toNat)) := by rfl
            exact zo_iret C B hr hk (Nat.le_of_ble_eq_true rfl) (Nat.le_of_ble_eq_true rfl) dX5_again_65 (by show some _ = some _; rw [hw] <;> rfl) (by rw [hw] <;> rfl) (by rw [hw] <;> rfl)
          · exact absurd h47 (by decide)
        · exact absurd (of_decide_eq_false h35) (by omega)
    · exact absurd (of_decide_eq_true h12) (by omega)

set_option maxHeartbeats 4000000 in
set_option maxRecDepth 100000 in
theorem c_X5_degree (l : Launch) (D : va_G) (cJ : ClassId) (o a : Nat) (c : Nat → Nat) (th : Int) (ac : Int32) (re : Int32) (kn : Int32) (z : Int) (hz : 0 ≤ z ∧ z ≤ 5) : zA l yX5_degree 2 65 0 0 D 4 cJ o a [.int (iZ (z))] c [.int (iZ (th)), .int (ac), .int (re), .int (kn)] (fun v => v = some (.int (iZ (tp (c z.toNat))))) (c) [.int (iZ (0)), .int (ac), .int (re), .int (kn)] := by
  refine zA.intro (lo := 44) (nA := 1) (own := RX5) zi_X5_degree (by decide) rfl rfl (by decide +kernel) rfl (Nat.le_of_ble_eq_true rfl) ?_
  intro p e s m below meth c0 ls C hr hk B hl
  have hl : lv_has ls 2 [(0, .ref o), (1, .int (iZ (z)))] := hl
  refine lv_aload_n C.1 C.2.1 dX5_degree_0 rfl (lv_at hl 0 rfl) ?_
  refine lv_iload_n C.1 C.2.1 dX5_degree_1 rfl (lv_at hl 1 rfl) ?_
  refine z_call C (c_X5_isNo l (z) (by first | assumption | omega | rfl | exact decide_eq_false (by omega) | exact decide_eq_true (by assumption) | exact decide_eq_true (by omega) | exact one_shl33 (by omega) | exact pm_lt _ _ | exact rm_lt (by first | assumption | exact pm_lt _ _) | exact Nat.lt_of_le_of_lt (Nat.shiftRight_le _ _) (by assumption) | exact Nat.lt_of_le_of_lt Nat.and_le_right (by omega))) ml_X5_67 ⟨by decide, by decide⟩ ⟨Nat.le_of_ble_eq_true rfl, Nat.le_of_ble_eq_true rfl⟩ hl (Nat.le_of_ble_eq_true rfl) rfl dX5_degree_2 ?_
  refine z_iconst C dX5_degree_5 ?_
  refine zo_callD C B (r := some (.int (iZ (zB (false))))) (c_X5_start_ok l D cJ o a (c) (th) (ac) (re) (kn) (decide (¬ (0 ≤ (z) ∧ (z) ≤ 5))) (1 : Int) (by first | assumption | omega | rfl | exact decide_eq_false (by omega) | exact decide_eq_true (by assumption) | exact decide_eq_true (by omega) | exact one_shl33 (by omega) | exact pm_lt _ _ | exact rm_lt (by first | assumption | exact pm_lt _ _) | exact Nat.lt_of_le_of_lt (Nat.shiftRight_le _ _) (by assumption) | exact Nat.lt_of_le_of_lt Nat.and_le_right (by omega))) ml_X5_71 rfl ⟨Nat.le_of_ble_eq_true rfl, Nat.le_of_ble_eq_true rfl⟩ ⟨Nat.le_of_ble_eq_true rfl, Nat.le_of_ble_eq_true rfl⟩ hl (Nat.le_of_ble_eq_true rfl) rfl dX5_degree_6 (fun H locs B => ?_)
  refine z_ifB_eq (tgt := 16) C dX5_degree_9 (by decide) (fun h9 => ?_) (fun h9 => ?_)
  · refine lv_aload_n C.1 C.2.1 dX5_degree_16 rfl (lv_at hl 0 rfl) ?_
    refine zo_get C B (Cn := RX5) (T := TX5) (N := 5) (v := .ref a) rfl inX5 0 (by decide) fl_X5_7 rfl rfl dX5_degree_17 ?_
    refine lv_iload_n C.1 C.2.1 dX5_degree_20 rfl (lv_at hl 1 rfl) ?_
    refine zo_lald C B ((z).toNat) (by omega) (by omega) dX5_degree_21 ?_
    have q21 := B.1.2.2.2 ((z).toNat)
    refine z_call C (c_X5_degreeOf l (c ((z).toNat)) (by first | assumption | omega | rfl | exact decide_eq_false (by omega) | exact decide_eq_true (by assumption) | exact decide_eq_true (by omega) | exact one_shl33 (by omega) | exact pm_lt _ _ | exact rm_lt (by first | assumption | exact pm_lt _ _) | exact Nat.lt_of_le_of_lt (Nat.shiftRight_le _ _) (by assumption) | exact Nat.lt_of_le_of_lt Nat.and_le_right (by omega))) ml_X5_33 ⟨by decide, by decide⟩ ⟨Nat.le_of_ble_eq_true rfl, Nat.le_of_ble_eq_true rfl⟩ hl (Nat.le_of_ble_eq_true rfl) rfl dX5_degree_22 ?_
    have q22_0 := tp_rngE (c ((z).toNat)) (by first | assumption | omega | exact pm_lt _ _ | exact rm_lt (by assumption))
    exact zo_iret C B hr hk (Nat.le_of_ble_eq_true rfl) (Nat.le_of_ble_eq_true rfl) dX5_degree_25 (by exact congrArg (fun z : Int => some (Value.int (iZ z))) (by rfl)) (by rfl) (by rfl)
  · exact absurd h9 (by decide)

set_option maxHeartbeats 4000000 in
set_option maxRecDepth 100000 in
theorem c_X5_low (l : Launch) (D : va_G) (cJ : ClassId) (o a : Nat) (c : Nat → Nat) (th : Int) (ac : Int32) (re : Int32) (kn : Int32) (z : Int) (hz : 0 ≤ z ∧ z ≤ 5) : zA l yX5_low 2 65 0 0 D 4 cJ o a [.int (iZ (z))] c [.int (iZ (th)), .int (ac), .int (re), .int (kn)] (fun v => v = some (.int (iZ (bpF (c z.toNat) 33 0)))) (c) [.int (iZ (0)), .int (ac), .int (re), .int (kn)] := by
  refine zA.intro (lo := 44) (nA := 1) (own := RX5) zi_X5_low (by decide) rfl rfl (by decide +kernel) rfl (Nat.le_of_ble_eq_true rfl) ?_
  intro p e s m below meth c0 ls C hr hk B hl
  have hl : lv_has ls 2 [(0, .ref o), (1, .int (iZ (z)))] := hl
  refine lv_aload_n C.1 C.2.1 dX5_low_0 rfl (lv_at hl 0 rfl) ?_
  refine lv_iload_n C.1 C.2.1 dX5_low_1 rfl (lv_at hl 1 rfl) ?_
  refine z_call C (c_X5_isNo l (z) (by first | assumption | omega | rfl | exact decide_eq_false (by omega) | exact decide_eq_true (by assumption) | exact decide_eq_true (by omega) | exact one_shl33 (by omega) | exact pm_lt _ _ | exact rm_lt (by first | assumption | exact pm_lt _ _) | exact Nat.lt_of_le_of_lt (Nat.shiftRight_le _ _) (by assumption) | exact Nat.lt_of_le_of_lt Nat.and_le_right (by omega))) ml_X5_67 ⟨by decide, by decide⟩ ⟨Nat.le_of_ble_eq_true rfl, Nat.le_of_ble_eq_true rfl⟩ hl (Nat.le_of_ble_eq_true rfl) rfl dX5_low_2 ?_
  refine z_iconst C dX5_low_5 ?_
  refine zo_callD C B (r := some (.int (iZ (zB (false))))) (c_X5_start_ok l D cJ o a (c) (th) (ac) (re) (kn) (decide (¬ (0 ≤ (z) ∧ (z) ≤ 5))) (1 : Int) (by first | assumption | omega | rfl | exact decide_eq_false (by omega) | exact decide_eq_true (by assumption) | exact decide_eq_true (by omega) | exact one_shl33 (by omega) | exact pm_lt _ _ | exact rm_lt (by first | assumption | exact pm_lt _ _) | exact Nat.lt_of_le_of_lt (Nat.shiftRight_le _ _) (by assumption) | exact Nat.lt_of_le_of_lt Nat.and_le_right (by omega))) ml_X5_71 rfl ⟨Nat.le_of_ble_eq_true rfl, Nat.le_of_ble_eq_true rfl⟩ ⟨Nat.le_of_ble_eq_true rfl, Nat.le_of_ble_eq_true rfl⟩ hl (Nat.le_of_ble_eq_true rfl) rfl dX5_low_6 (fun H locs B => ?_)
  refine z_ifB_eq (tgt := 16) C dX5_low_9 (by decide) (fun h9 => ?_) (fun h9 => ?_)
  · refine lv_aload_n C.1 C.2.1 dX5_low_16 rfl (lv_at hl 0 rfl) ?_
    refine zo_get C B (Cn := RX5) (T := TX5) (N := 5) (v := .ref a) rfl inX5 0 (by decide) fl_X5_7 rfl rfl dX5_low_17 ?_
    refine lv_iload_n C.1 C.2.1 dX5_low_20 rfl (lv_at hl 1 rfl) ?_
    refine zo_lald C B ((z).toNat) (by omega) (by omega) dX5_low_21 ?_
    have q21 := B.1.2.2.2 ((z).toNat)
    refine z_call C (c_X5_lowOf l (c ((z).toNat)) (by first | assumption | omega | rfl | exact decide_eq_false (by omega) | exact decide_eq_true (by assumption) | exact decide_eq_true (by omega) | exact one_shl33 (by omega) | exact pm_lt _ _ | exact rm_lt (by first | assumption | exact pm_lt _ _) | exact Nat.lt_of_le_of_lt (Nat.shiftRight_le _ _) (by assumption) | exact Nat.lt_of_le_of_lt Nat.and_le_right (by omega))) ml_X5_105 ⟨by decide, by decide⟩ ⟨Nat.le_of_ble_eq_true rfl, Nat.le_of_ble_eq_true rfl⟩ hl (Nat.le_of_ble_eq_true rfl) rfl dX5_low_22 ?_
    have q22_0 := bp33 (c ((z).toNat))
    exact zo_iret C B hr hk (Nat.le_of_ble_eq_true rfl) (Nat.le_of_ble_eq_true rfl) dX5_low_25 (by exact congrArg (fun z : Int => some (Value.int (iZ z))) (by rfl)) (by rfl) (by rfl)
  · exact absurd h9 (by decide)

set_option maxHeartbeats 4000000 in
set_option maxRecDepth 100000 in
theorem c_X5_weight (l : Launch) (D : va_G) (cJ : ClassId) (o a : Nat) (c : Nat → Nat) (th : Int) (ac : Int32) (re : Int32) (kn : Int32) (z : Int) (hz : 0 ≤ z ∧ z ≤ 5) : zA l yX5_weight 2 66 0 0 D 4 cJ o a [.int (iZ (z))] c [.int (iZ (th)), .int (ac), .int (re), .int (kn)] (fun v => v = some (.int (iZ (wt (c z.toNat) 33)))) (c) [.int (iZ (0)), .int (ac), .int (re), .int (kn)] := by
  refine zA.intro (lo := 45) (nA := 1) (own := RX5) zi_X5_weight (by decide) rfl rfl (by decide +kernel) rfl (Nat.le_of_ble_eq_true rfl) ?_
  intro p e s m below meth c0 ls C hr hk B hl
  have hl : lv_has ls 2 [(0, .ref o), (1, .int (iZ (z)))] := hl
  refine lv_aload_n C.1 C.2.1 dX5_weight_0 rfl (lv_at hl 0 rfl) ?_
  refine lv_iload_n C.1 C.2.1 dX5_weight_1 rfl (lv_at hl 1 rfl) ?_
  refine z_call C (c_X5_isNo l (z) (by first | assumption | omega | rfl | exact decide_eq_false (by omega) | exact decide_eq_true (by assumption) | exact decide_eq_true (by omega) | exact one_shl33 (by omega) | exact pm_lt _ _ | exact rm_lt (by first | assumption | exact pm_lt _ _) | exact Nat.lt_of_le_of_lt (Nat.shiftRight_le _ _) (by assumption) | exact Nat.lt_of_le_of_lt Nat.and_le_right (by omega))) ml_X5_67 ⟨by decide, by decide⟩ ⟨Nat.le_of_ble_eq_true rfl, Nat.le_of_ble_eq_true rfl⟩ hl (Nat.le_of_ble_eq_true rfl) rfl dX5_weight_2 ?_
  refine z_iconst C dX5_weight_5 ?_
  refine zo_callD C B (r := some (.int (iZ (zB (false))))) (c_X5_start_ok l D cJ o a (c) (th) (ac) (re) (kn) (decide (¬ (0 ≤ (z) ∧ (z) ≤ 5))) (1 : Int) (by first | assumption | omega | rfl | exact decide_eq_false (by omega) | exact decide_eq_true (by assumption) | exact decide_eq_true (by omega) | exact one_shl33 (by omega) | exact pm_lt _ _ | exact rm_lt (by first | assumption | exact pm_lt _ _) | exact Nat.lt_of_le_of_lt (Nat.shiftRight_le _ _) (by assumption) | exact Nat.lt_of_le_of_lt Nat.and_le_right (by omega))) ml_X5_71 rfl ⟨Nat.le_of_ble_eq_true rfl, Nat.le_of_ble_eq_true rfl⟩ ⟨Nat.le_of_ble_eq_true rfl, Nat.le_of_ble_eq_true rfl⟩ hl (Nat.le_of_ble_eq_true rfl) rfl dX5_weight_6 (fun H locs B => ?_)
  refine z_ifB_eq (tgt := 16) C dX5_weight_9 (by decide) (fun h9 => ?_) (fun h9 => ?_)
  · refine lv_aload_n C.1 C.2.1 dX5_weight_16 rfl (lv_at hl 0 rfl) ?_
    refine zo_get C B (Cn := RX5) (T := TX5) (N := 5) (v := .ref a) rfl inX5 0 (by decide) fl_X5_7 rfl rfl dX5_weight_17 ?_
    refine lv_iload_n C.1 C.2.1 dX5_weight_20 rfl (lv_at hl 1 rfl) ?_
    refine zo_lald C B ((z).toNat) (by omega) (by omega) dX5_weight_21 ?_
    have q21 := B.1.2.2.2 ((z).toNat)
    refine z_call C (c_X5_weightOf l (c ((z).toNat)) (by first | assumption | omega | rfl | exact decide_eq_false (by omega) | exact decide_eq_true (by assumption) | exact decide_eq_true (by omega) | exact one_shl33 (by omega) | exact pm_lt _ _ | exact rm_lt (by first | assumption | exact pm_lt _ _) | exact Nat.lt_of_le_of_lt (Nat.shiftRight_le _ _) (by assumption) | exact Nat.lt_of_le_of_lt Nat.and_le_right (by omega))) ml_X5_108 ⟨by decide, by decide⟩ ⟨Nat.le_of_ble_eq_true rfl, Nat.le_of_ble_eq_true rfl⟩ hl (Nat.le_of_ble_eq_true rfl) rfl dX5_weight_22 ?_
    have q22_0 := wt_rngE (c ((z).toNat))
    exact zo_iret C B hr hk (Nat.le_of_ble_eq_true rfl) (Nat.le_of_ble_eq_true rfl) dX5_weight_25 (by exact congrArg (fun z : Int => some (Value.int (iZ z))) (by rfl)) (by rfl) (by rfl)
  · exact absurd h9 (by decide)

set_option maxHeartbeats 4000000 in
set_option maxRecDepth 100000 in
theorem c_X5_digits (l : Launch) (D : va_G) (cJ : ClassId) (o a : Nat) (c : Nat → Nat) (th : Int) (ac : Int32) (re : Int32) (kn : Int32) (z : Int) (hz : 0 ≤ z ∧ z ≤ 5) : zA l yX5_digits 2 65 0 0 D 4 cJ o a [.int (iZ (z))] c [.int (iZ (th)), .int (ac), .int (re), .int (kn)] (fun v => v = some (.int (iZ (((c z.toNat : Nat) : Int))))) (c) [.int (iZ (0)), .int (ac), .int (re), .int (kn)] := by
  refine zA.intro (lo := 44) (nA := 1) (own := RX5) zi_X5_digits (by decide) rfl rfl (by decide +kernel) rfl (Nat.le_of_ble_eq_true rfl) ?_
  intro p e s m below meth c0 ls C hr hk B hl
  have hl : lv_has ls 2 [(0, .ref o), (1, .int (iZ (z)))] := hl
  refine lv_aload_n C.1 C.2.1 dX5_digits_0 rfl (lv_at hl 0 rfl) ?_
  refine lv_iload_n C.1 C.2.1 dX5_digits_1 rfl (lv_at hl 1 rfl) ?_
  refine z_call C (c_X5_isNo l (z) (by first | assumption | omega | rfl | exact decide_eq_false (by omega) | exact decide_eq_true (by assumption) | exact decide_eq_true (by omega) | exact one_shl33 (by omega) | exact pm_lt _ _ | exact rm_lt (by first | assumption | exact pm_lt _ _) | exact Nat.lt_of_le_of_lt (Nat.shiftRight_le _ _) (by assumption) | exact Nat.lt_of_le_of_lt Nat.and_le_right (by omega))) ml_X5_67 ⟨by decide, by decide⟩ ⟨Nat.le_of_ble_eq_true rfl, Nat.le_of_ble_eq_true rfl⟩ hl (Nat.le_of_ble_eq_true rfl) rfl dX5_digits_2 ?_
  refine z_iconst C dX5_digits_5 ?_
  refine zo_callD C B (r := some (.int (iZ (zB (false))))) (c_X5_start_ok l D cJ o a (c) (th) (ac) (re) (kn) (decide (¬ (0 ≤ (z) ∧ (z) ≤ 5))) (1 : Int) (by first | assumption | omega | rfl | exact decide_eq_false (by omega) | exact decide_eq_true (by assumption) | exact decide_eq_true (by omega) | exact one_shl33 (by omega) | exact pm_lt _ _ | exact rm_lt (by first | assumption | exact pm_lt _ _) | exact Nat.lt_of_le_of_lt (Nat.shiftRight_le _ _) (by assumption) | exact Nat.lt_of_le_of_lt Nat.and_le_right (by omega))) ml_X5_71 rfl ⟨Nat.le_of_ble_eq_true rfl, Nat.le_of_ble_eq_true rfl⟩ ⟨Nat.le_of_ble_eq_true rfl, Nat.le_of_ble_eq_true rfl⟩ hl (Nat.le_of_ble_eq_true rfl) rfl dX5_digits_6 (fun H locs B => ?_)
  refine z_ifB_eq (tgt := 16) C dX5_digits_9 (by decide) (fun h9 => ?_) (fun h9 => ?_)
  · refine lv_aload_n C.1 C.2.1 dX5_digits_16 rfl (lv_at hl 0 rfl) ?_
    refine zo_get C B (Cn := RX5) (T := TX5) (N := 5) (v := .ref a) rfl inX5 0 (by decide) fl_X5_7 rfl rfl dX5_digits_17 ?_
    refine lv_iload_n C.1 C.2.1 dX5_digits_20 rfl (lv_at hl 1 rfl) ?_
    refine zo_lald C B ((z).toNat) (by omega) (by omega) dX5_digits_21 ?_
    have q21 := B.1.2.2.2 ((z).toNat)
    refine z_l2i C dX5_digits_22 ?_
    exact zo_iret C B hr hk (Nat.le_of_ble_eq_true rfl) (Nat.le_of_ble_eq_true rfl) dX5_digits_23 (by exact congrArg (fun z : Int => some (Value.int (iZ z))) (by rfl)) (by rfl) (by rfl)
  · exact absurd h9 (by decide)

set_option maxHeartbeats 4000000 in
set_option maxRecDepth 100000 in
theorem c_X5_at (l : Launch) (D : va_G) (cJ : ClassId) (o a : Nat) (c : Nat → Nat) (th : Int) (ac : Int32) (re : Int32) (kn : Int32) (z : Int) (g : Int) (hz : 0 ≤ z ∧ z ≤ 5) (hg : 0 ≤ g ∧ g ≤ 99) : zA l yX5_at 2 66 0 0 D 4 cJ o a [.int (iZ (z)), .int (iZ (g))] c [.int (iZ (th)), .int (ac), .int (re), .int (kn)] (fun v => v = some (.int (iZ (zB (tb (c z.toNat) g))))) (c) [.int (iZ (0)), .int (ac), .int (re), .int (kn)] := by
  refine zA.intro (lo := 44) (nA := 2) (own := RX5) zi_X5_at (by decide) rfl rfl (by decide +kernel) rfl (Nat.le_of_ble_eq_true rfl) ?_
  intro p e s m below meth c0 ls C hr hk B hl
  have hl : lv_has ls 3 [(0, .ref o), (1, .int (iZ (z))), (2, .int (iZ (g)))] := hl
  refine lv_aload_n C.1 C.2.1 dX5_at_0 rfl (lv_at hl 0 rfl) ?_
  refine lv_iload_n C.1 C.2.1 dX5_at_1 rfl (lv_at hl 1 rfl) ?_
  refine z_call C (c_X5_isNo l (z) (by first | assumption | omega | rfl | exact decide_eq_false (by omega) | exact decide_eq_true (by assumption) | exact decide_eq_true (by omega) | exact one_shl33 (by omega) | exact pm_lt _ _ | exact rm_lt (by first | assumption | exact pm_lt _ _) | exact Nat.lt_of_le_of_lt (Nat.shiftRight_le _ _) (by assumption) | exact Nat.lt_of_le_of_lt Nat.and_le_right (by omega))) ml_X5_67 ⟨by decide, by decide⟩ ⟨Nat.le_of_ble_eq_true rfl, Nat.le_of_ble_eq_true rfl⟩ hl (Nat.le_of_ble_eq_true rfl) rfl dX5_at_2 ?_
  refine z_iconst C dX5_at_5 ?_
  refine zo_callD C B (r := some (.int (iZ (zB (false))))) (c_X5_start_ok l D cJ o a (c) (th) (ac) (re) (kn) (decide (¬ (0 ≤ (z) ∧ (z) ≤ 5))) (1 : Int) (by first | assumption | omega | rfl | exact decide_eq_false (by omega) | exact decide_eq_true (by assumption) | exact decide_eq_true (by omega) | exact one_shl33 (by omega) | exact pm_lt _ _ | exact rm_lt (by first | assumption | exact pm_lt _ _) | exact Nat.lt_of_le_of_lt (Nat.shiftRight_le _ _) (by assumption) | exact Nat.lt_of_le_of_lt Nat.and_le_right (by omega))) ml_X5_71 rfl ⟨Nat.le_of_ble_eq_true rfl, Nat.le_of_ble_eq_true rfl⟩ ⟨Nat.le_of_ble_eq_true rfl, Nat.le_of_ble_eq_true rfl⟩ hl (Nat.le_of_ble_eq_true rfl) rfl dX5_at_6 (fun H locs B => ?_)
  refine z_ifB_ne (tgt := 52) C dX5_at_9 (by decide) (fun h9 => ?_) (fun h9 => ?_)
  · exact absurd h9 (by decide)
  · refine lv_aload_n C.1 C.2.1 dX5_at_12 rfl (lv_at hl 0 rfl) ?_
    refine lv_iload_n C.1 C.2.1 dX5_at_13 rfl (lv_at hl 2 rfl) ?_
    refine z_iconst C dX5_at_14 ?_
    refine z_bipush C dX5_at_15 (by decide) ?_
    refine z_call C (c_X5_isIn l (g) (0 : Int) (99 : Int) (by first | assumption | omega | rfl | exact decide_eq_false (by omega) | exact decide_eq_true (by assumption) | exact decide_eq_true (by omega) | exact one_shl33 (by omega) | exact pm_lt _ _ | exact rm_lt (by first | assumption | exact pm_lt _ _) | exact Nat.lt_of_le_of_lt (Nat.shiftRight_le _ _) (by assumption) | exact Nat.lt_of_le_of_lt Nat.and_le_right (by omega)) (by first | assumption | omega | rfl | exact decide_eq_false (by omega) | exact decide_eq_true (by assumption) | exact decide_eq_true (by omega) | exact one_shl33 (by omega) | exact pm_lt _ _ | exact rm_lt (by first | assumption | exact pm_lt _ _) | exact Nat.lt_of_le_of_lt (Nat.shiftRight_le _ _) (by assumption) | exact Nat.lt_of_le_of_lt Nat.and_le_right (by omega)) (by first | assumption | omega | rfl | exact decide_eq_false (by omega) | exact decide_eq_true (by assumption) | exact decide_eq_true (by omega) | exact one_shl33 (by omega) | exact pm_lt _ _ | exact rm_lt (by first | assumption | exact pm_lt _ _) | exact Nat.lt_of_le_of_lt (Nat.shiftRight_le _ _) (by assumption) | exact Nat.lt_of_le_of_lt Nat.and_le_right (by omega))) ml_X5_21 ⟨by decide, by decide⟩ ⟨Nat.le_of_ble_eq_true rfl, Nat.le_of_ble_eq_true rfl⟩ hl (Nat.le_of_ble_eq_true rfl) rfl dX5_at_17 ?_
    refine z_ifB_ne (tgt := 27) C dX5_at_20 (by decide) (fun h20 => ?_) (fun h20 => ?_)
    · refine z_iconst C dX5_at_27 ?_
      refine z_iconst C dX5_at_28 ?_
      refine zo_callD C B (r := some (.int (iZ (zB (false))))) (c_X5_refuse_ok l D cJ o a (c) (0) ((ac)) ((re)) ((kn)) (false) (2 : Int) (by first | assumption | omega | rfl | exact decide_eq_false (by omega) | exact decide_eq_true (by assumption) | exact decide_eq_true (by omega) | exact one_shl33 (by omega) | exact pm_lt _ _ | exact rm_lt (by first | assumption | exact pm_lt _ _) | exact Nat.lt_of_le_of_lt (Nat.shiftRight_le _ _) (by assumption) | exact Nat.lt_of_le_of_lt Nat.and_le_right (by omega)) (by first | assumption | omega | rfl | exact decide_eq_false (by omega) | exact decide_eq_true (by assumption) | exact decide_eq_true (by omega) | exact one_shl33 (by omega) | exact pm_lt _ _ | exact rm_lt (by first | assumption | exact pm_lt _ _) | exact Nat.lt_of_le_of_lt (Nat.shiftRight_le _ _) (by assumption) | exact Nat.lt_of_le_of_lt Nat.and_le_right (by omega))) ml_X5_17 rfl ⟨Nat.le_of_ble_eq_true rfl, Nat.le_of_ble_eq_true rfl⟩ ⟨Nat.le_of_ble_eq_true rfl, Nat.le_of_ble_eq_true rfl⟩ hl (Nat.le_of_ble_eq_true rfl) rfl dX5_at_29 (fun H locs B => ?_)
      refine z_ifB_ne (tgt := 52) C dX5_at_32 (by decide) (fun h32 => ?_) (fun h32 => ?_)
      · exact absurd h32 (by decide)
      · refine lv_aload_n C.1 C.2.1 dX5_at_35 rfl (lv_at hl 0 rfl) ?_
        refine zo_get C B (Cn := RX5) (T := TX5) (N := 5) (v := .ref a) rfl inX5 0 (by decide) fl_X5_7 rfl rfl dX5_at_36 ?_
        refine lv_iload_n C.1 C.2.1 dX5_at_39 rfl (lv_at hl 1 rfl) ?_
        refine zo_lald C B ((z).toNat) (by omega) (by omega) dX5_at_40 ?_
        have q40 := B.1.2.2.2 ((z).toNat)
        refine lv_iload_n C.1 C.2.1 dX5_at_41 rfl (lv_at hl 2 rfl) ?_
        refine z_call C (c_X5_has l (c ((z).toNat)) (g) (by first | assumption | omega | rfl | exact decide_eq_false (by omega) | exact decide_eq_true (by assumption) | exact decide_eq_true (by omega) | exact one_shl33 (by omega) | exact pm_lt _ _ | exact rm_lt (by first | assumption | exact pm_lt _ _) | exact Nat.lt_of_le_of_lt (Nat.shiftRight_le _ _) (by assumption) | exact Nat.lt_of_le_of_lt Nat.and_le_right (by omega)) (by first | assumption | omega | rfl | exact decide_eq_false (by omega) | exact decide_eq_true (by assumption) | exact decide_eq_true (by omega) | exact one_shl33 (by omega) | exact pm_lt _ _ | exact rm_lt (by first | assumption | exact pm_lt _ _) | exact Nat.lt_of_le_of_lt (Nat.shiftRight_le _ _) (by assumption) | exact Nat.lt_of_le_of_lt Nat.and_le_right (by omega))) ml_X5_25 ⟨by decide, by decide⟩ ⟨Nat.le_of_ble_eq_true rfl, Nat.le_of_ble_eq_true rfl⟩ hl (Nat.le_of_ble_eq_true rfl) rfl dX5_at_42 ?_
        refine z_ifB_eq (tgt := 52) C dX5_at_45 (by decide) (fun h45 => ?_) (fun h45 => ?_)
        · refine z_iconst C dX5_at_52 ?_
          exact zo_zret C B hr hk (Nat.le_of_ble_eq_true rfl) (Nat.le_of_ble_eq_true rfl) dX5_at_53 (by decide) (by exact congrArg (fun z : Int => some (Value.int (iZ z))) (by exact zB_f h45)) (by rfl) (by rfl)
        · refine z_iconst C dX5_at_48 ?_
          refine lv_goto (tgt := 53) C.1 C.2.1 dX5_at_49 (by decide) ?_
          exact zo_zret C B hr hk (Nat.le_of_ble_eq_true rfl) (Nat.le_of_ble_eq_true rfl) dX5_at_53 (by decide) (by exact congrArg (fun z : Int => some (Value.int (iZ z))) (by exact zB_t h45)) (by rfl) (by rfl)
    · exact absurd (of_decide_eq_false h20) (by omega)

set_option maxHeartbeats 4000000 in
set_option maxRecDepth 100000 in
theorem c_X5_side (l : Launch) (D : va_G) (cJ : ClassId) (o a : Nat) (c : Nat → Nat) (th : Int) (ac : Int32) (re : Int32) (kn : Int32) (f : Int) (z : Int) (hf : 0 ≤ f ∧ f ≤ 5) (hz : 0 ≤ z ∧ z ≤ 5) : zA l yX5_side 1 42 0 0 D 4 cJ o a [.int (iZ (f)), .int (iZ (z))] c [.int (iZ (th)), .int (ac), .int (re), .int (kn)] (fun v => v = some (.int (iZ (zB (decide (c z.toNat < c f.toNat)) - zB (decide (c f.toNat < c z.toNat)))))) (c) [.int (iZ (th)), .int (ac), .int (re), .int (kn)] := by
  refine zA.intro (lo := 20) (nA := 2) (own := RX5) zi_X5_side (by decide) rfl rfl (by decide +kernel) rfl (Nat.le_of_ble_eq_true rfl) ?_
  intro p e s m below meth c0 ls C hr hk B hl
  have hl : lv_has ls 3 [(0, .ref o), (1, .int (iZ (f))), (2, .int (iZ (z)))] := hl
  refine lv_aload_n C.1 C.2.1 dX5_side_0 rfl (lv_at hl 0 rfl) ?_
  refine zo_get C B (Cn := RX5) (T := TX5) (N := 5) (v := .ref a) rfl inX5 0 (by decide) fl_X5_7 rfl rfl dX5_side_1 ?_
  refine lv_iload_n C.1 C.2.1 dX5_side_4 rfl (lv_at hl 1 rfl) ?_
  refine zo_lald C B ((f).toNat) (by omega) (by omega) dX5_side_5 ?_
  have q5 := B.1.2.2.2 ((f).toNat)
  refine lv_aload_n C.1 C.2.1 dX5_side_6 rfl (lv_at hl 0 rfl) ?_
  refine zo_get C B (Cn := RX5) (T := TX5) (N := 5) (v := .ref a) rfl inX5 0 (by decide) fl_X5_7 rfl rfl dX5_side_7 ?_
  refine lv_iload_n C.1 C.2.1 dX5_side_10 rfl (lv_at hl 2 rfl) ?_
  refine zo_lald C B ((z).toNat) (by omega) (by omega) dX5_side_11 ?_
  have q11 := B.1.2.2.2 ((z).toNat)
  refine z_lc_le (tgt := 20) C (by first | assumption | omega | rfl | exact decide_eq_false (by omega) | exact decide_eq_true (by assumption) | exact decide_eq_true (by omega) | exact one_shl33 (by omega) | exact pm_lt _ _ | exact rm_lt (by first | assumption | exact pm_lt _ _) | exact Nat.lt_of_le_of_lt (Nat.shiftRight_le _ _) (by assumption) | exact Nat.lt_of_le_of_lt Nat.and_le_right (by omega)) (by first | assumption | omega | rfl | exact decide_eq_false (by omega) | exact decide_eq_true (by assumption) | exact decide_eq_true (by omega) | exact one_shl33 (by omega) | exact pm_lt _ _ | exact rm_lt (by first | assumption | exact pm_lt _ _) | exact Nat.lt_of_le_of_lt (Nat.shiftRight_le _ _) (by assumption) | exact Nat.lt_of_le_of_lt Nat.and_le_right (by omega)) dX5_side_12 dX5_side_13 (by decide) (fun h12 => ?_) (fun h12 => ?_)
  · refine z_iconst C dX5_side_20 ?_
    refine z_call C (c_X5_one l (false) ) ml_X5_29 ⟨by decide, by decide⟩ ⟨Nat.le_of_ble_eq_true rfl, Nat.le_of_ble_eq_true rfl⟩ hl (Nat.le_of_ble_eq_true rfl) rfl dX5_side_21 ?_
    have q21_0 := zB_rng (false)
    refine lv_aload_n C.1 C.2.1 dX5_side_24 rfl (lv_at hl 0 rfl) ?_
    refine zo_get C B (Cn := RX5) (T := TX5) (N := 5) (v := .ref a) rfl inX5 0 (by decide) fl_X5_7 rfl rfl dX5_side_25 ?_
    refine lv_iload_n C.1 C.2.1 dX5_side_28 rfl (lv_at hl 1 rfl) ?_
    refine zo_lald C B ((f).toNat) (by omega) (by omega) dX5_side_29 ?_
    have q29 := B.1.2.2.2 ((f).toNat)
    refine lv_aload_n C.1 C.2.1 dX5_side_30 rfl (lv_at hl 0 rfl) ?_
    refine zo_get C B (Cn := RX5) (T := TX5) (N := 5) (v := .ref a) rfl inX5 0 (by decide) fl_X5_7 rfl rfl dX5_side_31 ?_
    refine lv_iload_n C.1 C.2.1 dX5_side_34 rfl (lv_at hl 2 rfl) ?_
    refine zo_lald C B ((z).toNat) (by omega) (by omega) dX5_side_35 ?_
    have q35 := B.1.2.2.2 ((z).toNat)
    refine z_lc_ge (tgt := 44) C (by first | assumption | omega | rfl | exact decide_eq_false (by omega) | exact decide_eq_true (by assumption) | exact decide_eq_true (by omega) | exact one_shl33 (by omega) | exact pm_lt _ _ | exact rm_lt (by first | assumption | exact pm_lt _ _) | exact Nat.lt_of_le_of_lt (Nat.shiftRight_le _ _) (by assumption) | exact Nat.lt_of_le_of_lt Nat.and_le_right (by omega)) (by first | assumption | omega | rfl | exact decide_eq_false (by omega) | exact decide_eq_true (by assumption) | exact decide_eq_true (by omega) | exact one_shl33 (by omega) | exact pm_lt _ _ | exact rm_lt (by first | assumption | exact pm_lt _ _) | exact Nat.lt_of_le_of_lt (Nat.shiftRight_le _ _) (by assumption) | exact Nat.lt_of_le_of_lt Nat.and_le_right (by omega)) dX5_side_36 dX5_side_37 (by decide) (fun h36 => ?_) (fun h36 => ?_)
    · refine z_iconst C dX5_side_44 ?_
      refine z_call C (c_X5_one l (false) ) ml_X5_29 ⟨by decide, by decide⟩ ⟨Nat.le_of_ble_eq_true rfl, Nat.le_of_ble_eq_true rfl⟩ hl (Nat.le_of_ble_eq_true rfl) rfl dX5_side_45 ?_
      have q45_0 := zB_rng (false)
      refine z_isub C dX5_side_48 ?_
      exact zo_iret C B hr hk (Nat.le_of_ble_eq_true rfl) (Nat.le_of_ble_eq_true rfl) dX5_side_49 (by exact congrArg (fun z : Int => some (Value.int (iZ z))) (by rw [decide_eq_false (by omega), decide_eq_false (by omega)])) (by rfl) (by rfl)
    · refine z_iconst C dX5_side_40 ?_
      refine lv_goto (tgt := 45) C.1 C.2.1 dX5_side_41 (by decide) ?_
      refine z_call C (c_X5_one l (true) ) ml_X5_29 ⟨by decide, by decide⟩ ⟨Nat.le_of_ble_eq_true rfl, Nat.le_of_ble_eq_true rfl⟩ hl (Nat.le_of_ble_eq_true rfl) rfl dX5_side_45 ?_
      have q45_0 := zB_rng (true)
      refine z_isub C dX5_side_48 ?_
      exact zo_iret C B hr hk (Nat.le_of_ble_eq_true rfl) (Nat.le_of_ble_eq_true rfl) dX5_side_49 (by exact congrArg (fun z : Int => some (Value.int (iZ z))) (by rw [decide_eq_false (by omega), decide_eq_true (by omega)])) (by rfl) (by rfl)
  · refine z_iconst C dX5_side_16 ?_
    refine lv_goto (tgt := 21) C.1 C.2.1 dX5_side_17 (by decide) ?_
    refine z_call C (c_X5_one l (true) ) ml_X5_29 ⟨by decide, by decide⟩ ⟨Nat.le_of_ble_eq_true rfl, Nat.le_of_ble_eq_true rfl⟩ hl (Nat.le_of_ble_eq_true rfl) rfl dX5_side_21 ?_
    have q21_0 := zB_rng (true)
    refine lv_aload_n C.1 C.2.1 dX5_side_24 rfl (lv_at hl 0 rfl) ?_
    refine zo_get C B (Cn := RX5) (T := TX5) (N := 5) (v := .ref a) rfl inX5 0 (by decide) fl_X5_7 rfl rfl dX5_side_25 ?_
    refine lv_iload_n C.1 C.2.1 dX5_side_28 rfl (lv_at hl 1 rfl) ?_
    refine zo_lald C B ((f).toNat) (by omega) (by omega) dX5_side_29 ?_
    have q29 := B.1.2.2.2 ((f).toNat)
    refine lv_aload_n C.1 C.2.1 dX5_side_30 rfl (lv_at hl 0 rfl) ?_
    refine zo_get C B (Cn := RX5) (T := TX5) (N := 5) (v := .ref a) rfl inX5 0 (by decide) fl_X5_7 rfl rfl dX5_side_31 ?_
    refine lv_iload_n C.1 C.2.1 dX5_side_34 rfl (lv_at hl 2 rfl) ?_
    refine zo_lald C B ((z).toNat) (by omega) (by omega) dX5_side_35 ?_
    have q35 := B.1.2.2.2 ((z).toNat)
    refine z_lc_ge (tgt := 44) C (by first | assumption | omega | rfl | exact decide_eq_false (by omega) | exact decide_eq_true (by assumption) | exact decide_eq_true (by omega) | exact one_shl33 (by omega) | exact pm_lt _ _ | exact rm_lt (by first | assumption | exact pm_lt _ _) | exact Nat.lt_of_le_of_lt (Nat.shiftRight_le _ _) (by assumption) | exact Nat.lt_of_le_of_lt Nat.and_le_right (by omega)) (by first | assumption | omega | rfl | exact decide_eq_false (by omega) | exact decide_eq_true (by assumption) | exact decide_eq_true (by omega) | exact one_shl33 (by omega) | exact pm_lt _ _ | exact rm_lt (by first | assumption | exact pm_lt _ _) | exact Nat.lt_of_le_of_lt (Nat.shiftRight_le _ _) (by assumption) | exact Nat.lt_of_le_of_lt Nat.and_le_right (by omega)) dX5_side_36 dX5_side_37 (by decide) (fun h36 => ?_) (fun h36 => ?_)
    · refine z_iconst C dX5_side_44 ?_
      refine z_call C (c_X5_one l (false) ) ml_X5_29 ⟨by decide, by decide⟩ ⟨Nat.le_of_ble_eq_true rfl, Nat.le_of_ble_eq_true rfl⟩ hl (Nat.le_of_ble_eq_true rfl) rfl dX5_side_45 ?_
      have q45_0 := zB_rng (false)
      refine z_isub C dX5_side_48 ?_
      exact zo_iret C B hr hk (Nat.le_of_ble_eq_true rfl) (Nat.le_of_ble_eq_true rfl) dX5_side_49 (by exact congrArg (fun z : Int => some (Value.int (iZ z))) (by rw [decide_eq_true (by omega), decide_eq_false (by omega)])) (by rfl) (by rfl)
    · refine z_iconst C dX5_side_40 ?_
      refine lv_goto (tgt := 45) C.1 C.2.1 dX5_side_41 (by decide) ?_
      refine z_call C (c_X5_one l (true) ) ml_X5_29 ⟨by decide, by decide⟩ ⟨Nat.le_of_ble_eq_true rfl, Nat.le_of_ble_eq_true rfl⟩ hl (Nat.le_of_ble_eq_true rfl) rfl dX5_side_45 ?_
      have q45_0 := zB_rng (true)
      refine z_isub C dX5_side_48 ?_
      exact zo_iret C B hr hk (Nat.le_of_ble_eq_true rfl) (Nat.le_of_ble_eq_true rfl) dX5_side_49 (by exact congrArg (fun z : Int => some (Value.int (iZ z))) (by exact absurd h36 (by omega))) (by rfl) (by rfl)

set_option maxHeartbeats 4000000 in
set_option maxRecDepth 100000 in
theorem c_X5_order (l : Launch) (D : va_G) (cJ : ClassId) (o a : Nat) (c : Nat → Nat) (th : Int) (ac : Int32) (re : Int32) (kn : Int32) (f : Int) (z : Int) (hf : 0 ≤ f ∧ f ≤ 5) (hz : 0 ≤ z ∧ z ≤ 5) : zA l yX5_order 2 66 0 0 D 4 cJ o a [.int (iZ (f)), .int (iZ (z))] c [.int (iZ (th)), .int (ac), .int (re), .int (kn)] (fun v => v = some (.int (iZ (zB (decide (c z.toNat < c f.toNat)) - zB (decide (c f.toNat < c z.toNat)))))) (c) [.int (iZ (0)), .int (ac), .int (re), .int (kn)] := by
  refine zA.intro (lo := 44) (nA := 2) (own := RX5) zi_X5_order (by decide) rfl rfl (by decide +kernel) rfl (Nat.le_of_ble_eq_true rfl) ?_
  intro p e s m below meth c0 ls C hr hk B hl
  have hl : lv_has ls 3 [(0, .ref o), (1, .int (iZ (f))), (2, .int (iZ (z)))] := hl
  refine lv_aload_n C.1 C.2.1 dX5_order_0 rfl (lv_at hl 0 rfl) ?_
  refine lv_iload_n C.1 C.2.1 dX5_order_1 rfl (lv_at hl 1 rfl) ?_
  refine z_call C (c_X5_isNo l (f) (by first | assumption | omega | rfl | exact decide_eq_false (by omega) | exact decide_eq_true (by assumption) | exact decide_eq_true (by omega) | exact one_shl33 (by omega) | exact pm_lt _ _ | exact rm_lt (by first | assumption | exact pm_lt _ _) | exact Nat.lt_of_le_of_lt (Nat.shiftRight_le _ _) (by assumption) | exact Nat.lt_of_le_of_lt Nat.and_le_right (by omega))) ml_X5_67 ⟨by decide, by decide⟩ ⟨Nat.le_of_ble_eq_true rfl, Nat.le_of_ble_eq_true rfl⟩ hl (Nat.le_of_ble_eq_true rfl) rfl dX5_order_2 ?_
  refine z_ifB_ne (tgt := 15) C dX5_order_5 (by decide) (fun h5 => ?_) (fun h5 => ?_)
  · exact absurd (of_decide_eq_true h5) (by omega)
  · refine lv_iload_n C.1 C.2.1 dX5_order_8 rfl (lv_at hl 2 rfl) ?_
    refine z_call C (c_X5_isNo l (z) (by first | assumption | omega | rfl | exact decide_eq_false (by omega) | exact decide_eq_true (by assumption) | exact decide_eq_true (by omega) | exact one_shl33 (by omega) | exact pm_lt _ _ | exact rm_lt (by first | assumption | exact pm_lt _ _) | exact Nat.lt_of_le_of_lt (Nat.shiftRight_le _ _) (by assumption) | exact Nat.lt_of_le_of_lt Nat.and_le_right (by omega))) ml_X5_67 ⟨by decide, by decide⟩ ⟨Nat.le_of_ble_eq_true rfl, Nat.le_of_ble_eq_true rfl⟩ hl (Nat.le_of_ble_eq_true rfl) rfl dX5_order_9 ?_
    refine z_ifB_eq (tgt := 19) C dX5_order_12 (by decide) (fun h12 => ?_) (fun h12 => ?_)
    · refine z_iconst C dX5_order_19 ?_
      refine z_iconst C dX5_order_20 ?_
      refine zo_callD C B (r := some (.int (iZ (zB (false))))) (c_X5_start_ok l D cJ o a (c) (th) (ac) (re) (kn) (false) (1 : Int) (by first | assumption | omega | rfl | exact decide_eq_false (by omega) | exact decide_eq_true (by assumption) | exact decide_eq_true (by omega) | exact one_shl33 (by omega) | exact pm_lt _ _ | exact rm_lt (by first | assumption | exact pm_lt _ _) | exact Nat.lt_of_le_of_lt (Nat.shiftRight_le _ _) (by assumption) | exact Nat.lt_of_le_of_lt Nat.and_le_right (by omega))) ml_X5_71 rfl ⟨Nat.le_of_ble_eq_true rfl, Nat.le_of_ble_eq_true rfl⟩ ⟨Nat.le_of_ble_eq_true rfl, Nat.le_of_ble_eq_true rfl⟩ hl (Nat.le_of_ble_eq_true rfl) rfl dX5_order_21 (fun H locs B => ?_)
      refine z_ifB_eq (tgt := 31) C dX5_order_24 (by decide) (fun h24 => ?_) (fun h24 => ?_)
      · refine lv_aload_n C.1 C.2.1 dX5_order_31 rfl (lv_at hl 0 rfl) ?_
        refine lv_iload_n C.1 C.2.1 dX5_order_32 rfl (lv_at hl 1 rfl) ?_
        refine lv_iload_n C.1 C.2.1 dX5_order_33 rfl (lv_at hl 2 rfl) ?_
        refine zo_callD C B (r := some (.int (iZ (zB (decide ((c) (z).toNat < (c) (f).toNat)) - zB (decide ((c) (f).toNat < (c) (z).toNat)))))) (c_X5_side l D cJ o a (c) (0) ((ac)) ((re)) ((kn)) (f) (z) (by first | assumption | omega | rfl | exact decide_eq_false (by omega) | exact decide_eq_true (by assumption) | exact decide_eq_true (by omega) | exact one_shl33 (by omega) | exact pm_lt _ _ | exact rm_lt (by first | assumption | exact pm_lt _ _) | exact Nat.lt_of_le_of_lt (Nat.shiftRight_le _ _) (by assumption) | exact Nat.lt_of_le_of_lt Nat.and_le_right (by omega)) (by first | assumption | omega | rfl | exact decide_eq_false (by omega) | exact decide_eq_true (by assumption) | exact decide_eq_true (by omega) | exact one_shl33 (by omega) | exact pm_lt _ _ | exact rm_lt (by first | assumption | exact pm_lt _ _) | exact Nat.lt_of_le_of_lt (Nat.shiftRight_le _ _) (by assumption) | exact Nat.lt_of_le_of_lt Nat.and_le_right (by omega))) ml_X5_140 rfl ⟨Nat.le_of_ble_eq_true rfl, Nat.le_of_ble_eq_true rfl⟩ ⟨Nat.le_of_ble_eq_true rfl, Nat.le_of_ble_eq_true rfl⟩ hl (Nat.le_of_ble_eq_true rfl) rfl dX5_order_34 (fun H locs B => ?_)
        have q34_0 := sd_rngE ((c) (z).toNat) ((c) (f).toNat)
        exact zo_iret C B hr hk (Nat.le_of_ble_eq_true rfl) (Nat.le_of_ble_eq_true rfl) dX5_order_37 (by exact congrArg (fun z : Int => some (Value.int (iZ z))) (by rfl)) (by rfl) (by rfl)
      · exact absurd h24 (by decide)
    · exact absurd (of_decide_eq_true h12) (by omega)

set_option maxHeartbeats 4000000 in
set_option maxRecDepth 100000 in
theorem c_X5_isSame (l : Launch) (D : va_G) (cJ : ClassId) (o a : Nat) (c : Nat → Nat) (th : Int) (ac : Int32) (re : Int32) (kn : Int32) (f : Int) (z : Int) (hf : 0 ≤ f ∧ f ≤ 5) (hz : 0 ≤ z ∧ z ≤ 5) : zA l yX5_isSame 2 66 0 0 D 4 cJ o a [.int (iZ (f)), .int (iZ (z))] c [.int (iZ (th)), .int (ac), .int (re), .int (kn)] (fun v => v = some (.int (iZ (zB (decide (c f.toNat = c z.toNat)))))) (c) [.int (iZ (0)), .int (ac), .int (re), .int (kn)] := by
  refine zA.intro (lo := 44) (nA := 2) (own := RX5) zi_X5_isSame (by decide) rfl rfl (by decide +kernel) rfl (Nat.le_of_ble_eq_true rfl) ?_
  intro p e s m below meth c0 ls C hr hk B hl
  have hl : lv_has ls 3 [(0, .ref o), (1, .int (iZ (f))), (2, .int (iZ (z)))] := hl
  refine lv_aload_n C.1 C.2.1 dX5_isSame_0 rfl (lv_at hl 0 rfl) ?_
  refine lv_iload_n C.1 C.2.1 dX5_isSame_1 rfl (lv_at hl 1 rfl) ?_
  refine z_call C (c_X5_isNo l (f) (by first | assumption | omega | rfl | exact decide_eq_false (by omega) | exact decide_eq_true (by assumption) | exact decide_eq_true (by omega) | exact one_shl33 (by omega) | exact pm_lt _ _ | exact rm_lt (by first | assumption | exact pm_lt _ _) | exact Nat.lt_of_le_of_lt (Nat.shiftRight_le _ _) (by assumption) | exact Nat.lt_of_le_of_lt Nat.and_le_right (by omega))) ml_X5_67 ⟨by decide, by decide⟩ ⟨Nat.le_of_ble_eq_true rfl, Nat.le_of_ble_eq_true rfl⟩ hl (Nat.le_of_ble_eq_true rfl) rfl dX5_isSame_2 ?_
  refine z_ifB_ne (tgt := 15) C dX5_isSame_5 (by decide) (fun h5 => ?_) (fun h5 => ?_)
  · exact absurd (of_decide_eq_true h5) (by omega)
  · refine lv_iload_n C.1 C.2.1 dX5_isSame_8 rfl (lv_at hl 2 rfl) ?_
    refine z_call C (c_X5_isNo l (z) (by first | assumption | omega | rfl | exact decide_eq_false (by omega) | exact decide_eq_true (by assumption) | exact decide_eq_true (by omega) | exact one_shl33 (by omega) | exact pm_lt _ _ | exact rm_lt (by first | assumption | exact pm_lt _ _) | exact Nat.lt_of_le_of_lt (Nat.shiftRight_le _ _) (by assumption) | exact Nat.lt_of_le_of_lt Nat.and_le_right (by omega))) ml_X5_67 ⟨by decide, by decide⟩ ⟨Nat.le_of_ble_eq_true rfl, Nat.le_of_ble_eq_true rfl⟩ hl (Nat.le_of_ble_eq_true rfl) rfl dX5_isSame_9 ?_
    refine z_ifB_eq (tgt := 19) C dX5_isSame_12 (by decide) (fun h12 => ?_) (fun h12 => ?_)
    · refine z_iconst C dX5_isSame_19 ?_
      refine z_iconst C dX5_isSame_20 ?_
      refine zo_callD C B (r := some (.int (iZ (zB (false))))) (c_X5_start_ok l D cJ o a (c) (th) (ac) (re) (kn) (false) (1 : Int) (by first | assumption | omega | rfl | exact decide_eq_false (by omega) | exact decide_eq_true (by assumption) | exact decide_eq_true (by omega) | exact one_shl33 (by omega) | exact pm_lt _ _ | exact rm_lt (by first | assumption | exact pm_lt _ _) | exact Nat.lt_of_le_of_lt (Nat.shiftRight_le _ _) (by assumption) | exact Nat.lt_of_le_of_lt Nat.and_le_right (by omega))) ml_X5_71 rfl ⟨Nat.le_of_ble_eq_true rfl, Nat.le_of_ble_eq_true rfl⟩ ⟨Nat.le_of_ble_eq_true rfl, Nat.le_of_ble_eq_true rfl⟩ hl (Nat.le_of_ble_eq_true rfl) rfl dX5_isSame_21 (fun H locs B => ?_)
      refine z_ifB_ne (tgt := 47) C dX5_isSame_24 (by decide) (fun h24 => ?_) (fun h24 => ?_)
      · exact absurd h24 (by decide)
      · refine lv_aload_n C.1 C.2.1 dX5_isSame_27 rfl (lv_at hl 0 rfl) ?_
        refine zo_get C B (Cn := RX5) (T := TX5) (N := 5) (v := .ref a) rfl inX5 0 (by decide) fl_X5_7 rfl rfl dX5_isSame_28 ?_
        refine lv_iload_n C.1 C.2.1 dX5_isSame_31 rfl (lv_at hl 1 rfl) ?_
        refine zo_lald C B ((f).toNat) (by omega) (by omega) dX5_isSame_32 ?_
        have q32 := B.1.2.2.2 ((f).toNat)
        refine lv_aload_n C.1 C.2.1 dX5_isSame_33 rfl (lv_at hl 0 rfl) ?_
        refine zo_get C B (Cn := RX5) (T := TX5) (N := 5) (v := .ref a) rfl inX5 0 (by decide) fl_X5_7 rfl rfl dX5_isSame_34 ?_
        refine lv_iload_n C.1 C.2.1 dX5_isSame_37 rfl (lv_at hl 2 rfl) ?_
        refine zo_lald C B ((z).toNat) (by omega) (by omega) dX5_isSame_38 ?_
        have q38 := B.1.2.2.2 ((z).toNat)
        refine z_lc_ne (tgt := 47) C (by first | assumption | omega | rfl | exact decide_eq_false (by omega) | exact decide_eq_true (by assumption) | exact decide_eq_true (by omega) | exact one_shl33 (by omega) | exact pm_lt _ _ | exact rm_lt (by first | assumption | exact pm_lt _ _) | exact Nat.lt_of_le_of_lt (Nat.shiftRight_le _ _) (by assumption) | exact Nat.lt_of_le_of_lt Nat.and_le_right (by omega)) (by first | assumption | omega | rfl | exact decide_eq_false (by omega) | exact decide_eq_true (by assumption) | exact decide_eq_true (by omega) | exact one_shl33 (by omega) | exact pm_lt _ _ | exact rm_lt (by first | assumption | exact pm_lt _ _) | exact Nat.lt_of_le_of_lt (Nat.shiftRight_le _ _) (by assumption) | exact Nat.lt_of_le_of_lt Nat.and_le_right (by omega)) dX5_isSame_39 dX5_isSame_40 (by decide) (fun h39 => ?_) (fun h39 => ?_)
        · refine z_iconst C dX5_isSame_47 ?_
          exact zo_zret C B hr hk (Nat.le_of_ble_eq_true rfl) (Nat.le_of_ble_eq_true rfl) dX5_isSame_48 (by decide) (by exact congrArg (fun z : Int => some (Value.int (iZ z))) (by exact zB_f (decide_eq_false h39))) (by rfl) (by rfl)
        · refine z_iconst C dX5_isSame_43 ?_
          refine lv_goto (tgt := 48) C.1 C.2.1 dX5_isSame_44 (by decide) ?_
          exact zo_zret C B hr hk (Nat.le_of_ble_eq_true rfl) (Nat.le_of_ble_eq_true rfl) dX5_isSame_48 (by decide) (by exact congrArg (fun z : Int => some (Value.int (iZ z))) (by exact zB_t (decide_eq_true h39))) (by rfl) (by rfl)
    · exact absurd (of_decide_eq_true h12) (by omega)

set_option maxHeartbeats 4000000 in
set_option maxRecDepth 100000 in
theorem c_X5_value (l : Launch) (D : va_G) (cJ : ClassId) (o a : Nat) (c : Nat → Nat) (th : Int) (ac : Int32) (re : Int32) (kn : Int32) (z : Int) (b : Bool) (hz : 0 ≤ z ∧ z ≤ 5) : zA l yX5_value 2 67 0 0 D 4 cJ o a [.int (iZ (z)), .int (iZ (zB (b)))] c [.int (iZ (th)), .int (ac), .int (re), .int (kn)] (fun v => v = some (.int (iZ (if b = true then wt (c z.toNat) 33 % 2 else zB (tb (c z.toNat) 0))))) (c) [.int (iZ (0)), .int (ac), .int (re), .int (kn)] := by
  refine zA.intro (lo := 45) (nA := 2) (own := RX5) zi_X5_value (by decide) rfl rfl (by decide +kernel) rfl (Nat.le_of_ble_eq_true rfl) ?_
  intro p e s m below meth c0 ls C hr hk B hl
  have hl : lv_has ls 3 [(0, .ref o), (1, .int (iZ (z))), (2, .int (iZ (zB (b))))] := hl
  refine lv_aload_n C.1 C.2.1 dX5_value_0 rfl (lv_at hl 0 rfl) ?_
  refine lv_iload_n C.1 C.2.1 dX5_value_1 rfl (lv_at hl 1 rfl) ?_
  refine z_call C (c_X5_isNo l (z) (by first | assumption | omega | rfl | exact decide_eq_false (by omega) | exact decide_eq_true (by assumption) | exact decide_eq_true (by omega) | exact one_shl33 (by omega) | exact pm_lt _ _ | exact rm_lt (by first | assumption | exact pm_lt _ _) | exact Nat.lt_of_le_of_lt (Nat.shiftRight_le _ _) (by assumption) | exact Nat.lt_of_le_of_lt Nat.and_le_right (by omega))) ml_X5_67 ⟨by decide, by decide⟩ ⟨Nat.le_of_ble_eq_true rfl, Nat.le_of_ble_eq_true rfl⟩ hl (Nat.le_of_ble_eq_true rfl) rfl dX5_value_2 ?_
  refine z_iconst C dX5_value_5 ?_
  refine zo_callD C B (r := some (.int (iZ (zB (false))))) (c_X5_start_ok l D cJ o a (c) (th) (ac) (re) (kn) (decide (¬ (0 ≤ (z) ∧ (z) ≤ 5))) (1 : Int) (by first | assumption | omega | rfl | exact decide_eq_false (by omega) | exact decide_eq_true (by assumption) | exact decide_eq_true (by omega) | exact one_shl33 (by omega) | exact pm_lt _ _ | exact rm_lt (by first | assumption | exact pm_lt _ _) | exact Nat.lt_of_le_of_lt (Nat.shiftRight_le _ _) (by assumption) | exact Nat.lt_of_le_of_lt Nat.and_le_right (by omega))) ml_X5_71 rfl ⟨Nat.le_of_ble_eq_true rfl, Nat.le_of_ble_eq_true rfl⟩ ⟨Nat.le_of_ble_eq_true rfl, Nat.le_of_ble_eq_true rfl⟩ hl (Nat.le_of_ble_eq_true rfl) rfl dX5_value_6 (fun H locs B => ?_)
  refine z_ifB_eq (tgt := 16) C dX5_value_9 (by decide) (fun h9 => ?_) (fun h9 => ?_)
  · refine lv_iload_n C.1 C.2.1 dX5_value_16 rfl (lv_at hl 2 rfl) ?_
    refine z_ifB_eq (tgt := 34) C dX5_value_17 (by decide) (fun h17 => ?_) (fun h17 => ?_)
    · refine lv_aload_n C.1 C.2.1 dX5_value_34 rfl (lv_at hl 0 rfl) ?_
      refine zo_get C B (Cn := RX5) (T := TX5) (N := 5) (v := .ref a) rfl inX5 0 (by decide) fl_X5_7 rfl rfl dX5_value_35 ?_
      refine lv_iload_n C.1 C.2.1 dX5_value_38 rfl (lv_at hl 1 rfl) ?_
      refine zo_lald C B ((z).toNat) (by omega) (by omega) dX5_value_39 ?_
      have q39 := B.1.2.2.2 ((z).toNat)
      refine z_iconst C dX5_value_40 ?_
      refine z_call C (c_X5_has l (c ((z).toNat)) (0 : Int) (by first | assumption | omega | rfl | exact decide_eq_false (by omega) | exact decide_eq_true (by assumption) | exact decide_eq_true (by omega) | exact one_shl33 (by omega) | exact pm_lt _ _ | exact rm_lt (by first | assumption | exact pm_lt _ _) | exact Nat.lt_of_le_of_lt (Nat.shiftRight_le _ _) (by assumption) | exact Nat.lt_of_le_of_lt Nat.and_le_right (by omega)) (by first | assumption | omega | rfl | exact decide_eq_false (by omega) | exact decide_eq_true (by assumption) | exact decide_eq_true (by omega) | exact one_shl33 (by omega) | exact pm_lt _ _ | exact rm_lt (by first | assumption | exact pm_lt _ _) | exact Nat.lt_of_le_of_lt (Nat.shiftRight_le _ _) (by assumption) | exact Nat.lt_of_le_of_lt Nat.and_le_right (by omega))) ml_X5_25 ⟨by decide, by decide⟩ ⟨Nat.le_of_ble_eq_true rfl, Nat.le_of_ble_eq_true rfl⟩ hl (Nat.le_of_ble_eq_true rfl) rfl dX5_value_41 ?_
      refine z_call C (c_X5_one l (tb (c ((z).toNat)) (0 : Int)) ) ml_X5_29 ⟨by decide, by decide⟩ ⟨Nat.le_of_ble_eq_true rfl, Nat.le_of_ble_eq_true rfl⟩ hl (Nat.le_of_ble_eq_true rfl) rfl dX5_value_44 ?_
      have q44_0 := zB_rng (tb (c ((z).toNat)) (0 : Int))
      exact zo_iret C B hr hk (Nat.le_of_ble_eq_true rfl) (Nat.le_of_ble_eq_true rfl) dX5_value_47 (by exact congrArg (fun z : Int => some (Value.int (iZ z))) (by rw [if_neg (by rw [h17]; decide)])) (by rfl) (by rfl)
    · refine lv_aload_n C.1 C.2.1 dX5_value_20 rfl (lv_at hl 0 rfl) ?_
      refine zo_get C B (Cn := RX5) (T := TX5) (N := 5) (v := .ref a) rfl inX5 0 (by decide) fl_X5_7 rfl rfl dX5_value_21 ?_
      refine lv_iload_n C.1 C.2.1 dX5_value_24 rfl (lv_at hl 1 rfl) ?_
      refine zo_lald C B ((z).toNat) (by omega) (by omega) dX5_value_25 ?_
      have q25 := B.1.2.2.2 ((z).toNat)
      refine z_call C (c_X5_weightOf l (c ((z).toNat)) (by first | assumption | omega | rfl | exact decide_eq_false (by omega) | exact decide_eq_true (by assumption) | exact decide_eq_true (by omega) | exact one_shl33 (by omega) | exact pm_lt _ _ | exact rm_lt (by first | assumption | exact pm_lt _ _) | exact Nat.lt_of_le_of_lt (Nat.shiftRight_le _ _) (by assumption) | exact Nat.lt_of_le_of_lt Nat.and_le_right (by omega))) ml_X5_108 ⟨by decide, by decide⟩ ⟨Nat.le_of_ble_eq_true rfl, Nat.le_of_ble_eq_true rfl⟩ hl (Nat.le_of_ble_eq_true rfl) rfl dX5_value_26 ?_
      have q26_0 := wt_rngE (c ((z).toNat))
      refine z_iconst C dX5_value_29 ?_
      refine z_irem C (by omega) (by omega) dX5_value_30 ?_
      refine lv_goto (tgt := 47) C.1 C.2.1 dX5_value_31 (by decide) ?_
      exact zo_iret C B hr hk (Nat.le_of_ble_eq_true rfl) (Nat.le_of_ble_eq_true rfl) dX5_value_47 (by exact congrArg (fun z : Int => some (Value.int (iZ z))) (by rw [if_pos h17])) (by rfl) (by rfl)
  · exact absurd h9 (by decide)

set_option maxHeartbeats 4000000 in
set_option maxRecDepth 100000 in
theorem c_X5_divides (l : Launch) (D : va_G) (cJ : ClassId) (o a : Nat) (c : Nat → Nat) (th : Int) (ac : Int32) (re : Int32) (kn : Int32) (f : Int) (z : Int) (hf : 0 ≤ f ∧ f ≤ 5) (hz : 0 ≤ z ∧ z ≤ 5) : zA l yX5_divides 3 98 0 0 D 4 cJ o a [.int (iZ (f)), .int (iZ (z))] c [.int (iZ (th)), .int (ac), .int (re), .int (kn)] (fun v => v = some (.int (iZ (zB (decide (if c f.toNat = 0 then c z.toNat = 0 else rm (c z.toNat) (c f.toNat) = 0)))))) (c) [.int (iZ (0)), .int (ac), .int (re), .int (kn)] := by
  refine zA.intro (lo := 76) (nA := 2) (own := RX5) zi_X5_divides (by decide) rfl rfl (by decide +kernel) rfl (Nat.le_of_ble_eq_true rfl) ?_
  intro p e s m below meth c0 ls C hr hk B hl
  have hl : lv_has ls 3 [(0, .ref o), (1, .int (iZ (f))), (2, .int (iZ (z)))] := hl
  refine lv_aload_n C.1 C.2.1 dX5_divides_0 rfl (lv_at hl 0 rfl) ?_
  refine lv_iload_n C.1 C.2.1 dX5_divides_1 rfl (lv_at hl 1 rfl) ?_
  refine z_call C (c_X5_isNo l (f) (by first | assumption | omega | rfl | exact decide_eq_false (by omega) | exact decide_eq_true (by assumption) | exact decide_eq_true (by omega) | exact one_shl33 (by omega) | exact pm_lt _ _ | exact rm_lt (by first | assumption | exact pm_lt _ _) | exact Nat.lt_of_le_of_lt (Nat.shiftRight_le _ _) (by assumption) | exact Nat.lt_of_le_of_lt Nat.and_le_right (by omega))) ml_X5_67 ⟨by decide, by decide⟩ ⟨Nat.le_of_ble_eq_true rfl, Nat.le_of_ble_eq_true rfl⟩ hl (Nat.le_of_ble_eq_true rfl) rfl dX5_divides_2 ?_
  refine z_ifB_ne (tgt := 15) C dX5_divides_5 (by decide) (fun h5 => ?_) (fun h5 => ?_)
  · exact absurd (of_decide_eq_true h5) (by omega)
  · refine lv_iload_n C.1 C.2.1 dX5_divides_8 rfl (lv_at hl 2 rfl) ?_
    refine z_call C (c_X5_isNo l (z) (by first | assumption | omega | rfl | exact decide_eq_false (by omega) | exact decide_eq_true (by assumption) | exact decide_eq_true (by omega) | exact one_shl33 (by omega) | exact pm_lt _ _ | exact rm_lt (by first | assumption | exact pm_lt _ _) | exact Nat.lt_of_le_of_lt (Nat.shiftRight_le _ _) (by assumption) | exact Nat.lt_of_le_of_lt Nat.and_le_right (by omega))) ml_X5_67 ⟨by decide, by decide⟩ ⟨Nat.le_of_ble_eq_true rfl, Nat.le_of_ble_eq_true rfl⟩ hl (Nat.le_of_ble_eq_true rfl) rfl dX5_divides_9 ?_
    refine z_ifB_eq (tgt := 19) C dX5_divides_12 (by decide) (fun h12 => ?_) (fun h12 => ?_)
    · refine z_iconst C dX5_divides_19 ?_
      refine z_iconst C dX5_divides_20 ?_
      refine zo_callD C B (r := some (.int (iZ (zB (false))))) (c_X5_start_ok l D cJ o a (c) (th) (ac) (re) (kn) (false) (1 : Int) (by first | assumption | omega | rfl | exact decide_eq_false (by omega) | exact decide_eq_true (by assumption) | exact decide_eq_true (by omega) | exact one_shl33 (by omega) | exact pm_lt _ _ | exact rm_lt (by first | assumption | exact pm_lt _ _) | exact Nat.lt_of_le_of_lt (Nat.shiftRight_le _ _) (by assumption) | exact Nat.lt_of_le_of_lt Nat.and_le_right (by omega))) ml_X5_71 rfl ⟨Nat.le_of_ble_eq_true rfl, Nat.le_of_ble_eq_true rfl⟩ ⟨Nat.le_of_ble_eq_true rfl, Nat.le_of_ble_eq_true rfl⟩ hl (Nat.le_of_ble_eq_true rfl) rfl dX5_divides_21 (fun H locs B => ?_)
      refine z_ifB_eq (tgt := 29) C dX5_divides_24 (by decide) (fun h24 => ?_) (fun h24 => ?_)
      · refine lv_aload_n C.1 C.2.1 dX5_divides_29 rfl (lv_at hl 0 rfl) ?_
        refine zo_get C B (Cn := RX5) (T := TX5) (N := 5) (v := .ref a) rfl inX5 0 (by decide) fl_X5_7 rfl rfl dX5_divides_30 ?_
        refine lv_iload_n C.1 C.2.1 dX5_divides_33 rfl (lv_at hl 1 rfl) ?_
        refine zo_lald C B ((f).toNat) (by omega) (by omega) dX5_divides_34 ?_
        have q34 := B.1.2.2.2 ((f).toNat)
        refine z_lconst (k0 := 0) C dX5_divides_35 rfl ?_
        refine z_lc_ne (tgt := 59) C (by first | assumption | omega | rfl | exact decide_eq_false (by omega) | exact decide_eq_true (by assumption) | exact decide_eq_true (by omega) | exact one_shl33 (by omega) | exact pm_lt _ _ | exact rm_lt (by first | assumption | exact pm_lt _ _) | exact Nat.lt_of_le_of_lt (Nat.shiftRight_le _ _) (by assumption) | exact Nat.lt_of_le_of_lt Nat.and_le_right (by omega)) (by first | assumption | omega | rfl | exact decide_eq_false (by omega) | exact decide_eq_true (by assumption) | exact decide_eq_true (by omega) | exact one_shl33 (by omega) | exact pm_lt _ _ | exact rm_lt (by first | assumption | exact pm_lt _ _) | exact Nat.lt_of_le_of_lt (Nat.shiftRight_le _ _) (by assumption) | exact Nat.lt_of_le_of_lt Nat.and_le_right (by omega)) dX5_divides_36 dX5_divides_37 (by decide) (fun h36 => ?_) (fun h36 => ?_)
        · refine lv_aload_n C.1 C.2.1 dX5_divides_59 rfl (lv_at hl 0 rfl) ?_
          refine zo_get C B (Cn := RX5) (T := TX5) (N := 5) (v := .ref a) rfl inX5 0 (by decide) fl_X5_7 rfl rfl dX5_divides_60 ?_
          refine lv_iload_n C.1 C.2.1 dX5_divides_63 rfl (lv_at hl 2 rfl) ?_
          refine zo_lald C B ((z).toNat) (by omega) (by omega) dX5_divides_64 ?_
          have q64 := B.1.2.2.2 ((z).toNat)
          refine lv_aload_n C.1 C.2.1 dX5_divides_65 rfl (lv_at hl 0 rfl) ?_
          refine zo_get C B (Cn := RX5) (T := TX5) (N := 5) (v := .ref a) rfl inX5 0 (by decide) fl_X5_7 rfl rfl dX5_divides_66 ?_
          refine lv_iload_n C.1 C.2.1 dX5_divides_69 rfl (lv_at hl 1 rfl) ?_
          refine zo_lald C B ((f).toNat) (by omega) (by omega) dX5_divides_70 ?_
          have q70 := B.1.2.2.2 ((f).toNat)
          refine z_call C (c_X5_restOf l (c ((z).toNat)) (c ((f).toNat)) (by first | assumption | omega | rfl | exact decide_eq_false (by omega) | exact decide_eq_true (by assumption) | exact decide_eq_true (by omega) | exact one_shl33 (by omega) | exact pm_lt _ _ | exact rm_lt (by first | assumption | exact pm_lt _ _) | exact Nat.lt_of_le_of_lt (Nat.shiftRight_le _ _) (by assumption) | exact Nat.lt_of_le_of_lt Nat.and_le_right (by omega)) (by first | assumption | omega | rfl | exact decide_eq_false (by omega) | exact decide_eq_true (by assumption) | exact decide_eq_true (by omega) | exact one_shl33 (by omega) | exact pm_lt _ _ | exact rm_lt (by first | assumption | exact pm_lt _ _) | exact Nat.lt_of_le_of_lt (Nat.shiftRight_le _ _) (by assumption) | exact Nat.lt_of_le_of_lt Nat.and_le_right (by omega)) (by first | assumption | omega | rfl | exact decide_eq_false (by omega) | exact decide_eq_true (by assumption) | exact decide_eq_true (by omega) | exact one_shl33 (by omega) | exact pm_lt _ _ | exact rm_lt (by first | assumption | exact pm_lt _ _) | exact Nat.lt_of_le_of_lt (Nat.shiftRight_le _ _) (by assumption) | exact Nat.lt_of_le_of_lt Nat.and_le_right (by omega))) ml_X5_46 ⟨by decide, by decide⟩ ⟨Nat.le_of_ble_eq_true rfl, Nat.le_of_ble_eq_true rfl⟩ hl (Nat.le_of_ble_eq_true rfl) rfl dX5_divides_71 ?_
          refine z_lconst (k0 := 0) C dX5_divides_74 rfl ?_
          refine z_lc_ne (tgt := 83) C (by exact rm_lt (by omega)) (by omega) dX5_divides_75 dX5_divides_76 (by decide) (fun h75 => ?_) (fun h75 => ?_)
          · refine z_iconst C dX5_divides_83 ?_
            exact zo_zret C B hr hk (Nat.le_of_ble_eq_true rfl) (Nat.le_of_ble_eq_true rfl) dX5_divides_84 (by decide) (by exact congrArg (fun z : Int => some (Value.int (iZ z))) (by exact zB_f (decide_eq_false (by rw [if_neg h36]; exact h75)))) (by rfl) (by rfl)
          · refine z_iconst C dX5_divides_79 ?_
            refine lv_goto (tgt := 84) C.1 C.2.1 dX5_divides_80 (by decide) ?_
            exact zo_zret C B hr hk (Nat.le_of_ble_eq_true rfl) (Nat.le_of_ble_eq_true rfl) dX5_divides_84 (by decide) (by exact congrArg (fun z : Int => some (Value.int (iZ z))) (by exact zB_t (decide_eq_true (by rw [if_neg h36]; exact h75)))) (by rfl) (by rfl)
        · refine lv_aload_n C.1 C.2.1 dX5_divides_40 rfl (lv_at hl 0 rfl) ?_
          refine zo_get C B (Cn := RX5) (T := TX5) (N := 5) (v := .ref a) rfl inX5 0 (by decide) fl_X5_7 rfl rfl dX5_divides_41 ?_
          refine lv_iload_n C.1 C.2.1 dX5_divides_44 rfl (lv_at hl 2 rfl) ?_
          refine zo_lald C B ((z).toNat) (by omega) (by omega) dX5_divides_45 ?_
          have q45 := B.1.2.2.2 ((z).toNat)
          refine z_lconst (k0 := 0) C dX5_divides_46 rfl ?_
          refine z_lc_ne (tgt := 55) C (by first | assumption | omega | rfl | exact decide_eq_false (by omega) | exact decide_eq_true (by assumption) | exact decide_eq_true (by omega) | exact one_shl33 (by omega) | exact pm_lt _ _ | exact rm_lt (by first | assumption | exact pm_lt _ _) | exact Nat.lt_of_le_of_lt (Nat.shiftRight_le _ _) (by assumption) | exact Nat.lt_of_le_of_lt Nat.and_le_right (by omega)) (by first | assumption | omega | rfl | exact decide_eq_false (by omega) | exact decide_eq_true (by assumption) | exact decide_eq_true (by omega) | exact one_shl33 (by omega) | exact pm_lt _ _ | exact rm_lt (by first | assumption | exact pm_lt _ _) | exact Nat.lt_of_le_of_lt (Nat.shiftRight_le _ _) (by assumption) | exact Nat.lt_of_le_of_lt Nat.and_le_right (by omega)) dX5_divides_47 dX5_divides_48 (by decide) (fun h47 => ?_) (fun h47 => ?_)
          · refine z_iconst C dX5_divides_55 ?_
            refine lv_goto (tgt := 84) C.1 C.2.1 dX5_divides_56 (by decide) ?_
            exact zo_zret C B hr hk (Nat.le_of_ble_eq_true rfl) (Nat.le_of_ble_eq_true rfl) dX5_divides_84 (by decide) (by exact congrArg (fun z : Int => some (Value.int (iZ z))) (by exact zB_f (decide_eq_false (by rw [if_pos h36]; exact h47)))) (by rfl) (by rfl)
          · refine z_iconst C dX5_divides_51 ?_
            refine lv_goto (tgt := 84) C.1 C.2.1 dX5_divides_52 (by decide) ?_
            exact zo_zret C B hr hk (Nat.le_of_ble_eq_true rfl) (Nat.le_of_ble_eq_true rfl) dX5_divides_84 (by decide) (by exact congrArg (fun z : Int => some (Value.int (iZ z))) (by exact zB_t (decide_eq_true (by rw [if_pos h36]; exact h47)))) (by rfl) (by rfl)
      · exact absurd h24 (by decide)
    · exact absurd (of_decide_eq_true h12) (by omega)

set_option maxHeartbeats 4000000 in
set_option maxRecDepth 100000 in
theorem c_X5_isFree (l : Launch) (D : va_G) (cJ : ClassId) (o a : Nat) (c : Nat → Nat) (th : Int) (ac : Int32) (re : Int32) (kn : Int32) (z : Int) (hz : 0 ≤ z ∧ z ≤ 5) : zA l yX5_isFree 3 110 0 0 D 4 cJ o a [.int (iZ (z))] c [.int (iZ (th)), .int (ac), .int (re), .int (kn)] (fun v => v = some (.int (iZ (zB (decide (eu (ehF (c z.toNat) 17) (ehF (c z.toNat >>> 1) 17) (ehF (c z.toNat) 17) (ehF (c z.toNat >>> 1) 17) = 1)))))) (c) [.int (iZ (0)), .int (ac), .int (re), .int (kn)] := by
  refine zA.intro (lo := 89) (nA := 1) (own := RX5) zi_X5_isFree (by decide) rfl rfl (by decide +kernel) rfl (Nat.le_of_ble_eq_true rfl) ?_
  intro p e s m below meth c0 ls C hr hk B hl
  have hl : lv_has ls 2 [(0, .ref o), (1, .int (iZ (z)))] := hl
  refine lv_aload_n C.1 C.2.1 dX5_isFree_0 rfl (lv_at hl 0 rfl) ?_
  refine lv_iload_n C.1 C.2.1 dX5_isFree_1 rfl (lv_at hl 1 rfl) ?_
  refine z_call C (c_X5_isNo l (z) (by first | assumption | omega | rfl | exact decide_eq_false (by omega) | exact decide_eq_true (by assumption) | exact decide_eq_true (by omega) | exact one_shl33 (by omega) | exact pm_lt _ _ | exact rm_lt (by first | assumption | exact pm_lt _ _) | exact Nat.lt_of_le_of_lt (Nat.shiftRight_le _ _) (by assumption) | exact Nat.lt_of_le_of_lt Nat.and_le_right (by omega))) ml_X5_67 ⟨by decide, by decide⟩ ⟨Nat.le_of_ble_eq_true rfl, Nat.le_of_ble_eq_true rfl⟩ hl (Nat.le_of_ble_eq_true rfl) rfl dX5_isFree_2 ?_
  refine z_iconst C dX5_isFree_5 ?_
  refine zo_callD C B (r := some (.int (iZ (zB (false))))) (c_X5_start_ok l D cJ o a (c) (th) (ac) (re) (kn) (decide (¬ (0 ≤ (z) ∧ (z) ≤ 5))) (1 : Int) (by first | assumption | omega | rfl | exact decide_eq_false (by omega) | exact decide_eq_true (by assumption) | exact decide_eq_true (by omega) | exact one_shl33 (by omega) | exact pm_lt _ _ | exact rm_lt (by first | assumption | exact pm_lt _ _) | exact Nat.lt_of_le_of_lt (Nat.shiftRight_le _ _) (by assumption) | exact Nat.lt_of_le_of_lt Nat.and_le_right (by omega))) ml_X5_71 rfl ⟨Nat.le_of_ble_eq_true rfl, Nat.le_of_ble_eq_true rfl⟩ ⟨Nat.le_of_ble_eq_true rfl, Nat.le_of_ble_eq_true rfl⟩ hl (Nat.le_of_ble_eq_true rfl) rfl dX5_isFree_6 (fun H locs B => ?_)
  refine z_ifB_ne (tgt := 45) C dX5_isFree_9 (by decide) (fun h9 => ?_) (fun h9 => ?_)
  · exact absurd h9 (by decide)
  · refine lv_aload_n C.1 C.2.1 dX5_isFree_12 rfl (lv_at hl 0 rfl) ?_
    refine zo_get C B (Cn := RX5) (T := TX5) (N := 5) (v := .ref a) rfl inX5 0 (by decide) fl_X5_7 rfl rfl dX5_isFree_13 ?_
    refine lv_iload_n C.1 C.2.1 dX5_isFree_16 rfl (lv_at hl 1 rfl) ?_
    refine zo_lald C B ((z).toNat) (by omega) (by omega) dX5_isFree_17 ?_
    have q17 := B.1.2.2.2 ((z).toNat)
    refine z_call C (c_X5_half l (c ((z).toNat)) (by first | assumption | omega | rfl | exact decide_eq_false (by omega) | exact decide_eq_true (by assumption) | exact decide_eq_true (by omega) | exact one_shl33 (by omega) | exact pm_lt _ _ | exact rm_lt (by first | assumption | exact pm_lt _ _) | exact Nat.lt_of_le_of_lt (Nat.shiftRight_le _ _) (by assumption) | exact Nat.lt_of_le_of_lt Nat.and_le_right (by omega))) ml_X5_102 ⟨by decide, by decide⟩ ⟨Nat.le_of_ble_eq_true rfl, Nat.le_of_ble_eq_true rfl⟩ hl (Nat.le_of_ble_eq_true rfl) rfl dX5_isFree_18 ?_
    have q18_0 := ehF17_lt (c ((z).toNat))
    refine lv_aload_n C.1 C.2.1 dX5_isFree_21 rfl (lv_at hl 0 rfl) ?_
    refine zo_get C B (Cn := RX5) (T := TX5) (N := 5) (v := .ref a) rfl inX5 0 (by decide) fl_X5_7 rfl rfl dX5_isFree_22 ?_
    refine lv_iload_n C.1 C.2.1 dX5_isFree_25 rfl (lv_at hl 1 rfl) ?_
    refine zo_lald C B ((z).toNat) (by omega) (by omega) dX5_isFree_26 ?_
    have q26 := B.1.2.2.2 ((z).toNat)
    refine z_iconst C dX5_isFree_27 ?_
    refine z_lushr C (1) (by first | assumption | omega | rfl | exact decide_eq_false (by omega) | exact decide_eq_true (by assumption) | exact decide_eq_true (by omega) | exact one_shl33 (by omega) | exact pm_lt _ _ | exact rm_lt (by first | assumption | exact pm_lt _ _) | exact Nat.lt_of_le_of_lt (Nat.shiftRight_le _ _) (by assumption) | exact Nat.lt_of_le_of_lt Nat.and_le_right (by omega)) (by omega) (by omega) dX5_isFree_28 ?_
    refine z_call C (c_X5_half l ((c ((z).toNat)) >>> (1)) (by first | assumption | omega | rfl | exact decide_eq_false (by omega) | exact decide_eq_true (by assumption) | exact decide_eq_true (by omega) | exact one_shl33 (by omega) | exact pm_lt _ _ | exact rm_lt (by first | assumption | exact pm_lt _ _) | exact Nat.lt_of_le_of_lt (Nat.shiftRight_le _ _) (by assumption) | exact Nat.lt_of_le_of_lt Nat.and_le_right (by omega))) ml_X5_102 ⟨by decide, by decide⟩ ⟨Nat.le_of_ble_eq_true rfl, Nat.le_of_ble_eq_true rfl⟩ hl (Nat.le_of_ble_eq_true rfl) rfl dX5_isFree_29 ?_
    have q29_0 := ehF17_lt ((c ((z).toNat)) >>> (1))
    refine z_iconst C dX5_isFree_32 ?_
    refine z_call C (c_X5_euclid l (ehF (c ((z).toNat)) 17) (ehF ((c ((z).toNat)) >>> (1)) 17) (0 : Int) (by exact ehF17_lt _) (by exact ehF17_lt _) (by omega)) ml_X5_94 ⟨by decide, by decide⟩ ⟨Nat.le_of_ble_eq_true rfl, Nat.le_of_ble_eq_true rfl⟩ hl (Nat.le_of_ble_eq_true rfl) rfl dX5_isFree_33 ?_
    have q33_0 := eu_ltE (ehF (c ((z).toNat)) 17) (ehF ((c ((z).toNat)) >>> (1)) 17) (eux (ehF (c ((z).toNat)) 17) (0 : Int)) (euy (ehF ((c ((z).toNat)) >>> (1)) 17) (0 : Int)) (eux_lt (by first | assumption | omega)) (euy_lt (by first | assumption | omega))
    refine z_lconst (k0 := 1) C dX5_isFree_36 rfl ?_
    refine z_lc_ne (tgt := 45) C (by exact eu_ltE _ _ _ _ (ehF17_lt _) (ehF17_lt _)) (by omega) dX5_isFree_37 dX5_isFree_38 (by decide) (fun h37 => ?_) (fun h37 => ?_)
    · refine z_iconst C dX5_isFree_45 ?_
      exact zo_zret C B hr hk (Nat.le_of_ble_eq_true rfl) (Nat.le_of_ble_eq_true rfl) dX5_isFree_46 (by decide) (by exact congrArg (fun z : Int => some (Value.int (iZ z))) (by exact zB_f (decide_eq_false h37))) (by rfl) (by rfl)
    · refine z_iconst C dX5_isFree_41 ?_
      refine lv_goto (tgt := 46) C.1 C.2.1 dX5_isFree_42 (by decide) ?_
      exact zo_zret C B hr hk (Nat.le_of_ble_eq_true rfl) (Nat.le_of_ble_eq_true rfl) dX5_isFree_46 (by decide) (by exact congrArg (fun z : Int => some (Value.int (iZ z))) (by exact zB_t (decide_eq_true h37))) (by rfl) (by rfl)

set_option maxHeartbeats 4000000 in
set_option maxRecDepth 100000 in
theorem c_X5_irreducible (l : Launch) (D : va_G) (cJ : ClassId) (o a : Nat) (c : Nat → Nat) (th : Int) (ac : Int32) (re : Int32) (kn : Int32) (z : Int) (hz : 0 ≤ z ∧ z ≤ 5) : zA l yX5_irreducible 4 121 0 0 D 4 cJ o a [.int (iZ (z))] c [.int (iZ (th)), .int (ac), .int (re), .int (kn)] (fun v => v = some (.int (iZ (qR (wI (c z.toNat)))))) (c) [.int (iZ (0)), .int (ac), .int (qF re (wI (c z.toNat))), .int (kn)] := by
  refine zA.intro (lo := 100) (nA := 1) (own := RX5) zi_X5_irreducible (by decide) rfl rfl (by decide +kernel) rfl (Nat.le_of_ble_eq_true rfl) ?_
  intro p e s m below meth c0 ls C hr hk B hl
  have hl : lv_has ls 2 [(0, .ref o), (1, .int (iZ (z)))] := hl
  refine lv_aload_n C.1 C.2.1 dX5_irreducible_0 rfl (lv_at hl 0 rfl) ?_
  refine lv_iload_n C.1 C.2.1 dX5_irreducible_1 rfl (lv_at hl 1 rfl) ?_
  refine z_call C (c_X5_isNo l (z) (by first | assumption | omega | rfl | exact decide_eq_false (by omega) | exact decide_eq_true (by assumption) | exact decide_eq_true (by omega) | exact one_shl33 (by omega) | exact pm_lt _ _ | exact rm_lt (by first | assumption | exact pm_lt _ _) | exact Nat.lt_of_le_of_lt (Nat.shiftRight_le _ _) (by assumption) | exact Nat.lt_of_le_of_lt Nat.and_le_right (by omega))) ml_X5_67 ⟨by decide, by decide⟩ ⟨Nat.le_of_ble_eq_true rfl, Nat.le_of_ble_eq_true rfl⟩ hl (Nat.le_of_ble_eq_true rfl) rfl dX5_irreducible_2 ?_
  refine z_iconst C dX5_irreducible_5 ?_
  refine zo_callD C B (r := some (.int (iZ (zB (false))))) (c_X5_start_ok l D cJ o a (c) (th) (ac) (re) (kn) (decide (¬ (0 ≤ (z) ∧ (z) ≤ 5))) (1 : Int) (by first | assumption | omega | rfl | exact decide_eq_false (by omega) | exact decide_eq_true (by assumption) | exact decide_eq_true (by omega) | exact one_shl33 (by omega) | exact pm_lt _ _ | exact rm_lt (by first | assumption | exact pm_lt _ _) | exact Nat.lt_of_le_of_lt (Nat.shiftRight_le _ _) (by assumption) | exact Nat.lt_of_le_of_lt Nat.and_le_right (by omega))) ml_X5_71 rfl ⟨Nat.le_of_ble_eq_true rfl, Nat.le_of_ble_eq_true rfl⟩ ⟨Nat.le_of_ble_eq_true rfl, Nat.le_of_ble_eq_true rfl⟩ hl (Nat.le_of_ble_eq_true rfl) rfl dX5_irreducible_6 (fun H locs B => ?_)
  refine z_ifB_eq (tgt := 14) C dX5_irreducible_9 (by decide) (fun h9 => ?_) (fun h9 => ?_)
  · refine lv_aload_n C.1 C.2.1 dX5_irreducible_14 rfl (lv_at hl 0 rfl) ?_
    refine zo_get C B (Cn := RX5) (T := TX5) (N := 5) (v := .ref a) rfl inX5 0 (by decide) fl_X5_7 rfl rfl dX5_irreducible_15 ?_
    refine lv_iload_n C.1 C.2.1 dX5_irreducible_18 rfl (lv_at hl 1 rfl) ?_
    refine zo_lald C B ((z).toNat) (by omega) (by omega) dX5_irreducible_19 ?_
    have q19 := B.1.2.2.2 ((z).toNat)
    refine z_call C (c_X5_degreeOf l (c ((z).toNat)) (by first | assumption | omega | rfl | exact decide_eq_false (by omega) | exact decide_eq_true (by assumption) | exact decide_eq_true (by omega) | exact one_shl33 (by omega) | exact pm_lt _ _ | exact rm_lt (by first | assumption | exact pm_lt _ _) | exact Nat.lt_of_le_of_lt (Nat.shiftRight_le _ _) (by assumption) | exact Nat.lt_of_le_of_lt Nat.and_le_right (by omega))) ml_X5_33 ⟨by decide, by decide⟩ ⟨Nat.le_of_ble_eq_true rfl, Nat.le_of_ble_eq_true rfl⟩ hl (Nat.le_of_ble_eq_true rfl) rfl dX5_irreducible_20 ?_
    have q20_0 := tp_rngE (c ((z).toNat)) (by first | assumption | omega | exact pm_lt _ _ | exact rm_lt (by assumption))
    refine z_bipush C dX5_irreducible_23 (by decide) ?_
    refine z_icmp_le (tgt := 35) C (by omega) (by omega) dX5_irreducible_25 (by decide) (fun h25 => ?_) (fun h25 => ?_)
    · refine lv_aload_n C.1 C.2.1 dX5_irreducible_35 rfl (lv_at hl 0 rfl) ?_
      refine zo_get C B (Cn := RX5) (T := TX5) (N := 5) (v := .ref a) rfl inX5 0 (by decide) fl_X5_7 rfl rfl dX5_irreducible_36 ?_
      refine lv_iload_n C.1 C.2.1 dX5_irreducible_39 rfl (lv_at hl 1 rfl) ?_
      refine zo_lald C B ((z).toNat) (by omega) (by omega) dX5_irreducible_40 ?_
      have q40 := B.1.2.2.2 ((z).toNat)
      refine z_call C (c_X5_isIrreducible l (c ((z).toNat)) (by first | assumption | omega | rfl | exact decide_eq_false (by omega) | exact decide_eq_true (by assumption) | exact decide_eq_true (by omega) | exact one_shl33 (by omega) | exact pm_lt _ _ | exact rm_lt (by first | assumption | exact pm_lt _ _) | exact Nat.lt_of_le_of_lt (Nat.shiftRight_le _ _) (by assumption) | exact Nat.lt_of_le_of_lt Nat.and_le_right (by omega))) ml_X5_49 ⟨by decide, by decide⟩ ⟨Nat.le_of_ble_eq_true rfl, Nat.le_of_ble_eq_true rfl⟩ hl (Nat.le_of_ble_eq_true rfl) rfl dX5_irreducible_41 ?_
      refine z_call C (c_X5_one l (ir (c ((z).toNat))) ) ml_X5_29 ⟨by decide, by decide⟩ ⟨Nat.le_of_ble_eq_true rfl, Nat.le_of_ble_eq_true rfl⟩ hl (Nat.le_of_ble_eq_true rfl) rfl dX5_irreducible_44 ?_
      have q44_0 := zB_rng (ir (c ((z).toNat)))
      exact zo_iret C B hr hk (Nat.le_of_ble_eq_true rfl) (Nat.le_of_ble_eq_true rfl) dX5_irreducible_47 (by show some _ = some _; rw [show wI (c z.toNat) = _ from if_neg (by omega)] <;> rfl) (by rfl) (by rw [show wI (c z.toNat) = _ from if_neg (by omega)] <;> rfl)
    · refine lv_aload_n C.1 C.2.1 dX5_irreducible_28 rfl (lv_at hl 0 rfl) ?_
      refine zo_callD C B (r := some (.int (iZ (-9)))) (c_X5_no l D cJ o a (c) (0) ((ac)) ((re)) ((kn))  ) ml_X5_63 rfl ⟨Nat.le_of_ble_eq_true rfl, Nat.le_of_ble_eq_true rfl⟩ ⟨Nat.le_of_ble_eq_true rfl, Nat.le_of_ble_eq_true rfl⟩ hl (Nat.le_of_ble_eq_true rfl) rfl dX5_irreducible_29 (fun H locs B => ?_)
      refine lv_goto (tgt := 47) C.1 C.2.1 dX5_irreducible_32 (by decide) ?_
      exact zo_iret C B hr hk (Nat.le_of_ble_eq_true rfl) (Nat.le_of_ble_eq_true rfl) dX5_irreducible_47 (by show some _ = some _; rw [show wI (c z.toNat) = _ from if_pos (by omega)] <;> rfl) (by rfl) (by rw [show wI (c z.toNat) = _ from if_pos (by omega)] <;> rfl)
  · exact absurd h9 (by decide)

set_option maxHeartbeats 4000000 in
set_option maxRecDepth 100000 in
theorem c_X5_rank (l : Launch) (D : va_G) (cJ : ClassId) (o a : Nat) (c : Nat → Nat) (th : Int) (ac : Int32) (re : Int32) (kn : Int32) (z : Int) (hz : 0 ≤ z ∧ z ≤ 5) : zA l yX5_rank 5 145 0 0 D 4 cJ o a [.int (iZ (z))] c [.int (iZ (th)), .int (ac), .int (re), .int (kn)] (fun v => v = some (.int (iZ (qR (wK (c z.toNat)))))) (c) [.int (iZ (0)), .int (ac), .int (qF re (wK (c z.toNat))), .int (kn)] := by
  refine zA.intro (lo := 124) (nA := 1) (own := RX5) zi_X5_rank (by decide) rfl rfl (by decide +kernel) rfl (Nat.le_of_ble_eq_true rfl) ?_
  intro p e s m below meth c0 ls C hr hk B hl
  have hl : lv_has ls 2 [(0, .ref o), (1, .int (iZ (z)))] := hl
  refine lv_aload_n C.1 C.2.1 dX5_rank_0 rfl (lv_at hl 0 rfl) ?_
  refine lv_iload_n C.1 C.2.1 dX5_rank_1 rfl (lv_at hl 1 rfl) ?_
  refine z_call C (c_X5_isNo l (z) (by first | assumption | omega | rfl | exact decide_eq_false (by omega) | exact decide_eq_true (by assumption) | exact decide_eq_true (by omega) | exact one_shl33 (by omega) | exact pm_lt _ _ | exact rm_lt (by first | assumption | exact pm_lt _ _) | exact Nat.lt_of_le_of_lt (Nat.shiftRight_le _ _) (by assumption) | exact Nat.lt_of_le_of_lt Nat.and_le_right (by omega))) ml_X5_67 ⟨by decide, by decide⟩ ⟨Nat.le_of_ble_eq_true rfl, Nat.le_of_ble_eq_true rfl⟩ hl (Nat.le_of_ble_eq_true rfl) rfl dX5_rank_2 ?_
  refine z_iconst C dX5_rank_5 ?_
  refine zo_callD C B (r := some (.int (iZ (zB (false))))) (c_X5_start_ok l D cJ o a (c) (th) (ac) (re) (kn) (decide (¬ (0 ≤ (z) ∧ (z) ≤ 5))) (1 : Int) (by first | assumption | omega | rfl | exact decide_eq_false (by omega) | exact decide_eq_true (by assumption) | exact decide_eq_true (by omega) | exact one_shl33 (by omega) | exact pm_lt _ _ | exact rm_lt (by first | assumption | exact pm_lt _ _) | exact Nat.lt_of_le_of_lt (Nat.shiftRight_le _ _) (by assumption) | exact Nat.lt_of_le_of_lt Nat.and_le_right (by omega))) ml_X5_71 rfl ⟨Nat.le_of_ble_eq_true rfl, Nat.le_of_ble_eq_true rfl⟩ ⟨Nat.le_of_ble_eq_true rfl, Nat.le_of_ble_eq_true rfl⟩ hl (Nat.le_of_ble_eq_true rfl) rfl dX5_rank_6 (fun H locs B => ?_)
  refine z_ifB_eq (tgt := 14) C dX5_rank_9 (by decide) (fun h9 => ?_) (fun h9 => ?_)
  · refine lv_aload_n C.1 C.2.1 dX5_rank_14 rfl (lv_at hl 0 rfl) ?_
    refine zo_get C B (Cn := RX5) (T := TX5) (N := 5) (v := .ref a) rfl inX5 0 (by decide) fl_X5_7 rfl rfl dX5_rank_15 ?_
    refine lv_iload_n C.1 C.2.1 dX5_rank_18 rfl (lv_at hl 1 rfl) ?_
    refine zo_lald C B ((z).toNat) (by omega) (by omega) dX5_rank_19 ?_
    have q19 := B.1.2.2.2 ((z).toNat)
    refine z_call C (c_X5_degreeOf l (c ((z).toNat)) (by first | assumption | omega | rfl | exact decide_eq_false (by omega) | exact decide_eq_true (by assumption) | exact decide_eq_true (by omega) | exact one_shl33 (by omega) | exact pm_lt _ _ | exact rm_lt (by first | assumption | exact pm_lt _ _) | exact Nat.lt_of_le_of_lt (Nat.shiftRight_le _ _) (by assumption) | exact Nat.lt_of_le_of_lt Nat.and_le_right (by omega))) ml_X5_33 ⟨by decide, by decide⟩ ⟨Nat.le_of_ble_eq_true rfl, Nat.le_of_ble_eq_true rfl⟩ hl (Nat.le_of_ble_eq_true rfl) rfl dX5_rank_20 ?_
    have q20_0 := tp_rngE (c ((z).toNat)) (by first | assumption | omega | exact pm_lt _ _ | exact rm_lt (by assumption))
    refine z_bipush C dX5_rank_23 (by decide) ?_
    refine z_icmp_le (tgt := 35) C (by omega) (by omega) dX5_rank_25 (by decide) (fun h25 => ?_) (fun h25 => ?_)
    · refine lv_aload_n C.1 C.2.1 dX5_rank_35 rfl (lv_at hl 0 rfl) ?_
      refine zo_get C B (Cn := RX5) (T := TX5) (N := 5) (v := .ref a) rfl inX5 0 (by decide) fl_X5_7 rfl rfl dX5_rank_36 ?_
      refine lv_iload_n C.1 C.2.1 dX5_rank_39 rfl (lv_at hl 1 rfl) ?_
      refine zo_lald C B ((z).toNat) (by omega) (by omega) dX5_rank_40 ?_
      have q40 := B.1.2.2.2 ((z).toNat)
      refine z_call C (c_X5_rankOf l (c ((z).toNat)) (by have := (tp_le (n := c z.toNat) (k := 8)).mp (by omega); omega)) ml_X5_144 ⟨by decide, by decide⟩ ⟨Nat.le_of_ble_eq_true rfl, Nat.le_of_ble_eq_true rfl⟩ hl (Nat.le_of_ble_eq_true rfl) rfl dX5_rank_41 ?_
      have q41_0 := rk_rngE (c ((z).toNat))
      exact zo_iret C B hr hk (Nat.le_of_ble_eq_true rfl) (Nat.le_of_ble_eq_true rfl) dX5_rank_44 (by show some _ = some _; rw [show wK (c z.toNat) = _ from if_neg (by omega)] <;> rfl) (by rfl) (by rw [show wK (c z.toNat) = _ from if_neg (by omega)] <;> rfl)
    · refine lv_aload_n C.1 C.2.1 dX5_rank_28 rfl (lv_at hl 0 rfl) ?_
      refine zo_callD C B (r := some (.int (iZ (-9)))) (c_X5_no l D cJ o a (c) (0) ((ac)) ((re)) ((kn))  ) ml_X5_63 rfl ⟨Nat.le_of_ble_eq_true rfl, Nat.le_of_ble_eq_true rfl⟩ ⟨Nat.le_of_ble_eq_true rfl, Nat.le_of_ble_eq_true rfl⟩ hl (Nat.le_of_ble_eq_true rfl) rfl dX5_rank_29 (fun H locs B => ?_)
      refine lv_goto (tgt := 44) C.1 C.2.1 dX5_rank_32 (by decide) ?_
      exact zo_iret C B hr hk (Nat.le_of_ble_eq_true rfl) (Nat.le_of_ble_eq_true rfl) dX5_rank_44 (by show some _ = some _; rw [show wK (c z.toNat) = _ from if_pos (by omega)] <;> rfl) (by rfl) (by rw [show wK (c z.toNat) = _ from if_pos (by omega)] <;> rfl)
  · exact absurd h9 (by decide)

set_option maxHeartbeats 4000000 in
set_option maxRecDepth 100000 in
theorem c_X5_period (l : Launch) (D : va_G) (cJ : ClassId) (o a : Nat) (c : Nat → Nat) (th : Int) (ac : Int32) (re : Int32) (kn : Int32) (z : Int) (hz : 0 ≤ z ∧ z ≤ 5) : zA l yX5_period 3 100 0 0 D 4 cJ o a [.int (iZ (z))] c [.int (iZ (th)), .int (ac), .int (re), .int (kn)] (fun v => v = some (.int (iZ (qR (wD (c z.toNat)))))) (c) [.int (iZ (0)), .int (ac), .int (qF re (wD (c z.toNat))), .int (kn)] := by
  refine zA.intro (lo := 76) (nA := 1) (own := RX5) zi_X5_period (by decide) rfl rfl (by decide +kernel) rfl (Nat.le_of_ble_eq_true rfl) ?_
  intro p e s m below meth c0 ls C hr hk B hl
  have hl : lv_has ls 5 [(0, .ref o), (1, .int (iZ (z)))] := hl
  refine lv_aload_n C.1 C.2.1 dX5_period_0 rfl (lv_at hl 0 rfl) ?_
  refine lv_iload_n C.1 C.2.1 dX5_period_1 rfl (lv_at hl 1 rfl) ?_
  refine z_call C (c_X5_isNo l (z) (by first | assumption | omega | rfl | exact decide_eq_false (by omega) | exact decide_eq_true (by assumption) | exact decide_eq_true (by omega) | exact one_shl33 (by omega) | exact pm_lt _ _ | exact rm_lt (by first | assumption | exact pm_lt _ _) | exact Nat.lt_of_le_of_lt (Nat.shiftRight_le _ _) (by assumption) | exact Nat.lt_of_le_of_lt Nat.and_le_right (by omega))) ml_X5_67 ⟨by decide, by decide⟩ ⟨Nat.le_of_ble_eq_true rfl, Nat.le_of_ble_eq_true rfl⟩ hl (Nat.le_of_ble_eq_true rfl) rfl dX5_period_2 ?_
  refine z_iconst C dX5_period_5 ?_
  refine zo_callD C B (r := some (.int (iZ (zB (false))))) (c_X5_start_ok l D cJ o a (c) (th) (ac) (re) (kn) (decide (¬ (0 ≤ (z) ∧ (z) ≤ 5))) (1 : Int) (by first | assumption | omega | rfl | exact decide_eq_false (by omega) | exact decide_eq_true (by assumption) | exact decide_eq_true (by omega) | exact one_shl33 (by omega) | exact pm_lt _ _ | exact rm_lt (by first | assumption | exact pm_lt _ _) | exact Nat.lt_of_le_of_lt (Nat.shiftRight_le _ _) (by assumption) | exact Nat.lt_of_le_of_lt Nat.and_le_right (by omega))) ml_X5_71 rfl ⟨Nat.le_of_ble_eq_true rfl, Nat.le_of_ble_eq_true rfl⟩ ⟨Nat.le_of_ble_eq_true rfl, Nat.le_of_ble_eq_true rfl⟩ hl (Nat.le_of_ble_eq_true rfl) rfl dX5_period_6 (fun H locs B => ?_)
  refine z_ifB_eq (tgt := 14) C dX5_period_9 (by decide) (fun h9 => ?_) (fun h9 => ?_)
  · refine lv_aload_n C.1 C.2.1 dX5_period_14 rfl (lv_at hl 0 rfl) ?_
    refine zo_get C B (Cn := RX5) (T := TX5) (N := 5) (v := .ref a) rfl inX5 0 (by decide) fl_X5_7 rfl rfl dX5_period_15 ?_
    refine lv_iload_n C.1 C.2.1 dX5_period_18 rfl (lv_at hl 1 rfl) ?_
    refine zo_lald C B ((z).toNat) (by omega) (by omega) dX5_period_19 ?_
    have q19 := B.1.2.2.2 ((z).toNat)
    refine z_call C (c_X5_degreeOf l (c ((z).toNat)) (by first | assumption | omega | rfl | exact decide_eq_false (by omega) | exact decide_eq_true (by assumption) | exact decide_eq_true (by omega) | exact one_shl33 (by omega) | exact pm_lt _ _ | exact rm_lt (by first | assumption | exact pm_lt _ _) | exact Nat.lt_of_le_of_lt (Nat.shiftRight_le _ _) (by assumption) | exact Nat.lt_of_le_of_lt Nat.and_le_right (by omega))) ml_X5_33 ⟨by decide, by decide⟩ ⟨Nat.le_of_ble_eq_true rfl, Nat.le_of_ble_eq_true rfl⟩ hl (Nat.le_of_ble_eq_true rfl) rfl dX5_period_20 ?_
    have q20_0 := tp_rngE (c ((z).toNat)) (by first | assumption | omega | exact pm_lt _ _ | exact rm_lt (by assumption))
    refine z_iconst C dX5_period_23 ?_
    refine z_bipush C dX5_period_24 (by decide) ?_
    refine z_call C (c_X5_isIn l (tp (c ((z).toNat))) (1 : Int) (8 : Int) (by first | assumption | omega | rfl | exact decide_eq_false (by omega) | exact decide_eq_true (by assumption) | exact decide_eq_true (by omega) | exact one_shl33 (by omega) | exact pm_lt _ _ | exact rm_lt (by first | assumption | exact pm_lt _ _) | exact Nat.lt_of_le_of_lt (Nat.shiftRight_le _ _) (by assumption) | exact Nat.lt_of_le_of_lt Nat.and_le_right (by omega)) (by first | assumption | omega | rfl | exact decide_eq_false (by omega) | exact decide_eq_true (by assumption) | exact decide_eq_true (by omega) | exact one_shl33 (by omega) | exact pm_lt _ _ | exact rm_lt (by first | assumption | exact pm_lt _ _) | exact Nat.lt_of_le_of_lt (Nat.shiftRight_le _ _) (by assumption) | exact Nat.lt_of_le_of_lt Nat.and_le_right (by omega)) (by first | assumption | omega | rfl | exact decide_eq_false (by omega) | exact decide_eq_true (by assumption) | exact decide_eq_true (by omega) | exact one_shl33 (by omega) | exact pm_lt _ _ | exact rm_lt (by first | assumption | exact pm_lt _ _) | exact Nat.lt_of_le_of_lt (Nat.shiftRight_le _ _) (by assumption) | exact Nat.lt_of_le_of_lt Nat.and_le_right (by omega))) ml_X5_21 ⟨by decide, by decide⟩ ⟨Nat.le_of_ble_eq_true rfl, Nat.le_of_ble_eq_true rfl⟩ hl (Nat.le_of_ble_eq_true rfl) rfl dX5_period_26 ?_
    refine z_ifB_eq (tgt := 45) C dX5_period_29 (by decide) (fun h29 => ?_) (fun h29 => ?_)
    · refine lv_aload_n C.1 C.2.1 dX5_period_45 rfl (lv_at hl 0 rfl) ?_
      refine zo_callD C B (r := some (.int (iZ (-9)))) (c_X5_no l D cJ o a (c) (0) ((ac)) ((re)) ((kn))  ) ml_X5_63 rfl ⟨Nat.le_of_ble_eq_true rfl, Nat.le_of_ble_eq_true rfl⟩ ⟨Nat.le_of_ble_eq_true rfl, Nat.le_of_ble_eq_true rfl⟩ hl (Nat.le_of_ble_eq_true rfl) rfl dX5_period_46 (fun H locs B => ?_)
      exact zo_iret C B hr hk (Nat.le_of_ble_eq_true rfl) (Nat.le_of_ble_eq_true rfl) dX5_period_49 (by show some _ = some _; rw [show wD (c z.toNat) = _ from if_neg (fun h => absurd ⟨h.1, h.2.1⟩ (of_decide_eq_false h29))] <;> rfl) (by rfl) (by rw [show wD (c z.toNat) = _ from if_neg (fun h => absurd ⟨h.1, h.2.1⟩ (of_decide_eq_false h29))] <;> rfl)
    · refine lv_aload_n C.1 C.2.1 dX5_period_32 rfl (lv_at hl 0 rfl) ?_
      refine zo_get C B (Cn := RX5) (T := TX5) (N := 5) (v := .ref a) rfl inX5 0 (by decide) fl_X5_7 rfl rfl dX5_period_33 ?_
      refine lv_iload_n C.1 C.2.1 dX5_period_36 rfl (lv_at hl 1 rfl) ?_
      refine zo_lald C B ((z).toNat) (by omega) (by omega) dX5_period_37 ?_
      have q37 := B.1.2.2.2 ((z).toNat)
      refine z_iconst C dX5_period_38 ?_
      refine z_call C (c_X5_has l (c ((z).toNat)) (0 : Int) (by first | assumption | omega | rfl | exact decide_eq_false (by omega) | exact decide_eq_true (by assumption) | exact decide_eq_true (by omega) | exact one_shl33 (by omega) | exact pm_lt _ _ | exact rm_lt (by first | assumption | exact pm_lt _ _) | exact Nat.lt_of_le_of_lt (Nat.shiftRight_le _ _) (by assumption) | exact Nat.lt_of_le_of_lt Nat.and_le_right (by omega)) (by first | assumption | omega | rfl | exact decide_eq_false (by omega) | exact decide_eq_true (by assumption) | exact decide_eq_true (by omega) | exact one_shl33 (by omega) | exact pm_lt _ _ | exact rm_lt (by first | assumption | exact pm_lt _ _) | exact Nat.lt_of_le_of_lt (Nat.shiftRight_le _ _) (by assumption) | exact Nat.lt_of_le_of_lt Nat.and_le_right (by omega))) ml_X5_25 ⟨by decide, by decide⟩ ⟨Nat.le_of_ble_eq_true rfl, Nat.le_of_ble_eq_true rfl⟩ hl (Nat.le_of_ble_eq_true rfl) rfl dX5_period_39 ?_
      refine z_ifB_ne (tgt := 50) C dX5_period_42 (by decide) (fun h42 => ?_) (fun h42 => ?_)
      · have h29b := of_decide_eq_true h29
        have g0 := B.1.2.2.2 z.toNat
        have gm : c z.toNat < 512 := (tp_le (k := 8)).mp (by omega)
        have g3 : ¬ c z.toNat = 0 := mt tp_neg.mpr (by omega)
        have gp := pe_ok gm h29b.1 ((tb_0 _).symm.trans h42)
        have gr : ∀ y : Nat, y < 512 → rm (y <<< 1) (c z.toNat) < 512 := fun y hy => (tp_lt (k := 9)).mp (by have := rm_tp (a := y <<< 1) (shl1_lt (by omega)) (by omega) g3; omega)
        refine z_iconst C dX5_period_50 ?_
        refine lv_istore_n (lv' := [(2, .int (iZ (1))), (0, .ref o), (1, .int (iZ (z)))]) C.1 C.2.1 dX5_period_51 rfl hl (by decide) rfl (fun ls hl => ?_)
        refine z_ldc2 C 2 (T0_of kl_X5_44 rfl) (by decide) dX5_period_52 ?_
        refine lv_aload_n C.1 C.2.1 dX5_period_55 rfl (lv_at hl 1 rfl) ?_
        refine zo_get C B (Cn := RX5) (T := TX5) (N := 5) (v := .ref a) rfl inX5 0 (by decide) fl_X5_7 rfl rfl dX5_period_56 ?_
        refine lv_iload_n C.1 C.2.1 dX5_period_59 rfl (lv_at hl 2 rfl) ?_
        refine zo_lald C B ((z).toNat) (by omega) (by omega) dX5_period_60 ?_
        have q60 := B.1.2.2.2 ((z).toNat)
        refine z_call C (c_X5_restOf l (2) (c ((z).toNat)) (by omega) (by omega) (by exact g3)) ml_X5_46 ⟨by decide, by decide⟩ ⟨Nat.le_of_ble_eq_true rfl, Nat.le_of_ble_eq_true rfl⟩ hl (Nat.le_of_ble_eq_true rfl) rfl dX5_period_61 ?_
        refine lv_lstore_n (lv' := [(3, .long (lN (rm (2) (c ((z).toNat))))), (2, .int (iZ (1))), (0, .ref o), (1, .int (iZ (z)))]) C.1 C.2.1 dX5_period_64 rfl hl (by decide) rfl (fun ls hl => ?_)
        have L65 : ∀ (j : Nat) (f : Nat) (x2 : Int) (x3 : Nat) (ls : Array Slot), f < j → (x2 + (f : Int) = 255) → (1 ≤ x2) → (x3 < 512) → ((if x3 = 1 then x2 else peF (c z.toNat) f (x2 + 1) x3) = pe (c z.toNat)) → lv_has ls 5 [(0, .ref o), (1, .int (iZ (z))), (2, .int (iZ (x2))), (3, .long (lN (x3)))] → W p l e { frames := 3, cells := 0, slots := 0, locals := 76 } s m (Value.ref o :: ([.int (iZ (z))] : List Value)).toArray below meth c0 H locs (0 + 0) (0 + 0) (zE1 below D 4 cJ o a (Value.ref o :: ([.int (iZ (z))] : List Value)).toArray s 0 0 (fun v => v = some (.int (iZ (qR (wD (c z.toNat)))))) (c) [.int (iZ (0)), .int (ac), .int (qF re (wD (c z.toNat))), .int (kn)]) (F0 m 65 ls []) := by
          intro j
          induction j with
          | zero => intro f x2 x3 ls hmu; exact absurd hmu (Nat.not_lt_zero _)
          | succ j ih65 =>
            intro f x2 x3 ls hmu i65_0 i65_1 i65_2 i65_3 hl
            refine lv_lload_n C.1 C.2.1 dX5_period_65 rfl (lv_at hl 3 rfl) ?_
            refine z_lconst (k0 := 1) C dX5_period_66 rfl ?_
            refine z_lc_eq (tgt := 90) C (by first | assumption | omega | rfl | exact decide_eq_false (by omega) | exact decide_eq_true (by assumption) | exact decide_eq_true (by omega) | exact one_shl33 (by omega) | exact pm_lt _ _ | exact rm_lt (by first | assumption | exact pm_lt _ _) | exact Nat.lt_of_le_of_lt (Nat.shiftRight_le _ _) (by assumption) | exact Nat.lt_of_le_of_lt Nat.and_le_right (by omega)) (by first | assumption | omega | rfl | exact decide_eq_false (by omega) | exact decide_eq_true (by assumption) | exact decide_eq_true (by omega) | exact one_shl33 (by omega) | exact pm_lt _ _ | exact rm_lt (by first | assumption | exact pm_lt _ _) | exact Nat.lt_of_le_of_lt (Nat.shiftRight_le _ _) (by assumption) | exact Nat.lt_of_le_of_lt Nat.and_le_right (by omega)) dX5_period_67 dX5_period_68 (by decide) (fun h67 => ?_) (fun h67 => ?_)
            · refine lv_iload_n C.1 C.2.1 dX5_period_90 rfl (lv_at hl 2 rfl) ?_
              exact zo_iret C B hr hk (Nat.le_of_ble_eq_true rfl) (Nat.le_of_ble_eq_true rfl) dX5_period_91 (by show some _ = some _; rw [show wD (c z.toNat) = _ from (if_pos ⟨h29b.1, h29b.2, (tb_0 _).symm.trans h42⟩).trans (by rw [← i65_3, if_pos h67])] <;> rfl) (by rfl) (by rw [show wD (c z.toNat) = _ from (if_pos ⟨h29b.1, h29b.2, (tb_0 _).symm.trans h42⟩).trans (by rw [← i65_3, if_pos h67])] <;> rfl)
            · refine z_iinc (j := 2) (lv' := [(2, .int (iZ (x2 + 1))), (0, .ref o), (1, .int (iZ (z))), (3, .long (lN (x3)))]) C dX5_period_71 hl rfl (by decide) rfl (fun ls hl => ?_)
              refine lv_lload_n C.1 C.2.1 dX5_period_74 rfl (lv_at hl 3 rfl) ?_
              refine z_iconst C dX5_period_75 ?_
              refine z_lshl C (1) (by omega) (by omega) dX5_period_76 ?_
              refine lv_aload_n C.1 C.2.1 dX5_period_77 rfl (lv_at hl 1 rfl) ?_
              refine zo_get C B (Cn := RX5) (T := TX5) (N := 5) (v := .ref a) rfl inX5 0 (by decide) fl_X5_7 rfl rfl dX5_period_78 ?_
              refine lv_iload_n C.1 C.2.1 dX5_period_81 rfl (lv_at hl 2 rfl) ?_
              refine zo_lald C B ((z).toNat) (by omega) (by omega) dX5_period_82 ?_
              have q82 := B.1.2.2.2 ((z).toNat)
              refine z_call C (c_X5_restOf l ((x3) <<< (1)) (c ((z).toNat)) (by exact shl1_lt (by omega)) (by omega) (by exact g3)) ml_X5_46 ⟨by decide, by decide⟩ ⟨Nat.le_of_ble_eq_true rfl, Nat.le_of_ble_eq_true rfl⟩ hl (Nat.le_of_ble_eq_true rfl) rfl dX5_period_83 ?_
              refine lv_lstore_n (lv' := [(3, .long (lN (rm ((x3) <<< (1)) (c ((z).toNat))))), (2, .int (iZ (x2 + 1))), (0, .ref o), (1, .int (iZ (z)))]) C.1 C.2.1 dX5_period_86 rfl hl (by decide) rfl (fun ls hl => ?_)
              refine lv_goto (tgt := 65) C.1 C.2.1 dX5_period_87 (by decide) ?_
              obtain ⟨f, rfl⟩ : ∃ g, f = g + 1 := ⟨f - 1, by have : f ≠ 0 := (fun h => gp (by rw [← i65_3, h, if_neg h67]; rfl)); omega⟩
              rw [if_neg h67, peF] at i65_3
              exact ih65 (f) _ _ _ (by omega) (by omega) (by omega) (by exact gr x3 i65_2) (by exact i65_3) (lv_sub hl [2, 3, 1, 0] rfl)
        exact L65 _ (254) _ _ _ (by exact Nat.lt_succ_self _) (by rfl) (by omega) (by exact gr 1 (by omega)) (by rfl) (lv_sub hl [2, 3, 1, 0] rfl)
      · refine lv_aload_n C.1 C.2.1 dX5_period_45 rfl (lv_at hl 0 rfl) ?_
        refine zo_callD C B (r := some (.int (iZ (-9)))) (c_X5_no l D cJ o a (c) (0) ((ac)) ((re)) ((kn))  ) ml_X5_63 rfl ⟨Nat.le_of_ble_eq_true rfl, Nat.le_of_ble_eq_true rfl⟩ ⟨Nat.le_of_ble_eq_true rfl, Nat.le_of_ble_eq_true rfl⟩ hl (Nat.le_of_ble_eq_true rfl) rfl dX5_period_46 (fun H locs B => ?_)
        exact zo_iret C B hr hk (Nat.le_of_ble_eq_true rfl) (Nat.le_of_ble_eq_true rfl) dX5_period_49 (by show some _ = some _; rw [show wD (c z.toNat) = _ from if_neg (fun h => absurd ((tb_0 (c z.toNat)).trans h.2.2) (by rw [h42]; decide))] <;> rfl) (by rfl) (by rw [show wD (c z.toNat) = _ from if_neg (fun h => absurd ((tb_0 (c z.toNat)).trans h.2.2) (by rw [h42]; decide))] <;> rfl)
  · exact absurd h9 (by decide)

set_option maxHeartbeats 4000000 in
set_option maxRecDepth 100000 in
theorem c_X5_many (l : Launch) (D : va_G) (cJ : ClassId) (o a : Nat) (c : Nat → Nat) (th : Int) (ac : Int32) (re : Int32) (kn : Int32) (d : Int) (hd : 1 ≤ d ∧ d ≤ 8) : zA l yX5_many 5 144 0 0 D 4 cJ o a [.int (iZ (d))] c [.int (iZ (th)), .int (ac), .int (re), .int (kn)] (fun v => v = some (.int (iZ (cb (2 ^ d.toNat) (2 ^ (d.toNat + 1)))))) (c) [.int (iZ (0)), .int (ac), .int (re), .int (kn)] := by
  refine zA.intro (lo := 123) (nA := 1) (own := RX5) zi_X5_many (by decide) rfl rfl (by decide +kernel) rfl (Nat.le_of_ble_eq_true rfl) ?_
  intro p e s m below meth c0 ls C hr hk B hl
  have hl : lv_has ls 2 [(0, .ref o), (1, .int (iZ (d)))] := hl
  refine lv_aload_n C.1 C.2.1 dX5_many_0 rfl (lv_at hl 0 rfl) ?_
  refine lv_iload_n C.1 C.2.1 dX5_many_1 rfl (lv_at hl 1 rfl) ?_
  refine z_iconst C dX5_many_2 ?_
  refine z_bipush C dX5_many_3 (by decide) ?_
  refine z_call C (c_X5_isIn l (d) (1 : Int) (8 : Int) (by first | assumption | omega | rfl | exact decide_eq_false (by omega) | exact decide_eq_true (by assumption) | exact decide_eq_true (by omega) | exact one_shl33 (by omega) | exact pm_lt _ _ | exact rm_lt (by first | assumption | exact pm_lt _ _) | exact Nat.lt_of_le_of_lt (Nat.shiftRight_le _ _) (by assumption) | exact Nat.lt_of_le_of_lt Nat.and_le_right (by omega)) (by first | assumption | omega | rfl | exact decide_eq_false (by omega) | exact decide_eq_true (by assumption) | exact decide_eq_true (by omega) | exact one_shl33 (by omega) | exact pm_lt _ _ | exact rm_lt (by first | assumption | exact pm_lt _ _) | exact Nat.lt_of_le_of_lt (Nat.shiftRight_le _ _) (by assumption) | exact Nat.lt_of_le_of_lt Nat.and_le_right (by omega)) (by first | assumption | omega | rfl | exact decide_eq_false (by omega) | exact decide_eq_true (by assumption) | exact decide_eq_true (by omega) | exact one_shl33 (by omega) | exact pm_lt _ _ | exact rm_lt (by first | assumption | exact pm_lt _ _) | exact Nat.lt_of_le_of_lt (Nat.shiftRight_le _ _) (by assumption) | exact Nat.lt_of_le_of_lt Nat.and_le_right (by omega))) ml_X5_21 ⟨by decide, by decide⟩ ⟨Nat.le_of_ble_eq_true rfl, Nat.le_of_ble_eq_true rfl⟩ hl (Nat.le_of_ble_eq_true rfl) rfl dX5_many_5 ?_
  refine z_ifB_ne (tgt := 15) C dX5_many_8 (by decide) (fun h8 => ?_) (fun h8 => ?_)
  · refine z_iconst C dX5_many_15 ?_
    refine z_iconst C dX5_many_16 ?_
    refine zo_callD C B (r := some (.int (iZ (zB (false))))) (c_X5_start_ok l D cJ o a (c) (th) (ac) (re) (kn) (false) (1 : Int) (by first | assumption | omega | rfl | exact decide_eq_false (by omega) | exact decide_eq_true (by assumption) | exact decide_eq_true (by omega) | exact one_shl33 (by omega) | exact pm_lt _ _ | exact rm_lt (by first | assumption | exact pm_lt _ _) | exact Nat.lt_of_le_of_lt (Nat.shiftRight_le _ _) (by assumption) | exact Nat.lt_of_le_of_lt Nat.and_le_right (by omega))) ml_X5_71 rfl ⟨Nat.le_of_ble_eq_true rfl, Nat.le_of_ble_eq_true rfl⟩ ⟨Nat.le_of_ble_eq_true rfl, Nat.le_of_ble_eq_true rfl⟩ hl (Nat.le_of_ble_eq_true rfl) rfl dX5_many_17 (fun H locs B => ?_)
    refine z_ifB_eq (tgt := 27) C dX5_many_20 (by decide) (fun h20 => ?_) (fun h20 => ?_)
    · refine lv_iload_n C.1 C.2.1 dX5_many_27 rfl (lv_at hl 1 rfl) ?_
      refine z_call C (c_X5_howMany l (d) (by first | assumption | omega | rfl | exact decide_eq_false (by omega) | exact decide_eq_true (by assumption) | exact decide_eq_true (by omega) | exact one_shl33 (by omega) | exact pm_lt _ _ | exact rm_lt (by first | assumption | exact pm_lt _ _) | exact Nat.lt_of_le_of_lt (Nat.shiftRight_le _ _) (by assumption) | exact Nat.lt_of_le_of_lt Nat.and_le_right (by omega))) ml_X5_149 ⟨by decide, by decide⟩ ⟨Nat.le_of_ble_eq_true rfl, Nat.le_of_ble_eq_true rfl⟩ hl (Nat.le_of_ble_eq_true rfl) rfl dX5_many_28 ?_
      have q28_0 := cb_rngE (2 ^ (d).toNat) (2 ^ ((d).toNat + 1))
      exact zo_iret C B hr hk (Nat.le_of_ble_eq_true rfl) (Nat.le_of_ble_eq_true rfl) dX5_many_31 (by exact congrArg (fun z : Int => some (Value.int (iZ z))) (by rfl)) (by rfl) (by rfl)
    · exact absurd h20 (by decide)
  · exact absurd (of_decide_eq_false h8) (by omega)

set_option maxHeartbeats 4000000 in
set_option maxRecDepth 100000 in
theorem c_X5_found (l : Launch) (D : va_G) (cJ : ClassId) (o a : Nat) (c : Nat → Nat) (th : Int) (ac : Int32) (re : Int32) (kn : Int32) (z : Int) (b : Bool) (hz : 0 ≤ z ∧ z ≤ 5) : zA l yX5_found 0 24 0 0 D 4 cJ o a [.int (iZ (z)), .int (iZ (zB (b)))] c [.int (iZ (th)), .int (ac), .int (re), .int (kn)] (fun v => v = some (.int (iZ (fdF c (c z.toNat) b z 6)))) (c) [.int (iZ (th)), .int (ac), .int (re), .int (kn)] := by
  refine zA.intro (lo := 0) (nA := 2) (own := RX5) zi_X5_found (by decide) rfl rfl (by decide +kernel) rfl (Nat.le_of_ble_eq_true rfl) ?_
  intro p e s m below meth c0 ls C hr hk B hl
  have hl : lv_has ls 5 [(0, .ref o), (1, .int (iZ (z))), (2, .int (iZ (zB (b))))] := hl
  refine lv_iload_n C.1 C.2.1 dX5_found_0 rfl (lv_at hl 1 rfl) ?_
  refine lv_istore_n (lv' := [(3, .int (iZ (z))), (0, .ref o), (1, .int (iZ (z))), (2, .int (iZ (zB (b))))]) C.1 C.2.1 dX5_found_1 rfl hl (by decide) rfl (fun ls hl => ?_)
  refine z_iconst C dX5_found_2 ?_
  refine lv_istore (lv' := [(4, .int (iZ (0))), (3, .int (iZ (z))), (0, .ref o), (1, .int (iZ (z))), (2, .int (iZ (zB (b))))]) C.1 C.2.1 dX5_found_3 hl (by decide) rfl (fun ls hl => ?_)
  have L5 : ∀ (j : Nat) (k : Nat) (x3 : Int) (x4 : Int) (ls : Array Slot), 6 - k < j → (x4 = (k : Int)) → (k ≤ 6) → (x3 = fdF c (c z.toNat) b z k) → lv_has ls 5 [(0, .ref o), (1, .int (iZ (z))), (2, .int (iZ (zB (b)))), (3, .int (iZ (x3))), (4, .int (iZ (x4)))] → W p l e { frames := 0, cells := 0, slots := 0, locals := 0 } s m (Value.ref o :: ([.int (iZ (z)), .int (iZ (zB (b)))] : List Value)).toArray below meth c0 s.heap [] 0 0 (zE1 below D 4 cJ o a (Value.ref o :: ([.int (iZ (z)), .int (iZ (zB (b)))] : List Value)).toArray s 0 0 (fun v => v = some (.int (iZ (fdF c (c z.toNat) b z 6)))) (c) [.int (iZ (th)), .int (ac), .int (re), .int (kn)]) (F0 m 5 ls []) := by
    intro j
    induction j with
    | zero => intro k x3 x4 ls hmu; exact absurd hmu (Nat.not_lt_zero _)
    | succ j ih5 =>
      intro k x3 x4 ls hmu i5_0 i5_1 i5_2 hl
      have hf := fdF_rng c (c z.toNat) b z hz k (by omega)
      refine lv_iload C.1 C.2.1 dX5_found_5 (lv_at hl 4 rfl) ?_
      refine z_bipush C dX5_found_7 (by decide) ?_
      refine z_icmp_ge (tgt := 57) C (by omega) (by omega) dX5_found_9 (by decide) (fun h9 => ?_) (fun h9 => ?_)
      · refine lv_iload_n C.1 C.2.1 dX5_found_57 rfl (lv_at hl 3 rfl) ?_
        exact zo_iret C B hr hk (Nat.le_of_ble_eq_true rfl) (Nat.le_of_ble_eq_true rfl) dX5_found_58 (by exact congrArg (fun z : Int => some (Value.int (iZ z))) (by rw [i5_2, show k = 6 by omega])) (by rfl) (by rfl)
      · refine lv_aload_n C.1 C.2.1 dX5_found_12 rfl (lv_at hl 0 rfl) ?_
        refine zo_get C B (Cn := RX5) (T := TX5) (N := 5) (v := .ref a) rfl inX5 0 (by decide) fl_X5_7 rfl rfl dX5_found_13 ?_
        refine lv_iload C.1 C.2.1 dX5_found_16 (lv_at hl 4 rfl) ?_
        refine zo_lald C B (k) (by omega) (by omega) dX5_found_18 ?_
        have q18 := B.1.2.2.2 (k)
        refine lv_aload_n C.1 C.2.1 dX5_found_19 rfl (lv_at hl 0 rfl) ?_
        refine zo_get C B (Cn := RX5) (T := TX5) (N := 5) (v := .ref a) rfl inX5 0 (by decide) fl_X5_7 rfl rfl dX5_found_20 ?_
        refine lv_iload_n C.1 C.2.1 dX5_found_23 rfl (lv_at hl 1 rfl) ?_
        refine zo_lald C B ((z).toNat) (by omega) (by omega) dX5_found_24 ?_
        have q24 := B.1.2.2.2 ((z).toNat)
        refine z_lc_ne (tgt := 51) C (by first | assumption | omega | rfl | exact decide_eq_false (by omega) | exact decide_eq_true (by assumption) | exact decide_eq_true (by omega) | exact one_shl33 (by omega) | exact pm_lt _ _ | exact rm_lt (by first | assumption | exact pm_lt _ _) | exact Nat.lt_of_le_of_lt (Nat.shiftRight_le _ _) (by assumption) | exact Nat.lt_of_le_of_lt Nat.and_le_right (by omega)) (by first | assumption | omega | rfl | exact decide_eq_false (by omega) | exact decide_eq_true (by assumption) | exact decide_eq_true (by omega) | exact one_shl33 (by omega) | exact pm_lt _ _ | exact rm_lt (by first | assumption | exact pm_lt _ _) | exact Nat.lt_of_le_of_lt (Nat.shiftRight_le _ _) (by assumption) | exact Nat.lt_of_le_of_lt Nat.and_le_right (by omega)) dX5_found_25 dX5_found_26 (by decide) (fun h25 => ?_) (fun h25 => ?_)
        · refine z_iinc (j := 4) (lv' := [(4, .int (iZ (x4 + 1))), (0, .ref o), (1, .int (iZ (z))), (2, .int (iZ (zB (b)))), (3, .int (iZ (x3)))]) C dX5_found_51 hl rfl (by decide) rfl (fun ls hl => ?_)
          refine lv_goto (tgt := 5) C.1 C.2.1 dX5_found_54 (by decide) ?_
          exact ih5 (k + 1) _ _ _ (by omega) (by omega) (by omega) (by rw [fdF, fdS, if_neg (fun h => h25 h.1)]; exact i5_2) (lv_sub hl [1, 2, 3, 4, 0] rfl)
        · refine lv_iload_n C.1 C.2.1 dX5_found_29 rfl (lv_at hl 2 rfl) ?_
          refine z_ifB_eq (tgt := 42) C dX5_found_30 (by decide) (fun h30 => ?_) (fun h30 => ?_)
          · refine lv_iload C.1 C.2.1 dX5_found_42 (lv_at hl 4 rfl) ?_
            refine lv_iload_n C.1 C.2.1 dX5_found_44 rfl (lv_at hl 3 rfl) ?_
            refine z_icmp_ge (tgt := 51) C (by omega) (by omega) dX5_found_45 (by decide) (fun h45 => ?_) (fun h45 => ?_)
            · refine z_iinc (j := 4) (lv' := [(4, .int (iZ (x4 + 1))), (0, .ref o), (1, .int (iZ (z))), (2, .int (iZ (zB (b)))), (3, .int (iZ (x3)))]) C dX5_found_51 hl rfl (by decide) rfl (fun ls hl => ?_)
              refine lv_goto (tgt := 5) C.1 C.2.1 dX5_found_54 (by decide) ?_
              exact ih5 (k + 1) _ _ _ (by omega) (by omega) (by omega) (by rw [fdF, fdS, if_neg (fun h => absurd h.2 (by rw [if_neg (by rw [h30]; decide)]; omega))]; exact i5_2) (lv_sub hl [1, 2, 3, 4, 0] rfl)
            · refine lv_iload C.1 C.2.1 dX5_found_48 (lv_at hl 4 rfl) ?_
              refine lv_istore_n (lv' := [(3, .int (iZ (x4))), (0, .ref o), (1, .int (iZ (z))), (2, .int (iZ (zB (b)))), (4, .int (iZ (x4)))]) C.1 C.2.1 dX5_found_50 rfl hl (by decide) rfl (fun ls hl => ?_)
              refine z_iinc (j := 4) (lv' := [(4, .int (iZ (x4 + 1))), (3, .int (iZ (x4))), (0, .ref o), (1, .int (iZ (z))), (2, .int (iZ (zB (b))))]) C dX5_found_51 hl rfl (by decide) rfl (fun ls hl => ?_)
              refine lv_goto (tgt := 5) C.1 C.2.1 dX5_found_54 (by decide) ?_
              exact ih5 (k + 1) _ _ _ (by omega) (by omega) (by omega) (by rw [fdF, fdS, if_pos ⟨h25, by rw [if_neg (by rw [h30]; decide)]; omega⟩]; exact i5_0) (lv_sub hl [2, 3, 4, 1, 0] rfl)
          · refine lv_iload C.1 C.2.1 dX5_found_33 (lv_at hl 4 rfl) ?_
            refine lv_iload_n C.1 C.2.1 dX5_found_35 rfl (lv_at hl 3 rfl) ?_
            refine z_icmp_le (tgt := 51) C (by omega) (by omega) dX5_found_36 (by decide) (fun h36 => ?_) (fun h36 => ?_)
            · refine z_iinc (j := 4) (lv' := [(4, .int (iZ (x4 + 1))), (0, .ref o), (1, .int (iZ (z))), (2, .int (iZ (zB (b)))), (3, .int (iZ (x3)))]) C dX5_found_51 hl rfl (by decide) rfl (fun ls hl => ?_)
              refine lv_goto (tgt := 5) C.1 C.2.1 dX5_found_54 (by decide) ?_
              exact ih5 (k + 1) _ _ _ (by omega) (by omega) (by omega) (by rw [fdF, fdS, if_neg (fun h => absurd h.2 (by rw [if_pos h30]; omega))]; exact i5_2) (lv_sub hl [1, 2, 3, 4, 0] rfl)
            · refine lv_goto (tgt := 48) C.1 C.2.1 dX5_found_39 (by decide) ?_
              refine lv_iload C.1 C.2.1 dX5_found_48 (lv_at hl 4 rfl) ?_
              refine lv_istore_n (lv' := [(3, .int (iZ (x4))), (0, .ref o), (1, .int (iZ (z))), (2, .int (iZ (zB (b)))), (4, .int (iZ (x4)))]) C.1 C.2.1 dX5_found_50 rfl hl (by decide) rfl (fun ls hl => ?_)
              refine z_iinc (j := 4) (lv' := [(4, .int (iZ (x4 + 1))), (3, .int (iZ (x4))), (0, .ref o), (1, .int (iZ (z))), (2, .int (iZ (zB (b))))]) C dX5_found_51 hl rfl (by decide) rfl (fun ls hl => ?_)
              refine lv_goto (tgt := 5) C.1 C.2.1 dX5_found_54 (by decide) ?_
              exact ih5 (k + 1) _ _ _ (by omega) (by omega) (by omega) (by rw [fdF, fdS, if_pos ⟨h25, by rw [if_pos h30]; omega⟩]; exact i5_0) (lv_sub hl [2, 3, 4, 1, 0] rfl)
  exact L5 _ (0) _ _ _ (by exact Nat.lt_succ_self _) (by rfl) (by omega) (by rfl) (lv_sub hl [2, 3, 4, 1, 0] rfl)

set_option maxHeartbeats 4000000 in
set_option maxRecDepth 100000 in
theorem c_X5_find (l : Launch) (D : va_G) (cJ : ClassId) (o a : Nat) (c : Nat → Nat) (th : Int) (ac : Int32) (re : Int32) (kn : Int32) (z : Int) (b : Bool) (hz : 0 ≤ z ∧ z ≤ 5) : zA l yX5_find 2 66 0 0 D 4 cJ o a [.int (iZ (z)), .int (iZ (zB (b)))] c [.int (iZ (th)), .int (ac), .int (re), .int (kn)] (fun v => v = some (.int (iZ (fdF c (c z.toNat) b z 6)))) (c) [.int (iZ (0)), .int (ac), .int (re), .int (kn)] := by
  refine zA.intro (lo := 44) (nA := 2) (own := RX5) zi_X5_find (by decide) rfl rfl (by decide +kernel) rfl (Nat.le_of_ble_eq_true rfl) ?_
  intro p e s m below meth c0 ls C hr hk B hl
  have hl : lv_has ls 3 [(0, .ref o), (1, .int (iZ (z))), (2, .int (iZ (zB (b))))] := hl
  refine lv_aload_n C.1 C.2.1 dX5_find_0 rfl (lv_at hl 0 rfl) ?_
  refine lv_iload_n C.1 C.2.1 dX5_find_1 rfl (lv_at hl 1 rfl) ?_
  refine z_call C (c_X5_isNo l (z) (by first | assumption | omega | rfl | exact decide_eq_false (by omega) | exact decide_eq_true (by assumption) | exact decide_eq_true (by omega) | exact one_shl33 (by omega) | exact pm_lt _ _ | exact rm_lt (by first | assumption | exact pm_lt _ _) | exact Nat.lt_of_le_of_lt (Nat.shiftRight_le _ _) (by assumption) | exact Nat.lt_of_le_of_lt Nat.and_le_right (by omega))) ml_X5_67 ⟨by decide, by decide⟩ ⟨Nat.le_of_ble_eq_true rfl, Nat.le_of_ble_eq_true rfl⟩ hl (Nat.le_of_ble_eq_true rfl) rfl dX5_find_2 ?_
  refine z_iconst C dX5_find_5 ?_
  refine zo_callD C B (r := some (.int (iZ (zB (false))))) (c_X5_start_ok l D cJ o a (c) (th) (ac) (re) (kn) (decide (¬ (0 ≤ (z) ∧ (z) ≤ 5))) (1 : Int) (by first | assumption | omega | rfl | exact decide_eq_false (by omega) | exact decide_eq_true (by assumption) | exact decide_eq_true (by omega) | exact one_shl33 (by omega) | exact pm_lt _ _ | exact rm_lt (by first | assumption | exact pm_lt _ _) | exact Nat.lt_of_le_of_lt (Nat.shiftRight_le _ _) (by assumption) | exact Nat.lt_of_le_of_lt Nat.and_le_right (by omega))) ml_X5_71 rfl ⟨Nat.le_of_ble_eq_true rfl, Nat.le_of_ble_eq_true rfl⟩ ⟨Nat.le_of_ble_eq_true rfl, Nat.le_of_ble_eq_true rfl⟩ hl (Nat.le_of_ble_eq_true rfl) rfl dX5_find_6 (fun H locs B => ?_)
  refine z_ifB_eq (tgt := 16) C dX5_find_9 (by decide) (fun h9 => ?_) (fun h9 => ?_)
  · refine lv_aload_n C.1 C.2.1 dX5_find_16 rfl (lv_at hl 0 rfl) ?_
    refine lv_iload_n C.1 C.2.1 dX5_find_17 rfl (lv_at hl 1 rfl) ?_
    refine lv_iload_n C.1 C.2.1 dX5_find_18 rfl (lv_at hl 2 rfl) ?_
    refine zo_callD C B (r := some (.int (iZ (fdF (c) ((c) (z).toNat) (b) (z) 6)))) (c_X5_found l D cJ o a (c) (0) ((ac)) ((re)) ((kn)) (z) (b) (by first | assumption | omega | rfl | exact decide_eq_false (by omega) | exact decide_eq_true (by assumption) | exact decide_eq_true (by omega) | exact one_shl33 (by omega) | exact pm_lt _ _ | exact rm_lt (by first | assumption | exact pm_lt _ _) | exact Nat.lt_of_le_of_lt (Nat.shiftRight_le _ _) (by assumption) | exact Nat.lt_of_le_of_lt Nat.and_le_right (by omega))) ml_X5_157 rfl ⟨Nat.le_of_ble_eq_true rfl, Nat.le_of_ble_eq_true rfl⟩ ⟨Nat.le_of_ble_eq_true rfl, Nat.le_of_ble_eq_true rfl⟩ hl (Nat.le_of_ble_eq_true rfl) rfl dX5_find_19 (fun H locs B => ?_)
    have q19_0 := fd_rngE ((c)) (b) (z) (by omega)
    exact zo_iret C B hr hk (Nat.le_of_ble_eq_true rfl) (Nat.le_of_ble_eq_true rfl) dX5_find_22 (by exact congrArg (fun z : Int => some (Value.int (iZ z))) (by rfl)) (by rfl) (by rfl)
  · exact absurd h9 (by decide)

set_option maxHeartbeats 4000000 in
set_option maxRecDepth 100000 in
theorem c_X5_houseTold (l : Launch) (D : va_G) (cJ : ClassId) (o a : Nat) (c : Nat → Nat) (th : Int) (ac : Int32) (re : Int32) (kn : Int32) (z : Int) (hz : 0 ≤ z ∧ z ≤ 4) : zA l yX5_houseTold 2 73 0 0 D 4 cJ o a [.int (iZ (z))] c [.int (iZ (th)), .int (ac), .int (re), .int (kn)] (fun v => v = some (.int (hm3 c ac re kn z))) (c) [.int (iZ (th)), .int (ac), .int (re), .int (kn)] := by
  refine zA.intro (lo := 45) (nA := 1) (own := RX5) zi_X5_houseTold (by decide) rfl rfl (by decide +kernel) rfl (Nat.le_of_ble_eq_true rfl) ?_
  intro p e s m below meth c0 ls C hr hk B hl
  have hl : lv_has ls 9 [(0, .ref o), (1, .int (iZ (z)))] := hl
  refine z_iconst C dX5_houseTold_0 ?_
  refine lv_istore_n (lv' := [(2, .int (iZ (0))), (0, .ref o), (1, .int (iZ (z)))]) C.1 C.2.1 dX5_houseTold_1 rfl hl (by decide) rfl (fun ls hl => ?_)
  refine z_iconst C dX5_houseTold_2 ?_
  refine lv_istore_n (lv' := [(3, .int (iZ (0))), (2, .int (iZ (0))), (0, .ref o), (1, .int (iZ (z)))]) C.1 C.2.1 dX5_houseTold_3 rfl hl (by decide) rfl (fun ls hl => ?_)
  refine lv_aload_n C.1 C.2.1 dX5_houseTold_4 rfl (lv_at hl 2 rfl) ?_
  refine zo_get C B (Cn := RX5) (T := TX5) (N := 5) (v := .ref a) rfl inX5 0 (by decide) fl_X5_7 rfl rfl dX5_houseTold_5 ?_
  refine lv_astore (lv' := [(4, .ref a), (3, .int (iZ (0))), (2, .int (iZ (0))), (0, .ref o), (1, .int (iZ (z)))]) C.1 C.2.1 dX5_houseTold_8 hl (by decide) rfl (fun ls hl => ?_)
  refine lv_aload C.1 C.2.1 dX5_houseTold_10 (lv_at hl 0 rfl) ?_
  refine zo_alen C B dX5_houseTold_12 ?_
  refine lv_istore (lv' := [(5, .int (iZ (6))), (4, .ref a), (3, .int (iZ (0))), (2, .int (iZ (0))), (0, .ref o), (1, .int (iZ (z)))]) C.1 C.2.1 dX5_houseTold_13 hl (by decide) rfl (fun ls hl => ?_)
  refine z_iconst C dX5_houseTold_15 ?_
  refine lv_istore (lv' := [(6, .int (iZ (0))), (5, .int (iZ (6))), (4, .ref a), (3, .int (iZ (0))), (2, .int (iZ (0))), (0, .ref o), (1, .int (iZ (z)))]) C.1 C.2.1 dX5_houseTold_16 hl (by decide) rfl (fun ls hl => ?_)
  have L18 : ∀ (j : Nat) (k : Nat) (x2 : Int) (x3 : Int) (x6 : Int) (ls : Array Slot), 6 - k < j → (x6 = (k : Int)) → (k ≤ 6) → (x2 = zmF c k) → (x3 = wmF c k) → lv_has ls 9 [(0, .ref o), (1, .int (iZ (z))), (2, .int (iZ (x2))), (3, .int (iZ (x3))), (4, .ref a), (5, .int (iZ (6))), (6, .int (iZ (x6)))] → W p l e { frames := 2, cells := 0, slots := 0, locals := 45 } s m (Value.ref o :: ([.int (iZ (z))] : List Value)).toArray below meth c0 s.heap [] 0 0 (zE1 below D 4 cJ o a (Value.ref o :: ([.int (iZ (z))] : List Value)).toArray s 0 0 (fun v => v = some (.int (hm3 c ac re kn z))) (c) [.int (iZ (th)), .int (ac), .int (re), .int (kn)]) (F0 m 18 ls []) := by
    intro j
    induction j with
    | zero => intro k x2 x3 x6 ls hmu; exact absurd hmu (Nat.not_lt_zero _)
    | succ j ih18 =>
      intro k x2 x3 x6 ls hmu i18_0 i18_1 i18_2 i18_3 hl
      have hf := zmF_rng c k
      have hf2 := wmF_rng c k
      refine lv_iload C.1 C.2.1 dX5_houseTold_18 (lv_at hl 6 rfl) ?_
      refine lv_iload C.1 C.2.1 dX5_houseTold_20 (lv_at hl 5 rfl) ?_
      refine z_icmp_ge (tgt := 64) C (by omega) (by omega) dX5_houseTold_22 (by decide) (fun h22 => ?_) (fun h22 => ?_)
      · refine lv_iload_n C.1 C.2.1 dX5_houseTold_64 rfl (lv_at hl 1 rfl) ?_
        by_cases hs : (z) = 0
        · refine z_tableIn (off := 31) (tgt := 96) C dX5_houseTold_65 (by omega) (by omega) (by omega) (by rw [hs]; rfl) (by decide) ?_
          refine lv_aload_n C.1 C.2.1 dX5_houseTold_96 rfl (lv_at hl 0 rfl) ?_
          refine zo_get C B (Cn := RX5) (T := TX5) (N := 5) (v := .int (ac)) rfl inX5 2 (by decide) fl_X5_53 rfl rfl dX5_houseTold_97 ?_
          exact zo_iret C B hr hk (Nat.le_of_ble_eq_true rfl) (Nat.le_of_ble_eq_true rfl) dX5_houseTold_100 (by rw [hs, hm3, if_pos rfl]) (by rfl) (by rfl)
        · skip
          by_cases hs : (z) = 1
          · refine z_tableIn (off := 36) (tgt := 101) C dX5_houseTold_65 (by omega) (by omega) (by omega) (by rw [hs]; rfl) (by decide) ?_
            refine lv_aload_n C.1 C.2.1 dX5_houseTold_101 rfl (lv_at hl 0 rfl) ?_
            refine zo_get C B (Cn := RX5) (T := TX5) (N := 5) (v := .int (re)) rfl inX5 3 (by decide) fl_X5_56 rfl rfl dX5_houseTold_102 ?_
            exact zo_iret C B hr hk (Nat.le_of_ble_eq_true rfl) (Nat.le_of_ble_eq_true rfl) dX5_houseTold_105 (by rw [hs, hm3, if_neg (by decide), if_pos rfl]) (by rfl) (by rfl)
          · skip
            by_cases hs : (z) = 2
            · refine z_tableIn (off := 41) (tgt := 106) C dX5_houseTold_65 (by omega) (by omega) (by omega) (by rw [hs]; rfl) (by decide) ?_
              refine lv_aload_n C.1 C.2.1 dX5_houseTold_106 rfl (lv_at hl 0 rfl) ?_
              refine zo_get C B (Cn := RX5) (T := TX5) (N := 5) (v := .int (kn)) rfl inX5 4 (by decide) fl_X5_161 rfl rfl dX5_houseTold_107 ?_
              exact zo_iret C B hr hk (Nat.le_of_ble_eq_true rfl) (Nat.le_of_ble_eq_true rfl) dX5_houseTold_110 (by rw [hs, hm3, if_neg (by decide), if_neg (by decide), if_pos rfl]) (by rfl) (by rfl)
            · skip
              by_cases hs : (z) = 3
              · refine z_tableIn (off := 46) (tgt := 111) C dX5_houseTold_65 (by omega) (by omega) (by omega) (by rw [hs]; rfl) (by decide) ?_
                refine lv_iload_n C.1 C.2.1 dX5_houseTold_111 rfl (lv_at hl 2 rfl) ?_
                exact zo_iret C B hr hk (Nat.le_of_ble_eq_true rfl) (Nat.le_of_ble_eq_true rfl) dX5_houseTold_112 (by rw [hs, hm3, if_neg (by decide), if_neg (by decide), if_neg (by decide), if_pos rfl, i18_2, show k = 6 by omega]) (by rfl) (by rfl)
              · skip
                refine z_tableOut (tgt := 113) C dX5_houseTold_65 (by omega) (by omega) (by decide) ?_
                refine lv_iload_n C.1 C.2.1 dX5_houseTold_113 rfl (lv_at hl 3 rfl) ?_
                exact zo_iret C B hr hk (Nat.le_of_ble_eq_true rfl) (Nat.le_of_ble_eq_true rfl) dX5_houseTold_114 (by rw [show z = 4 by omega, hm3, if_neg (by decide), if_neg (by decide), if_neg (by decide), if_neg (by decide), i18_3, show k = 6 by omega]) (by rfl) (by rfl)
      · refine lv_aload C.1 C.2.1 dX5_houseTold_25 (lv_at hl 4 rfl) ?_
        refine lv_iload C.1 C.2.1 dX5_houseTold_27 (lv_at hl 6 rfl) ?_
        refine zo_lald C B (k) (by omega) (by omega) dX5_houseTold_29 ?_
        have q29 := B.1.2.2.2 (k)
        refine lv_lstore (lv' := [(7, .long (lN (c (k)))), (0, .ref o), (1, .int (iZ (z))), (2, .int (iZ (x2))), (3, .int (iZ (x3))), (4, .ref a), (5, .int (iZ (6))), (6, .int (iZ (x6)))]) C.1 C.2.1 dX5_houseTold_30 hl (by decide) rfl (fun ls hl => ?_)
        refine lv_iload_n C.1 C.2.1 dX5_houseTold_32 rfl (lv_at hl 3 rfl) ?_
        refine lv_lload C.1 C.2.1 dX5_houseTold_33 (lv_at hl 0 rfl) ?_
        refine z_lconst (k0 := 0) C dX5_houseTold_35 rfl ?_
        refine z_lc_ne (tgt := 44) C (by first | assumption | omega | rfl | exact decide_eq_false (by omega) | exact decide_eq_true (by assumption) | exact decide_eq_true (by omega) | exact one_shl33 (by omega) | exact pm_lt _ _ | exact rm_lt (by first | assumption | exact pm_lt _ _) | exact Nat.lt_of_le_of_lt (Nat.shiftRight_le _ _) (by assumption) | exact Nat.lt_of_le_of_lt Nat.and_le_right (by omega)) (by first | assumption | omega | rfl | exact decide_eq_false (by omega) | exact decide_eq_true (by assumption) | exact decide_eq_true (by omega) | exact one_shl33 (by omega) | exact pm_lt _ _ | exact rm_lt (by first | assumption | exact pm_lt _ _) | exact Nat.lt_of_le_of_lt (Nat.shiftRight_le _ _) (by assumption) | exact Nat.lt_of_le_of_lt Nat.and_le_right (by omega)) dX5_houseTold_36 dX5_houseTold_37 (by decide) (fun h36 => ?_) (fun h36 => ?_)
        · refine z_iconst C dX5_houseTold_44 ?_
          refine z_call C (c_X5_one l (false) ) ml_X5_29 ⟨by decide, by decide⟩ ⟨Nat.le_of_ble_eq_true rfl, Nat.le_of_ble_eq_true rfl⟩ hl (Nat.le_of_ble_eq_true rfl) rfl dX5_houseTold_45 ?_
          have q45_0 := zB_rng (false)
          refine z_iadd C dX5_houseTold_48 ?_
          refine lv_istore_n (lv' := [(2, .int (iZ ((x2) + (zB (false))))), (7, .long (lN (c (k)))), (0, .ref o), (1, .int (iZ (z))), (3, .int (iZ (x3))), (4, .ref a), (5, .int (iZ (6))), (6, .int (iZ (x6)))]) C.1 C.2.1 dX5_houseTold_49 rfl hl (by decide) rfl (fun ls hl => ?_)
          refine lv_iload_n C.1 C.2.1 dX5_houseTold_50 rfl (lv_at hl 4 rfl) ?_
          refine lv_lload C.1 C.2.1 dX5_houseTold_51 (lv_at hl 1 rfl) ?_
          refine z_call C (c_X5_weightOf l (c (k)) (by first | assumption | omega | rfl | exact decide_eq_false (by omega) | exact decide_eq_true (by assumption) | exact decide_eq_true (by omega) | exact one_shl33 (by omega) | exact pm_lt _ _ | exact rm_lt (by first | assumption | exact pm_lt _ _) | exact Nat.lt_of_le_of_lt (Nat.shiftRight_le _ _) (by assumption) | exact Nat.lt_of_le_of_lt Nat.and_le_right (by omega))) ml_X5_108 ⟨by decide, by decide⟩ ⟨Nat.le_of_ble_eq_true rfl, Nat.le_of_ble_eq_true rfl⟩ hl (Nat.le_of_ble_eq_true rfl) rfl dX5_houseTold_53 ?_
          have q53_0 := wt_rngE (c (k))
          refine z_iadd C dX5_houseTold_56 ?_
          refine lv_istore_n (lv' := [(3, .int (iZ ((x3) + (wt (c (k)) 33)))), (2, .int (iZ ((x2) + (zB (false))))), (7, .long (lN (c (k)))), (0, .ref o), (1, .int (iZ (z))), (4, .ref a), (5, .int (iZ (6))), (6, .int (iZ (x6)))]) C.1 C.2.1 dX5_houseTold_57 rfl hl (by decide) rfl (fun ls hl => ?_)
          refine z_iinc (j := 7) (lv' := [(6, .int (iZ (x6 + 1))), (3, .int (iZ ((x3) + (wt (c (k)) 33)))), (2, .int (iZ ((x2) + (zB (false))))), (7, .long (lN (c (k)))), (0, .ref o), (1, .int (iZ (z))), (4, .ref a), (5, .int (iZ (6)))]) C dX5_houseTold_58 hl rfl (by decide) rfl (fun ls hl => ?_)
          refine lv_goto (tgt := 18) C.1 C.2.1 dX5_houseTold_61 (by decide) ?_
          exact ih18 (k + 1) _ _ _ _ (by omega) (by omega) (by omega) (by rw [zmF, i18_2, decide_eq_false h36]) (by rw [wmF, i18_3]) (lv_sub hl [4, 5, 2, 1, 6, 7, 0] rfl)
        · refine z_iconst C dX5_houseTold_40 ?_
          refine lv_goto (tgt := 45) C.1 C.2.1 dX5_houseTold_41 (by decide) ?_
          refine z_call C (c_X5_one l (true) ) ml_X5_29 ⟨by decide, by decide⟩ ⟨Nat.le_of_ble_eq_true rfl, Nat.le_of_ble_eq_true rfl⟩ hl (Nat.le_of_ble_eq_true rfl) rfl dX5_houseTold_45 ?_
          have q45_0 := zB_rng (true)
          refine z_iadd C dX5_houseTold_48 ?_
          refine lv_istore_n (lv' := [(2, .int (iZ ((x2) + (zB (true))))), (7, .long (lN (c (k)))), (0, .ref o), (1, .int (iZ (z))), (3, .int (iZ (x3))), (4, .ref a), (5, .int (iZ (6))), (6, .int (iZ (x6)))]) C.1 C.2.1 dX5_houseTold_49 rfl hl (by decide) rfl (fun ls hl => ?_)
          refine lv_iload_n C.1 C.2.1 dX5_houseTold_50 rfl (lv_at hl 4 rfl) ?_
          refine lv_lload C.1 C.2.1 dX5_houseTold_51 (lv_at hl 1 rfl) ?_
          refine z_call C (c_X5_weightOf l (c (k)) (by first | assumption | omega | rfl | exact decide_eq_false (by omega) | exact decide_eq_true (by assumption) | exact decide_eq_true (by omega) | exact one_shl33 (by omega) | exact pm_lt _ _ | exact rm_lt (by first | assumption | exact pm_lt _ _) | exact Nat.lt_of_le_of_lt (Nat.shiftRight_le _ _) (by assumption) | exact Nat.lt_of_le_of_lt Nat.and_le_right (by omega))) ml_X5_108 ⟨by decide, by decide⟩ ⟨Nat.le_of_ble_eq_true rfl, Nat.le_of_ble_eq_true rfl⟩ hl (Nat.le_of_ble_eq_true rfl) rfl dX5_houseTold_53 ?_
          have q53_0 := wt_rngE (c (k))
          refine z_iadd C dX5_houseTold_56 ?_
          refine lv_istore_n (lv' := [(3, .int (iZ ((x3) + (wt (c (k)) 33)))), (2, .int (iZ ((x2) + (zB (true))))), (7, .long (lN (c (k)))), (0, .ref o), (1, .int (iZ (z))), (4, .ref a), (5, .int (iZ (6))), (6, .int (iZ (x6)))]) C.1 C.2.1 dX5_houseTold_57 rfl hl (by decide) rfl (fun ls hl => ?_)
          refine z_iinc (j := 7) (lv' := [(6, .int (iZ (x6 + 1))), (3, .int (iZ ((x3) + (wt (c (k)) 33)))), (2, .int (iZ ((x2) + (zB (true))))), (7, .long (lN (c (k)))), (0, .ref o), (1, .int (iZ (z))), (4, .ref a), (5, .int (iZ (6)))]) C dX5_houseTold_58 hl rfl (by decide) rfl (fun ls hl => ?_)
          refine lv_goto (tgt := 18) C.1 C.2.1 dX5_houseTold_61 (by decide) ?_
          exact ih18 (k + 1) _ _ _ _ (by omega) (by omega) (by omega) (by rw [zmF, i18_2, decide_eq_true h36]) (by rw [wmF, i18_3]) (lv_sub hl [4, 5, 2, 1, 6, 7, 0] rfl)
  exact L18 _ (0) _ _ _ _ (by exact Nat.lt_succ_self _) (by rfl) (by omega) (by rfl) (by rfl) (lv_sub hl [5, 6, 4, 3, 2, 1, 0] rfl)

set_option maxHeartbeats 4000000 in
set_option maxRecDepth 100000 in
theorem c_X5_house (l : Launch) (D : va_G) (cJ : ClassId) (o a : Nat) (c : Nat → Nat) (th : Int) (ac : Int32) (re : Int32) (kn : Int32) (z : Int) (hz : 0 ≤ z ∧ z ≤ 4) : zA l yX5_house 3 94 0 0 D 4 cJ o a [.int (iZ (z))] c [.int (iZ (th)), .int (ac), .int (re), .int (kn)] (fun v => v = some (.int (hm3 c ac re kn z))) (c) [.int (iZ (0)), .int (ac), .int (re), .int (kn)] := by
  refine zA.intro (lo := 73) (nA := 1) (own := RX5) zi_X5_house (by decide) rfl rfl (by decide +kernel) rfl (Nat.le_of_ble_eq_true rfl) ?_
  intro p e s m below meth c0 ls C hr hk B hl
  have hl : lv_has ls 2 [(0, .ref o), (1, .int (iZ (z)))] := hl
  refine lv_aload_n C.1 C.2.1 dX5_house_0 rfl (lv_at hl 0 rfl) ?_
  refine lv_iload_n C.1 C.2.1 dX5_house_1 rfl (lv_at hl 1 rfl) ?_
  refine z_iconst C dX5_house_2 ?_
  refine z_iconst C dX5_house_3 ?_
  refine z_call C (c_X5_isIn l (z) (0 : Int) (4 : Int) (by first | assumption | omega | rfl | exact decide_eq_false (by omega) | exact decide_eq_true (by assumption) | exact decide_eq_true (by omega) | exact one_shl33 (by omega) | exact pm_lt _ _ | exact rm_lt (by first | assumption | exact pm_lt _ _) | exact Nat.lt_of_le_of_lt (Nat.shiftRight_le _ _) (by assumption) | exact Nat.lt_of_le_of_lt Nat.and_le_right (by omega)) (by first | assumption | omega | rfl | exact decide_eq_false (by omega) | exact decide_eq_true (by assumption) | exact decide_eq_true (by omega) | exact one_shl33 (by omega) | exact pm_lt _ _ | exact rm_lt (by first | assumption | exact pm_lt _ _) | exact Nat.lt_of_le_of_lt (Nat.shiftRight_le _ _) (by assumption) | exact Nat.lt_of_le_of_lt Nat.and_le_right (by omega)) (by first | assumption | omega | rfl | exact decide_eq_false (by omega) | exact decide_eq_true (by assumption) | exact decide_eq_true (by omega) | exact one_shl33 (by omega) | exact pm_lt _ _ | exact rm_lt (by first | assumption | exact pm_lt _ _) | exact Nat.lt_of_le_of_lt (Nat.shiftRight_le _ _) (by assumption) | exact Nat.lt_of_le_of_lt Nat.and_le_right (by omega))) ml_X5_21 ⟨by decide, by decide⟩ ⟨Nat.le_of_ble_eq_true rfl, Nat.le_of_ble_eq_true rfl⟩ hl (Nat.le_of_ble_eq_true rfl) rfl dX5_house_4 ?_
  refine z_ifB_ne (tgt := 14) C dX5_house_7 (by decide) (fun h7 => ?_) (fun h7 => ?_)
  · refine z_iconst C dX5_house_14 ?_
    refine z_iconst C dX5_house_15 ?_
    refine zo_callD C B (r := some (.int (iZ (zB (false))))) (c_X5_start_ok l D cJ o a (c) (th) (ac) (re) (kn) (false) (1 : Int) (by first | assumption | omega | rfl | exact decide_eq_false (by omega) | exact decide_eq_true (by assumption) | exact decide_eq_true (by omega) | exact one_shl33 (by omega) | exact pm_lt _ _ | exact rm_lt (by first | assumption | exact pm_lt _ _) | exact Nat.lt_of_le_of_lt (Nat.shiftRight_le _ _) (by assumption) | exact Nat.lt_of_le_of_lt Nat.and_le_right (by omega))) ml_X5_71 rfl ⟨Nat.le_of_ble_eq_true rfl, Nat.le_of_ble_eq_true rfl⟩ ⟨Nat.le_of_ble_eq_true rfl, Nat.le_of_ble_eq_true rfl⟩ hl (Nat.le_of_ble_eq_true rfl) rfl dX5_house_16 (fun H locs B => ?_)
    refine z_ifB_eq (tgt := 26) C dX5_house_19 (by decide) (fun h19 => ?_) (fun h19 => ?_)
    · refine lv_aload_n C.1 C.2.1 dX5_house_26 rfl (lv_at hl 0 rfl) ?_
      refine lv_iload_n C.1 C.2.1 dX5_house_27 rfl (lv_at hl 1 rfl) ?_
      refine zo_callD C B (r := some (.int (hm3 (c) ((ac)) ((re)) ((kn)) (z)))) (c_X5_houseTold l D cJ o a (c) (0) ((ac)) ((re)) ((kn)) (z) (by first | assumption | omega | rfl | exact decide_eq_false (by omega) | exact decide_eq_true (by assumption) | exact decide_eq_true (by omega) | exact one_shl33 (by omega) | exact pm_lt _ _ | exact rm_lt (by first | assumption | exact pm_lt _ _) | exact Nat.lt_of_le_of_lt (Nat.shiftRight_le _ _) (by assumption) | exact Nat.lt_of_le_of_lt Nat.and_le_right (by omega))) ml_X5_164 rfl ⟨Nat.le_of_ble_eq_true rfl, Nat.le_of_ble_eq_true rfl⟩ ⟨Nat.le_of_ble_eq_true rfl, Nat.le_of_ble_eq_true rfl⟩ hl (Nat.le_of_ble_eq_true rfl) rfl dX5_house_28 (fun H locs B => ?_)
      exact zo_iret C B hr hk (Nat.le_of_ble_eq_true rfl) (Nat.le_of_ble_eq_true rfl) dX5_house_31 (by rfl) (by rfl) (by rfl)
    · exact absurd h19 (by decide)
  · exact absurd (of_decide_eq_false h7) (by omega)

set_option maxHeartbeats 4000000 in
set_option maxRecDepth 100000 in
theorem c_X5_knock (l : Launch) (D : va_G) (cJ : ClassId) (o a : Nat) (c : Nat → Nat) (th : Int) (ac : Int32) (re : Int32) (kn : Int32)  : zA l yX5_knock 0 20 0 0 D 4 cJ o a [] c [.int (iZ (th)), .int (ac), .int (re), .int (kn)] (fun v => v = some (.int (kn + iZ 1))) (c) [.int (iZ (0)), .int (ac), .int (re), .int (kn + iZ 1)] := by
  refine zA.intro (lo := 0) (nA := 0) (own := RX5) zi_X5_knock (by decide) rfl rfl (by decide +kernel) rfl (Nat.le_of_ble_eq_true rfl) ?_
  intro p e s m below meth c0 ls C hr hk B hl
  have hl : lv_has ls 1 [(0, .ref o)] := hl
  refine lv_aload_n C.1 C.2.1 dX5_knock_0 rfl (lv_at hl 0 rfl) ?_
  refine z_iconst C dX5_knock_1 ?_
  refine zo_put C B (Cn := RX5) (T := TX5) (N := 5) (fs2 := [.int (iZ (0)), .int (ac), .int (re), .int (kn)]) rfl inX5 tyX5 tyX5_ok nmX5 0 (by decide) fl_X5_13 rfl rfl (by decide +kernel) (Nat.le_of_ble_eq_true rfl) rfl dX5_knock_2 (fun H locs B => ?_)
  refine lv_aload_n C.1 C.2.1 dX5_knock_5 rfl (lv_at hl 0 rfl) ?_
  refine lv_dup C.1 C.2.1 dX5_knock_6 rfl ?_
  refine zo_get C B (Cn := RX5) (T := TX5) (N := 5) (v := .int (kn)) rfl inX5 4 (by decide) fl_X5_161 rfl rfl dX5_knock_7 ?_
  refine z_iconst C dX5_knock_10 ?_
  refine lv_iadd C.1 C.2.1 dX5_knock_11 ?_
  refine zo_put C B (Cn := RX5) (T := TX5) (N := 5) (fs2 := [.int (iZ (0)), .int (ac), .int (re), .int ((kn) + iZ (1))]) rfl inX5 tyX5 tyX5_ok nmX5 3 (by decide) fl_X5_161 rfl rfl (by decide +kernel) (Nat.le_of_ble_eq_true rfl) rfl dX5_knock_12 (fun H locs B => ?_)
  refine lv_aload_n C.1 C.2.1 dX5_knock_15 rfl (lv_at hl 0 rfl) ?_
  refine zo_get C B (Cn := RX5) (T := TX5) (N := 5) (v := .int ((kn) + iZ (1))) rfl inX5 4 (by decide) fl_X5_161 rfl rfl dX5_knock_16 ?_
  exact zo_iret C B hr hk (Nat.le_of_ble_eq_true rfl) (Nat.le_of_ble_eq_true rfl) dX5_knock_19 (by rfl) (by rfl) (by rfl)

set_option maxHeartbeats 4000000 in
set_option maxRecDepth 100000 in
theorem c_X5_isWhole (l : Launch) (D : va_G) (cJ : ClassId) (o a : Nat) (c : Nat → Nat) (th : Int) (ac : Int32) (re : Int32) (kn : Int32)  : zA l yX5_isWhole 3 114 0 0 D 4 cJ o a [] c [.int (iZ (th)), .int (ac), .int (re), .int (kn)] (fun v => v = some (.int (iZ (zB (som c))))) (c) [.int (iZ (th)), .int (ac), .int (re), .int (kn)] := by
  refine zA.intro (lo := 89) (nA := 0) (own := RX5) zi_X5_isWhole (by decide) rfl rfl (by decide +kernel) rfl (Nat.le_of_ble_eq_true rfl) ?_
  intro p e s m below meth c0 ls C hr hk B hl
  have hl : lv_has ls 6 [(0, .ref o)] := hl
  refine lv_aload_n C.1 C.2.1 dX5_isWhole_0 rfl (lv_at hl 0 rfl) ?_
  refine zo_get C B (Cn := RX5) (T := TX5) (N := 5) (v := .ref a) rfl inX5 0 (by decide) fl_X5_7 rfl rfl dX5_isWhole_1 ?_
  refine lv_astore_n (lv' := [(1, .ref a), (0, .ref o)]) C.1 C.2.1 dX5_isWhole_4 rfl hl (by decide) rfl (fun ls hl => ?_)
  refine lv_aload_n C.1 C.2.1 dX5_isWhole_5 rfl (lv_at hl 0 rfl) ?_
  refine zo_alen C B dX5_isWhole_6 ?_
  refine lv_istore_n (lv' := [(2, .int (iZ (6))), (1, .ref a), (0, .ref o)]) C.1 C.2.1 dX5_isWhole_7 rfl hl (by decide) rfl (fun ls hl => ?_)
  refine z_iconst C dX5_isWhole_8 ?_
  refine lv_istore_n (lv' := [(3, .int (iZ (0))), (2, .int (iZ (6))), (1, .ref a), (0, .ref o)]) C.1 C.2.1 dX5_isWhole_9 rfl hl (by decide) rfl (fun ls hl => ?_)
  have L10 : ∀ (j : Nat) (k : Nat) (x3 : Int) (ls : Array Slot), 6 - k < j → (x3 = (k : Int)) → (k ≤ 6) → (sdmF c k = true) → lv_has ls 6 [(0, .ref o), (1, .ref a), (2, .int (iZ (6))), (3, .int (iZ (x3)))] → W p l e { frames := 3, cells := 0, slots := 0, locals := 89 } s m (Value.ref o :: ([] : List Value)).toArray below meth c0 s.heap [] 0 0 (zE1 below D 4 cJ o a (Value.ref o :: ([] : List Value)).toArray s 0 0 (fun v => v = some (.int (iZ (zB (som c))))) (c) [.int (iZ (th)), .int (ac), .int (re), .int (kn)]) (F0 m 10 ls []) := by
    intro j
    induction j with
    | zero => intro k x3 ls hmu; exact absurd hmu (Nat.not_lt_zero _)
    | succ j ih10 =>
      intro k x3 ls hmu i10_0 i10_1 i10_2 hl
      refine lv_iload_n C.1 C.2.1 dX5_isWhole_10 rfl (lv_at hl 3 rfl) ?_
      refine lv_iload_n C.1 C.2.1 dX5_isWhole_11 rfl (lv_at hl 2 rfl) ?_
      refine z_icmp_ge (tgt := 51) C (by omega) (by omega) dX5_isWhole_12 (by decide) (fun h12 => ?_) (fun h12 => ?_)
      · have g0 : c 0 < 8589934592 := B.1.2.2.2 0
        have g1 : c 1 < 8589934592 := B.1.2.2.2 1
        refine lv_aload_n C.1 C.2.1 dX5_isWhole_51 rfl (lv_at hl 0 rfl) ?_
        refine zo_get C B (Cn := RX5) (T := TX5) (N := 5) (v := .ref a) rfl inX5 0 (by decide) fl_X5_7 rfl rfl dX5_isWhole_52 ?_
        refine z_iconst C dX5_isWhole_55 ?_
        refine zo_lald C B (0) (by omega) (by omega) dX5_isWhole_56 ?_
        have q56 := B.1.2.2.2 (0)
        refine lv_aload_n C.1 C.2.1 dX5_isWhole_57 rfl (lv_at hl 0 rfl) ?_
        refine zo_get C B (Cn := RX5) (T := TX5) (N := 5) (v := .ref a) rfl inX5 0 (by decide) fl_X5_7 rfl rfl dX5_isWhole_58 ?_
        refine z_iconst C dX5_isWhole_61 ?_
        refine zo_lald C B (0) (by omega) (by omega) dX5_isWhole_62 ?_
        have q62 := B.1.2.2.2 (0)
        refine lv_aload_n C.1 C.2.1 dX5_isWhole_63 rfl (lv_at hl 0 rfl) ?_
        refine zo_get C B (Cn := RX5) (T := TX5) (N := 5) (v := .ref a) rfl inX5 0 (by decide) fl_X5_7 rfl rfl dX5_isWhole_64 ?_
        refine z_iconst C dX5_isWhole_67 ?_
        refine zo_lald C B (1) (by omega) (by omega) dX5_isWhole_68 ?_
        have q68 := B.1.2.2.2 (1)
        refine z_iconst C dX5_isWhole_69 ?_
        refine z_call C (c_X5_euclid l (c (0)) (c (1)) (1 : Int) (by first | assumption | omega | rfl | exact decide_eq_false (by omega) | exact decide_eq_true (by assumption) | exact decide_eq_true (by omega) | exact one_shl33 (by omega) | exact pm_lt _ _ | exact rm_lt (by first | assumption | exact pm_lt _ _) | exact Nat.lt_of_le_of_lt (Nat.shiftRight_le _ _) (by assumption) | exact Nat.lt_of_le_of_lt Nat.and_le_right (by omega)) (by first | assumption | omega | rfl | exact decide_eq_false (by omega) | exact decide_eq_true (by assumption) | exact decide_eq_true (by omega) | exact one_shl33 (by omega) | exact pm_lt _ _ | exact rm_lt (by first | assumption | exact pm_lt _ _) | exact Nat.lt_of_le_of_lt (Nat.shiftRight_le _ _) (by assumption) | exact Nat.lt_of_le_of_lt Nat.and_le_right (by omega)) (by first | assumption | omega | rfl | exact decide_eq_false (by omega) | exact decide_eq_true (by assumption) | exact decide_eq_true (by omega) | exact one_shl33 (by omega) | exact pm_lt _ _ | exact rm_lt (by first | assumption | exact pm_lt _ _) | exact Nat.lt_of_le_of_lt (Nat.shiftRight_le _ _) (by assumption) | exact Nat.lt_of_le_of_lt Nat.and_le_right (by omega))) ml_X5_94 ⟨by decide, by decide⟩ ⟨Nat.le_of_ble_eq_true rfl, Nat.le_of_ble_eq_true rfl⟩ hl (Nat.le_of_ble_eq_true rfl) rfl dX5_isWhole_70 ?_
        have q70_0 := eu_ltE (c (0)) (c (1)) (eux (c (0)) (1 : Int)) (euy (c (1)) (1 : Int)) (eux_lt (by first | assumption | omega)) (euy_lt (by first | assumption | omega))
        refine z_call C (c_X5_product l (c (0)) (eu (c (0)) (c (1)) (eux (c (0)) (1 : Int)) (euy (c (1)) (1 : Int))) (by exact eu_ltE _ _ _ _ (eux_lt (by omega)) (euy_lt (by omega)))) ml_X5_41 ⟨by decide, by decide⟩ ⟨Nat.le_of_ble_eq_true rfl, Nat.le_of_ble_eq_true rfl⟩ hl (Nat.le_of_ble_eq_true rfl) rfl dX5_isWhole_73 ?_
        refine lv_lstore_n (lv' := [(1, .long (lN (pm (c (0)) (eu (c (0)) (c (1)) (eux (c (0)) (1 : Int)) (euy (c (1)) (1 : Int)))))), (0, .ref o), (3, .int (iZ (x3)))]) C.1 C.2.1 dX5_isWhole_76 rfl hl (by decide) rfl (fun ls hl => ?_)
        refine lv_aload_n C.1 C.2.1 dX5_isWhole_77 rfl (lv_at hl 1 rfl) ?_
        refine zo_get C B (Cn := RX5) (T := TX5) (N := 5) (v := .ref a) rfl inX5 0 (by decide) fl_X5_7 rfl rfl dX5_isWhole_78 ?_
        refine z_iconst C dX5_isWhole_81 ?_
        refine zo_lald C B (1) (by omega) (by omega) dX5_isWhole_82 ?_
        have q82 := B.1.2.2.2 (1)
        refine lv_aload_n C.1 C.2.1 dX5_isWhole_83 rfl (lv_at hl 1 rfl) ?_
        refine zo_get C B (Cn := RX5) (T := TX5) (N := 5) (v := .ref a) rfl inX5 0 (by decide) fl_X5_7 rfl rfl dX5_isWhole_84 ?_
        refine z_iconst C dX5_isWhole_87 ?_
        refine zo_lald C B (0) (by omega) (by omega) dX5_isWhole_88 ?_
        have q88 := B.1.2.2.2 (0)
        refine lv_aload_n C.1 C.2.1 dX5_isWhole_89 rfl (lv_at hl 1 rfl) ?_
        refine zo_get C B (Cn := RX5) (T := TX5) (N := 5) (v := .ref a) rfl inX5 0 (by decide) fl_X5_7 rfl rfl dX5_isWhole_90 ?_
        refine z_iconst C dX5_isWhole_93 ?_
        refine zo_lald C B (1) (by omega) (by omega) dX5_isWhole_94 ?_
        have q94 := B.1.2.2.2 (1)
        refine z_iconst C dX5_isWhole_95 ?_
        refine z_call C (c_X5_euclid l (c (0)) (c (1)) (2 : Int) (by first | assumption | omega | rfl | exact decide_eq_false (by omega) | exact decide_eq_true (by assumption) | exact decide_eq_true (by omega) | exact one_shl33 (by omega) | exact pm_lt _ _ | exact rm_lt (by first | assumption | exact pm_lt _ _) | exact Nat.lt_of_le_of_lt (Nat.shiftRight_le _ _) (by assumption) | exact Nat.lt_of_le_of_lt Nat.and_le_right (by omega)) (by first | assumption | omega | rfl | exact decide_eq_false (by omega) | exact decide_eq_true (by assumption) | exact decide_eq_true (by omega) | exact one_shl33 (by omega) | exact pm_lt _ _ | exact rm_lt (by first | assumption | exact pm_lt _ _) | exact Nat.lt_of_le_of_lt (Nat.shiftRight_le _ _) (by assumption) | exact Nat.lt_of_le_of_lt Nat.and_le_right (by omega)) (by first | assumption | omega | rfl | exact decide_eq_false (by omega) | exact decide_eq_true (by assumption) | exact decide_eq_true (by omega) | exact one_shl33 (by omega) | exact pm_lt _ _ | exact rm_lt (by first | assumption | exact pm_lt _ _) | exact Nat.lt_of_le_of_lt (Nat.shiftRight_le _ _) (by assumption) | exact Nat.lt_of_le_of_lt Nat.and_le_right (by omega))) ml_X5_94 ⟨by decide, by decide⟩ ⟨Nat.le_of_ble_eq_true rfl, Nat.le_of_ble_eq_true rfl⟩ hl (Nat.le_of_ble_eq_true rfl) rfl dX5_isWhole_96 ?_
        have q96_0 := eu_ltE (c (0)) (c (1)) (eux (c (0)) (2 : Int)) (euy (c (1)) (2 : Int)) (eux_lt (by first | assumption | omega)) (euy_lt (by first | assumption | omega))
        refine z_call C (c_X5_product l (c (1)) (eu (c (0)) (c (1)) (eux (c (0)) (2 : Int)) (euy (c (1)) (2 : Int))) (by exact eu_ltE _ _ _ _ (eux_lt (by omega)) (euy_lt (by omega)))) ml_X5_41 ⟨by decide, by decide⟩ ⟨Nat.le_of_ble_eq_true rfl, Nat.le_of_ble_eq_true rfl⟩ hl (Nat.le_of_ble_eq_true rfl) rfl dX5_isWhole_99 ?_
        refine lv_lstore_n (lv' := [(3, .long (lN (pm (c (1)) (eu (c (0)) (c (1)) (eux (c (0)) (2 : Int)) (euy (c (1)) (2 : Int)))))), (1, .long (lN (pm (c (0)) (eu (c (0)) (c (1)) (eux (c (0)) (1 : Int)) (euy (c (1)) (1 : Int)))))), (0, .ref o)]) C.1 C.2.1 dX5_isWhole_102 rfl hl (by decide) rfl (fun ls hl => ?_)
        refine lv_aload_n C.1 C.2.1 dX5_isWhole_103 rfl (lv_at hl 2 rfl) ?_
        refine zo_get C B (Cn := RX5) (T := TX5) (N := 5) (v := .ref a) rfl inX5 0 (by decide) fl_X5_7 rfl rfl dX5_isWhole_104 ?_
        refine z_iconst C dX5_isWhole_107 ?_
        refine zo_lald C B (0) (by omega) (by omega) dX5_isWhole_108 ?_
        have q108 := B.1.2.2.2 (0)
        refine lv_aload_n C.1 C.2.1 dX5_isWhole_109 rfl (lv_at hl 2 rfl) ?_
        refine zo_get C B (Cn := RX5) (T := TX5) (N := 5) (v := .ref a) rfl inX5 0 (by decide) fl_X5_7 rfl rfl dX5_isWhole_110 ?_
        refine z_iconst C dX5_isWhole_113 ?_
        refine zo_lald C B (1) (by omega) (by omega) dX5_isWhole_114 ?_
        have q114 := B.1.2.2.2 (1)
        refine z_iconst C dX5_isWhole_115 ?_
        refine z_call C (c_X5_euclid l (c (0)) (c (1)) (0 : Int) (by first | assumption | omega | rfl | exact decide_eq_false (by omega) | exact decide_eq_true (by assumption) | exact decide_eq_true (by omega) | exact one_shl33 (by omega) | exact pm_lt _ _ | exact rm_lt (by first | assumption | exact pm_lt _ _) | exact Nat.lt_of_le_of_lt (Nat.shiftRight_le _ _) (by assumption) | exact Nat.lt_of_le_of_lt Nat.and_le_right (by omega)) (by first | assumption | omega | rfl | exact decide_eq_false (by omega) | exact decide_eq_true (by assumption) | exact decide_eq_true (by omega) | exact one_shl33 (by omega) | exact pm_lt _ _ | exact rm_lt (by first | assumption | exact pm_lt _ _) | exact Nat.lt_of_le_of_lt (Nat.shiftRight_le _ _) (by assumption) | exact Nat.lt_of_le_of_lt Nat.and_le_right (by omega)) (by first | assumption | omega | rfl | exact decide_eq_false (by omega) | exact decide_eq_true (by assumption) | exact decide_eq_true (by omega) | exact one_shl33 (by omega) | exact pm_lt _ _ | exact rm_lt (by first | assumption | exact pm_lt _ _) | exact Nat.lt_of_le_of_lt (Nat.shiftRight_le _ _) (by assumption) | exact Nat.lt_of_le_of_lt Nat.and_le_right (by omega))) ml_X5_94 ⟨by decide, by decide⟩ ⟨Nat.le_of_ble_eq_true rfl, Nat.le_of_ble_eq_true rfl⟩ hl (Nat.le_of_ble_eq_true rfl) rfl dX5_isWhole_116 ?_
        have q116_0 := eu_ltE (c (0)) (c (1)) (eux (c (0)) (0 : Int)) (euy (c (1)) (0 : Int)) (eux_lt (by first | assumption | omega)) (euy_lt (by first | assumption | omega))
        refine lv_lload_n C.1 C.2.1 dX5_isWhole_119 rfl (lv_at hl 1 rfl) ?_
        refine lv_lload_n C.1 C.2.1 dX5_isWhole_120 rfl (lv_at hl 0 rfl) ?_
        refine z_lxor C dX5_isWhole_121 ?_
        refine z_lc_ne (tgt := 130) C (by exact eu_ltE _ _ _ _ (eux_lt (by omega)) (euy_lt (by omega))) (by exact xor64 (pm_lt _ _) (pm_lt _ _)) dX5_isWhole_122 dX5_isWhole_123 (by decide) (fun h122 => ?_) (fun h122 => ?_)
        · refine z_iconst C dX5_isWhole_130 ?_
          exact zo_zret C B hr hk (Nat.le_of_ble_eq_true rfl) (Nat.le_of_ble_eq_true rfl) dX5_isWhole_131 (by decide) (by exact congrArg (fun z : Int => some (Value.int (iZ z))) (by exact zB_f (by rw [som, decide_eq_false h122, Bool.and_false]))) (by rfl) (by rfl)
        · refine z_iconst C dX5_isWhole_126 ?_
          refine lv_goto (tgt := 131) C.1 C.2.1 dX5_isWhole_127 (by decide) ?_
          exact zo_zret C B hr hk (Nat.le_of_ble_eq_true rfl) (Nat.le_of_ble_eq_true rfl) dX5_isWhole_131 (by decide) (by exact congrArg (fun z : Int => some (Value.int (iZ z))) (by exact zB_t (by rw [som, decide_eq_true h122, show 6 = k by omega, i10_2]; rfl))) (by rfl) (by rfl)
      · refine lv_aload_n C.1 C.2.1 dX5_isWhole_15 rfl (lv_at hl 1 rfl) ?_
        refine lv_iload_n C.1 C.2.1 dX5_isWhole_16 rfl (lv_at hl 3 rfl) ?_
        refine zo_lald C B (k) (by omega) (by omega) dX5_isWhole_17 ?_
        have q17 := B.1.2.2.2 (k)
        refine lv_lstore (lv' := [(4, .long (lN (c (k)))), (0, .ref o), (1, .ref a), (2, .int (iZ (6))), (3, .int (iZ (x3)))]) C.1 C.2.1 dX5_isWhole_18 hl (by decide) rfl (fun ls hl => ?_)
        refine lv_lload C.1 C.2.1 dX5_isWhole_20 (lv_at hl 0 rfl) ?_
        refine z_call C (c_X5_degreeOf l (c (k)) (by first | assumption | omega | rfl | exact decide_eq_false (by omega) | exact decide_eq_true (by assumption) | exact decide_eq_true (by omega) | exact one_shl33 (by omega) | exact pm_lt _ _ | exact rm_lt (by first | assumption | exact pm_lt _ _) | exact Nat.lt_of_le_of_lt (Nat.shiftRight_le _ _) (by assumption) | exact Nat.lt_of_le_of_lt Nat.and_le_right (by omega))) ml_X5_33 ⟨by decide, by decide⟩ ⟨Nat.le_of_ble_eq_true rfl, Nat.le_of_ble_eq_true rfl⟩ hl (Nat.le_of_ble_eq_true rfl) rfl dX5_isWhole_22 ?_
        have q22_0 := tp_rngE (c (k)) (by first | assumption | omega | exact pm_lt _ _ | exact rm_lt (by assumption))
        refine z_bipush C dX5_isWhole_25 (by decide) ?_
        refine z_icmp_gt (tgt := 43) C (by omega) (by omega) dX5_isWhole_27 (by decide) (fun h27 => ?_) (fun h27 => ?_)
        · refine z_iconst C dX5_isWhole_43 ?_
          exact zo_zret C B hr hk (Nat.le_of_ble_eq_true rfl) (Nat.le_of_ble_eq_true rfl) dX5_isWhole_44 (by decide) (by exact congrArg (fun z : Int => some (Value.int (iZ z))) (by exact zB_f (by rw [som]; rw [show 6 = (k + 1) + (5 - k) by omega, sdmF_f (by rw [sdmF, i10_2, decide_eq_false (by omega)]; rfl)]; rfl))) (by rfl) (by rfl)
        · refine lv_lload C.1 C.2.1 dX5_isWhole_30 (lv_at hl 0 rfl) ?_
          refine z_call C (c_X5_lowOf l (c (k)) (by first | assumption | omega | rfl | exact decide_eq_false (by omega) | exact decide_eq_true (by assumption) | exact decide_eq_true (by omega) | exact one_shl33 (by omega) | exact pm_lt _ _ | exact rm_lt (by first | assumption | exact pm_lt _ _) | exact Nat.lt_of_le_of_lt (Nat.shiftRight_le _ _) (by assumption) | exact Nat.lt_of_le_of_lt Nat.and_le_right (by omega))) ml_X5_105 ⟨by decide, by decide⟩ ⟨Nat.le_of_ble_eq_true rfl, Nat.le_of_ble_eq_true rfl⟩ hl (Nat.le_of_ble_eq_true rfl) rfl dX5_isWhole_32 ?_
          have q32_0 := bp33 (c (k))
          refine lv_lload C.1 C.2.1 dX5_isWhole_35 (lv_at hl 0 rfl) ?_
          refine z_call C (c_X5_degreeOf l (c (k)) (by first | assumption | omega | rfl | exact decide_eq_false (by omega) | exact decide_eq_true (by assumption) | exact decide_eq_true (by omega) | exact one_shl33 (by omega) | exact pm_lt _ _ | exact rm_lt (by first | assumption | exact pm_lt _ _) | exact Nat.lt_of_le_of_lt (Nat.shiftRight_le _ _) (by assumption) | exact Nat.lt_of_le_of_lt Nat.and_le_right (by omega))) ml_X5_33 ⟨by decide, by decide⟩ ⟨Nat.le_of_ble_eq_true rfl, Nat.le_of_ble_eq_true rfl⟩ hl (Nat.le_of_ble_eq_true rfl) rfl dX5_isWhole_37 ?_
          have q37_0 := tp_rngE (c (k)) (by first | assumption | omega | exact pm_lt _ _ | exact rm_lt (by assumption))
          refine z_icmp_le (tgt := 45) C (by omega) (by omega) dX5_isWhole_40 (by decide) (fun h40 => ?_) (fun h40 => ?_)
          · refine z_iinc (j := 4) (lv' := [(3, .int (iZ (x3 + 1))), (4, .long (lN (c (k)))), (0, .ref o), (1, .ref a), (2, .int (iZ (6)))]) C dX5_isWhole_45 hl rfl (by decide) rfl (fun ls hl => ?_)
            refine lv_goto (tgt := 10) C.1 C.2.1 dX5_isWhole_48 (by decide) ?_
            exact ih10 (k + 1) _ _ (by omega) (by omega) (by omega) (by rw [sdmF, i10_2, decide_eq_true (by omega)]; rfl) (lv_sub hl [2, 3, 4, 0] rfl)
          · refine z_iconst C dX5_isWhole_43 ?_
            exact zo_zret C B hr hk (Nat.le_of_ble_eq_true rfl) (Nat.le_of_ble_eq_true rfl) dX5_isWhole_44 (by decide) (by exact congrArg (fun z : Int => some (Value.int (iZ z))) (by exact zB_f (by rw [som]; rw [show 6 = (k + 1) + (5 - k) by omega, sdmF_f (by rw [sdmF, i10_2, decide_eq_false (by omega)]; rfl)]; rfl))) (by rfl) (by rfl)
  exact L10 _ (0) _ _ (by exact Nat.lt_succ_self _) (by rfl) (by omega) (by rfl) (lv_sub hl [3, 2, 1, 0] rfl)

set_option maxHeartbeats 4000000 in
set_option maxRecDepth 100000 in
theorem c_X5_isSound (l : Launch) (D : va_G) (cJ : ClassId) (o a : Nat) (c : Nat → Nat) (th : Int) (ac : Int32) (re : Int32) (kn : Int32)  : zA l yX5_isSound 4 134 0 0 D 4 cJ o a [] c [.int (iZ (th)), .int (ac), .int (re), .int (kn)] (fun v => v = some (.int (iZ (zB (som c))))) (c) [.int (iZ (0)), .int (ac), .int (re), .int (kn)] := by
  refine zA.intro (lo := 114) (nA := 0) (own := RX5) zi_X5_isSound (by decide) rfl rfl (by decide +kernel) rfl (Nat.le_of_ble_eq_true rfl) ?_
  intro p e s m below meth c0 ls C hr hk B hl
  have hl : lv_has ls 1 [(0, .ref o)] := hl
  refine lv_aload_n C.1 C.2.1 dX5_isSound_0 rfl (lv_at hl 0 rfl) ?_
  refine z_iconst C dX5_isSound_1 ?_
  refine zo_put C B (Cn := RX5) (T := TX5) (N := 5) (fs2 := [.int (iZ (0)), .int (ac), .int (re), .int (kn)]) rfl inX5 tyX5 tyX5_ok nmX5 0 (by decide) fl_X5_13 rfl rfl (by decide +kernel) (Nat.le_of_ble_eq_true rfl) rfl dX5_isSound_2 (fun H locs B => ?_)
  refine lv_aload_n C.1 C.2.1 dX5_isSound_5 rfl (lv_at hl 0 rfl) ?_
  refine zo_callD C B (r := some (.int (iZ (zB (som (c)))))) (c_X5_isWhole l D cJ o a (c) (0) (ac) (re) (kn)  ) ml_X5_167 rfl ⟨Nat.le_of_ble_eq_true rfl, Nat.le_of_ble_eq_true rfl⟩ ⟨Nat.le_of_ble_eq_true rfl, Nat.le_of_ble_eq_true rfl⟩ hl (Nat.le_of_ble_eq_true rfl) rfl dX5_isSound_6 (fun H locs B => ?_)
  exact zo_zret C B hr hk (Nat.le_of_ble_eq_true rfl) (Nat.le_of_ble_eq_true rfl) dX5_isSound_9 (z_nB _) (by exact congrArg (fun z : Int => some (Value.int (iZ z))) (by rfl)) (by rfl) (by rfl)

set_option maxHeartbeats 4000000 in
set_option maxRecDepth 100000 in
theorem c_X5_digest (l : Launch) (D : va_G) (cJ : ClassId) (o a : Nat) (c : Nat → Nat) (th : Int) (ac : Int32) (re : Int32) (kn : Int32)  : zA l yX5_digest 4 137 0 0 D 4 cJ o a [] c [.int (iZ (th)), .int (ac), .int (re), .int (kn)] (fun v => v = some (.long (dgsm c ac re kn))) (c) [.int (iZ (0)), .int (ac), .int (re), .int (kn)] := by
  refine zA.intro (lo := 114) (nA := 0) (own := RX5) zi_X5_digest (by decide) rfl rfl (by decide +kernel) rfl (Nat.le_of_ble_eq_true rfl) ?_
  intro p e s m below meth c0 ls C hr hk B hl
  have hl : lv_has ls 4 [(0, .ref o)] := hl
  refine lv_aload_n C.1 C.2.1 dX5_digest_0 rfl (lv_at hl 0 rfl) ?_
  refine z_iconst C dX5_digest_1 ?_
  refine zo_put C B (Cn := RX5) (T := TX5) (N := 5) (fs2 := [.int (iZ (0)), .int (ac), .int (re), .int (kn)]) rfl inX5 tyX5 tyX5_ok nmX5 0 (by decide) fl_X5_13 rfl rfl (by decide +kernel) (Nat.le_of_ble_eq_true rfl) rfl dX5_digest_2 (fun H locs B => ?_)
  refine z_ldc2 C 7686 (T0_of kl_X5_173 rfl) (by decide) dX5_digest_5 ?_
  refine lv_lstore_n (lv' := [(1, .long (lN (7686))), (0, .ref o)]) C.1 C.2.1 dX5_digest_8 rfl hl (by decide) rfl (fun ls hl => ?_)
  refine z_iconst C dX5_digest_9 ?_
  refine lv_istore_n (lv' := [(3, .int (iZ (0))), (1, .long (lN (7686))), (0, .ref o)]) C.1 C.2.1 dX5_digest_10 rfl hl (by decide) rfl (fun ls hl => ?_)
  have L11 : ∀ (j : Nat) (k : Nat) (x1 : Int64) (x3 : Int) (H : Heap) (locs : List Loc) (ls : Array Slot), 6 - k < j → (x3 = (k : Int)) → (k ≤ 6) → (x1 = dmF c k) → zIn D 4 cJ o a c [.int (iZ (0)), .int (ac), .int (re), .int (kn)] s H locs → lv_has ls 4 [(0, .ref o), (1, .long (x1)), (3, .int (iZ (x3)))] → W p l e { frames := 4, cells := 0, slots := 0, locals := 114 } s m (Value.ref o :: ([] : List Value)).toArray below meth c0 H locs 0 0 (zE1 below D 4 cJ o a (Value.ref o :: ([] : List Value)).toArray s 0 0 (fun v => v = some (.long (dgsm c ac re kn))) (c) [.int (iZ (0)), .int (ac), .int (re), .int (kn)]) (F0 m 11 ls []) := by
    intro j
    induction j with
    | zero => intro k x1 x3 H locs ls hmu; exact absurd hmu (Nat.not_lt_zero _)
    | succ j ih11 =>
      intro k x1 x3 H locs ls hmu i11_0 i11_1 i11_2 B hl
      refine lv_iload_n C.1 C.2.1 dX5_digest_11 rfl (lv_at hl 2 rfl) ?_
      refine z_bipush C dX5_digest_12 (by decide) ?_
      refine z_icmp_ge (tgt := 93) C (by omega) (by omega) dX5_digest_14 (by decide) (fun h14 => ?_) (fun h14 => ?_)
      · refine z_iconst C dX5_digest_93 ?_
        refine lv_istore_n (lv' := [(3, .int (iZ (0))), (0, .ref o), (1, .long (x1))]) C.1 C.2.1 dX5_digest_94 rfl hl (by decide) rfl (fun ls hl => ?_)
        have L95 : ∀ (j : Nat) (k : Nat) (x1 : Int64) (x3 : Int) (H : Heap) (locs : List Loc) (ls : Array Slot), 5 - k < j → (x3 = (k : Int)) → (k ≤ 5) → (x1 = omF c k) → zIn D 4 cJ o a c [.int (iZ (0)), .int (ac), .int (re), .int (kn)] s H locs → lv_has ls 4 [(0, .ref o), (1, .long (x1)), (3, .int (iZ (x3)))] → W p l e { frames := 4, cells := 0, slots := 0, locals := 114 } s m (Value.ref o :: ([] : List Value)).toArray below meth c0 H locs 0 0 (zE1 below D 4 cJ o a (Value.ref o :: ([] : List Value)).toArray s 0 0 (fun v => v = some (.long (dgsm c ac re kn))) (c) [.int (iZ (0)), .int (ac), .int (re), .int (kn)]) (F0 m 95 ls []) := by
          intro j
          induction j with
          | zero => intro k x1 x3 H locs ls hmu; exact absurd hmu (Nat.not_lt_zero _)
          | succ j ih95 =>
            intro k x1 x3 H locs ls hmu i95_0 i95_1 i95_2 B hl
            refine lv_iload_n C.1 C.2.1 dX5_digest_95 rfl (lv_at hl 2 rfl) ?_
            refine z_iconst C dX5_digest_96 ?_
            refine z_icmp_ge (tgt := 120) C (by omega) (by omega) dX5_digest_97 (by decide) (fun h97 => ?_) (fun h97 => ?_)
            · refine z_iconst C dX5_digest_120 ?_
              refine lv_istore_n (lv' := [(3, .int (iZ (0))), (0, .ref o), (1, .long (x1))]) C.1 C.2.1 dX5_digest_121 rfl hl (by decide) rfl (fun ls hl => ?_)
              have L122 : ∀ (j : Nat) (k : Nat) (x1 : Int64) (x3 : Int) (H : Heap) (locs : List Loc) (ls : Array Slot), 5 - k < j → (x3 = (k : Int)) → (k ≤ 5) → (x1 = gmF c ac re kn k) → zIn D 4 cJ o a c [.int (iZ (0)), .int (ac), .int (re), .int (kn)] s H locs → lv_has ls 4 [(0, .ref o), (1, .long (x1)), (3, .int (iZ (x3)))] → W p l e { frames := 4, cells := 0, slots := 0, locals := 114 } s m (Value.ref o :: ([] : List Value)).toArray below meth c0 H locs 0 0 (zE1 below D 4 cJ o a (Value.ref o :: ([] : List Value)).toArray s 0 0 (fun v => v = some (.long (dgsm c ac re kn))) (c) [.int (iZ (0)), .int (ac), .int (re), .int (kn)]) (F0 m 122 ls []) := by
                intro j
                induction j with
                | zero => intro k x1 x3 H locs ls hmu; exact absurd hmu (Nat.not_lt_zero _)
                | succ j ih122 =>
                  intro k x1 x3 H locs ls hmu i122_0 i122_1 i122_2 B hl
                  refine lv_iload_n C.1 C.2.1 dX5_digest_122 rfl (lv_at hl 2 rfl) ?_
                  refine z_iconst C dX5_digest_123 ?_
                  refine z_icmp_ge (tgt := 144) C (by omega) (by omega) dX5_digest_124 (by decide) (fun h124 => ?_) (fun h124 => ?_)
                  · refine lv_lload_n C.1 C.2.1 dX5_digest_144 rfl (lv_at hl 1 rfl) ?_
                    refine lv_aload_n C.1 C.2.1 dX5_digest_145 rfl (lv_at hl 0 rfl) ?_
                    refine zo_callD C B (r := some (.int (iZ (zB (som (c)))))) (c_X5_isWhole l D cJ o a (c) (0) (ac) (re) (kn)  ) ml_X5_167 rfl ⟨Nat.le_of_ble_eq_true rfl, Nat.le_of_ble_eq_true rfl⟩ ⟨Nat.le_of_ble_eq_true rfl, Nat.le_of_ble_eq_true rfl⟩ hl (Nat.le_of_ble_eq_true rfl) rfl dX5_digest_146 (fun H locs B => ?_)
                    refine z_call C (c_X5_one l (som (c)) ) ml_X5_29 ⟨by decide, by decide⟩ ⟨Nat.le_of_ble_eq_true rfl, Nat.le_of_ble_eq_true rfl⟩ hl (Nat.le_of_ble_eq_true rfl) rfl dX5_digest_149 ?_
                    have q149_0 := zB_rng (som (c))
                    refine lv_i2l C.1 C.2.1 dX5_digest_152 rfl ?_
                    refine z_call C (c_X5_add l (x1) ((iZ (zB (som (c)))).toInt64) ) ml_X5_175 ⟨by decide, by decide⟩ ⟨Nat.le_of_ble_eq_true rfl, Nat.le_of_ble_eq_true rfl⟩ hl (Nat.le_of_ble_eq_true rfl) rfl dX5_digest_153 ?_
                    exact zo_lret C B hr hk (Nat.le_of_ble_eq_true rfl) (Nat.le_of_ble_eq_true rfl) dX5_digest_156 (by subst i122_2; rw [dgsm, show k = 5 by omega]) (by rfl) (by rfl)
                  · refine lv_lload_n C.1 C.2.1 dX5_digest_127 rfl (lv_at hl 1 rfl) ?_
                    refine lv_aload_n C.1 C.2.1 dX5_digest_128 rfl (lv_at hl 0 rfl) ?_
                    refine lv_iload_n C.1 C.2.1 dX5_digest_129 rfl (lv_at hl 2 rfl) ?_
                    refine zo_callD C B (r := some (.int (hm3 (c) (ac) (re) (kn) (x3)))) (c_X5_houseTold l D cJ o a (c) (0) (ac) (re) (kn) (x3) (by first | assumption | omega | rfl | exact decide_eq_false (by omega) | exact decide_eq_true (by assumption) | exact decide_eq_true (by omega) | exact one_shl33 (by omega) | exact pm_lt _ _ | exact rm_lt (by first | assumption | exact pm_lt _ _) | exact Nat.lt_of_le_of_lt (Nat.shiftRight_le _ _) (by assumption) | exact Nat.lt_of_le_of_lt Nat.and_le_right (by omega))) ml_X5_164 rfl ⟨Nat.le_of_ble_eq_true rfl, Nat.le_of_ble_eq_true rfl⟩ ⟨Nat.le_of_ble_eq_true rfl, Nat.le_of_ble_eq_true rfl⟩ hl (Nat.le_of_ble_eq_true rfl) rfl dX5_digest_130 (fun H locs B => ?_)
                    refine lv_i2l C.1 C.2.1 dX5_digest_133 rfl ?_
                    refine z_call C (c_X5_add l (x1) ((hm3 (c) (ac) (re) (kn) (x3)).toInt64) ) ml_X5_175 ⟨by decide, by decide⟩ ⟨Nat.le_of_ble_eq_true rfl, Nat.le_of_ble_eq_true rfl⟩ hl (Nat.le_of_ble_eq_true rfl) rfl dX5_digest_134 ?_
                    refine lv_lstore_n (lv' := [(1, .long (ad (x1) ((hm3 (c) (ac) (re) (kn) (x3)).toInt64))), (0, .ref o), (3, .int (iZ (x3)))]) C.1 C.2.1 dX5_digest_137 rfl hl (by decide) rfl (fun ls hl => ?_)
                    refine z_iinc (j := 2) (lv' := [(3, .int (iZ (x3 + 1))), (1, .long (ad (x1) ((hm3 (c) (ac) (re) (kn) (x3)).toInt64))), (0, .ref o)]) C dX5_digest_138 hl rfl (by decide) rfl (fun ls hl => ?_)
                    refine lv_goto (tgt := 122) C.1 C.2.1 dX5_digest_141 (by decide) ?_
                    exact ih122 (k + 1) _ _ _ _ _ (by omega) (by omega) (by omega) (by subst i122_0 i122_2; rfl) B (lv_sub hl [2, 1, 0] rfl)
              exact L122 _ (0) _ _ _ _ _ (by exact Nat.lt_succ_self _) (by rfl) (by omega) (by subst i95_2; rw [show k = 5 by omega]; rfl) B (lv_sub hl [1, 2, 0] rfl)
            · refine lv_lload_n C.1 C.2.1 dX5_digest_100 rfl (lv_at hl 1 rfl) ?_
              refine lv_aload_n C.1 C.2.1 dX5_digest_101 rfl (lv_at hl 0 rfl) ?_
              refine lv_iload_n C.1 C.2.1 dX5_digest_102 rfl (lv_at hl 2 rfl) ?_
              refine lv_iload_n C.1 C.2.1 dX5_digest_103 rfl (lv_at hl 2 rfl) ?_
              refine z_iconst C dX5_digest_104 ?_
              refine z_iadd C dX5_digest_105 ?_
              refine zo_callD C B (r := some (.int (iZ (zB (decide ((c) ((x3) + (1)).toNat < (c) (x3).toNat)) - zB (decide ((c) (x3).toNat < (c) ((x3) + (1)).toNat)))))) (c_X5_side l D cJ o a (c) (0) (ac) (re) (kn) (x3) ((x3) + (1)) (by first | assumption | omega | rfl | exact decide_eq_false (by omega) | exact decide_eq_true (by assumption) | exact decide_eq_true (by omega) | exact one_shl33 (by omega) | exact pm_lt _ _ | exact rm_lt (by first | assumption | exact pm_lt _ _) | exact Nat.lt_of_le_of_lt (Nat.shiftRight_le _ _) (by assumption) | exact Nat.lt_of_le_of_lt Nat.and_le_right (by omega)) (by first | assumption | omega | rfl | exact decide_eq_false (by omega) | exact decide_eq_true (by assumption) | exact decide_eq_true (by omega) | exact one_shl33 (by omega) | exact pm_lt _ _ | exact rm_lt (by first | assumption | exact pm_lt _ _) | exact Nat.lt_of_le_of_lt (Nat.shiftRight_le _ _) (by assumption) | exact Nat.lt_of_le_of_lt Nat.and_le_right (by omega))) ml_X5_140 rfl ⟨Nat.le_of_ble_eq_true rfl, Nat.le_of_ble_eq_true rfl⟩ ⟨Nat.le_of_ble_eq_true rfl, Nat.le_of_ble_eq_true rfl⟩ hl (Nat.le_of_ble_eq_true rfl) rfl dX5_digest_106 (fun H locs B => ?_)
              have q106_0 := sd_rngE ((c) ((x3) + (1)).toNat) ((c) (x3).toNat)
              refine lv_i2l C.1 C.2.1 dX5_digest_109 rfl ?_
              refine z_call C (c_X5_add l (x1) ((iZ (zB (decide ((c) ((x3) + (1)).toNat < (c) (x3).toNat)) - zB (decide ((c) (x3).toNat < (c) ((x3) + (1)).toNat)))).toInt64) ) ml_X5_175 ⟨by decide, by decide⟩ ⟨Nat.le_of_ble_eq_true rfl, Nat.le_of_ble_eq_true rfl⟩ hl (Nat.le_of_ble_eq_true rfl) rfl dX5_digest_110 ?_
              refine lv_lstore_n (lv' := [(1, .long (ad (x1) ((iZ (zB (decide ((c) ((x3) + (1)).toNat < (c) (x3).toNat)) - zB (decide ((c) (x3).toNat < (c) ((x3) + (1)).toNat)))).toInt64))), (0, .ref o), (3, .int (iZ (x3)))]) C.1 C.2.1 dX5_digest_113 rfl hl (by decide) rfl (fun ls hl => ?_)
              refine z_iinc (j := 2) (lv' := [(3, .int (iZ (x3 + 1))), (1, .long (ad (x1) ((iZ (zB (decide ((c) ((x3) + (1)).toNat < (c) (x3).toNat)) - zB (decide ((c) (x3).toNat < (c) ((x3) + (1)).toNat)))).toInt64))), (0, .ref o)]) C dX5_digest_114 hl rfl (by decide) rfl (fun ls hl => ?_)
              refine lv_goto (tgt := 95) C.1 C.2.1 dX5_digest_117 (by decide) ?_
              exact ih95 (k + 1) _ _ _ _ _ (by omega) (by omega) (by omega) (by subst i95_0 i95_2; rfl) B (lv_sub hl [2, 1, 0] rfl)
        exact L95 _ (0) _ _ _ _ _ (by exact Nat.lt_succ_self _) (by rfl) (by omega) (by subst i11_2; rw [show k = 6 by omega]; rfl) B (lv_sub hl [1, 2, 0] rfl)
      · refine lv_lload_n C.1 C.2.1 dX5_digest_17 rfl (lv_at hl 1 rfl) ?_
        refine lv_aload_n C.1 C.2.1 dX5_digest_18 rfl (lv_at hl 0 rfl) ?_
        refine zo_get C B (Cn := RX5) (T := TX5) (N := 5) (v := .ref a) rfl inX5 0 (by decide) fl_X5_7 rfl rfl dX5_digest_19 ?_
        refine lv_iload_n C.1 C.2.1 dX5_digest_22 rfl (lv_at hl 2 rfl) ?_
        refine zo_lald C B ((x3).toNat) (by omega) (by omega) dX5_digest_23 ?_
        have q23 := B.1.2.2.2 ((x3).toNat)
        refine z_l2i C dX5_digest_24 ?_
        refine lv_i2l C.1 C.2.1 dX5_digest_25 rfl ?_
        refine z_call C (c_X5_add l (x1) ((iZ (((c ((x3).toNat) : Nat) : Int))).toInt64) ) ml_X5_175 ⟨by decide, by decide⟩ ⟨Nat.le_of_ble_eq_true rfl, Nat.le_of_ble_eq_true rfl⟩ hl (Nat.le_of_ble_eq_true rfl) rfl dX5_digest_26 ?_
        refine lv_lstore_n (lv' := [(1, .long (ad (x1) ((iZ (((c ((x3).toNat) : Nat) : Int))).toInt64))), (0, .ref o), (3, .int (iZ (x3)))]) C.1 C.2.1 dX5_digest_29 rfl hl (by decide) rfl (fun ls hl => ?_)
        refine lv_lload_n C.1 C.2.1 dX5_digest_30 rfl (lv_at hl 0 rfl) ?_
        refine lv_aload_n C.1 C.2.1 dX5_digest_31 rfl (lv_at hl 1 rfl) ?_
        refine zo_get C B (Cn := RX5) (T := TX5) (N := 5) (v := .ref a) rfl inX5 0 (by decide) fl_X5_7 rfl rfl dX5_digest_32 ?_
        refine lv_iload_n C.1 C.2.1 dX5_digest_35 rfl (lv_at hl 2 rfl) ?_
        refine zo_lald C B ((x3).toNat) (by omega) (by omega) dX5_digest_36 ?_
        have q36 := B.1.2.2.2 ((x3).toNat)
        refine z_call C (c_X5_degreeOf l (c ((x3).toNat)) (by first | assumption | omega | rfl | exact decide_eq_false (by omega) | exact decide_eq_true (by assumption) | exact decide_eq_true (by omega) | exact one_shl33 (by omega) | exact pm_lt _ _ | exact rm_lt (by first | assumption | exact pm_lt _ _) | exact Nat.lt_of_le_of_lt (Nat.shiftRight_le _ _) (by assumption) | exact Nat.lt_of_le_of_lt Nat.and_le_right (by omega))) ml_X5_33 ⟨by decide, by decide⟩ ⟨Nat.le_of_ble_eq_true rfl, Nat.le_of_ble_eq_true rfl⟩ hl (Nat.le_of_ble_eq_true rfl) rfl dX5_digest_37 ?_
        have q37_0 := tp_rngE (c ((x3).toNat)) (by first | assumption | omega | exact pm_lt _ _ | exact rm_lt (by assumption))
        refine lv_i2l C.1 C.2.1 dX5_digest_40 rfl ?_
        refine z_call C (c_X5_add l (ad (x1) ((iZ (((c ((x3).toNat) : Nat) : Int))).toInt64)) ((iZ (tp (c ((x3).toNat)))).toInt64) ) ml_X5_175 ⟨by decide, by decide⟩ ⟨Nat.le_of_ble_eq_true rfl, Nat.le_of_ble_eq_true rfl⟩ hl (Nat.le_of_ble_eq_true rfl) rfl dX5_digest_41 ?_
        refine lv_lstore_n (lv' := [(1, .long (ad (ad (x1) ((iZ (((c ((x3).toNat) : Nat) : Int))).toInt64)) ((iZ (tp (c ((x3).toNat)))).toInt64))), (0, .ref o), (3, .int (iZ (x3)))]) C.1 C.2.1 dX5_digest_44 rfl hl (by decide) rfl (fun ls hl => ?_)
        refine lv_lload_n C.1 C.2.1 dX5_digest_45 rfl (lv_at hl 0 rfl) ?_
        refine lv_aload_n C.1 C.2.1 dX5_digest_46 rfl (lv_at hl 1 rfl) ?_
        refine zo_get C B (Cn := RX5) (T := TX5) (N := 5) (v := .ref a) rfl inX5 0 (by decide) fl_X5_7 rfl rfl dX5_digest_47 ?_
        refine lv_iload_n C.1 C.2.1 dX5_digest_50 rfl (lv_at hl 2 rfl) ?_
        refine zo_lald C B ((x3).toNat) (by omega) (by omega) dX5_digest_51 ?_
        have q51 := B.1.2.2.2 ((x3).toNat)
        refine z_call C (c_X5_lowOf l (c ((x3).toNat)) (by first | assumption | omega | rfl | exact decide_eq_false (by omega) | exact decide_eq_true (by assumption) | exact decide_eq_true (by omega) | exact one_shl33 (by omega) | exact pm_lt _ _ | exact rm_lt (by first | assumption | exact pm_lt _ _) | exact Nat.lt_of_le_of_lt (Nat.shiftRight_le _ _) (by assumption) | exact Nat.lt_of_le_of_lt Nat.and_le_right (by omega))) ml_X5_105 ⟨by decide, by decide⟩ ⟨Nat.le_of_ble_eq_true rfl, Nat.le_of_ble_eq_true rfl⟩ hl (Nat.le_of_ble_eq_true rfl) rfl dX5_digest_52 ?_
        have q52_0 := bp33 (c ((x3).toNat))
        refine lv_i2l C.1 C.2.1 dX5_digest_55 rfl ?_
        refine z_call C (c_X5_add l (ad (ad (x1) ((iZ (((c ((x3).toNat) : Nat) : Int))).toInt64)) ((iZ (tp (c ((x3).toNat)))).toInt64)) ((iZ (bpF (c ((x3).toNat)) 33 0)).toInt64) ) ml_X5_175 ⟨by decide, by decide⟩ ⟨Nat.le_of_ble_eq_true rfl, Nat.le_of_ble_eq_true rfl⟩ hl (Nat.le_of_ble_eq_true rfl) rfl dX5_digest_56 ?_
        refine lv_lstore_n (lv' := [(1, .long (ad (ad (ad (x1) ((iZ (((c ((x3).toNat) : Nat) : Int))).toInt64)) ((iZ (tp (c ((x3).toNat)))).toInt64)) ((iZ (bpF (c ((x3).toNat)) 33 0)).toInt64))), (0, .ref o), (3, .int (iZ (x3)))]) C.1 C.2.1 dX5_digest_59 rfl hl (by decide) rfl (fun ls hl => ?_)
        refine lv_lload_n C.1 C.2.1 dX5_digest_60 rfl (lv_at hl 0 rfl) ?_
        refine lv_aload_n C.1 C.2.1 dX5_digest_61 rfl (lv_at hl 1 rfl) ?_
        refine zo_get C B (Cn := RX5) (T := TX5) (N := 5) (v := .ref a) rfl inX5 0 (by decide) fl_X5_7 rfl rfl dX5_digest_62 ?_
        refine lv_iload_n C.1 C.2.1 dX5_digest_65 rfl (lv_at hl 2 rfl) ?_
        refine zo_lald C B ((x3).toNat) (by omega) (by omega) dX5_digest_66 ?_
        have q66 := B.1.2.2.2 ((x3).toNat)
        refine z_call C (c_X5_weightOf l (c ((x3).toNat)) (by first | assumption | omega | rfl | exact decide_eq_false (by omega) | exact decide_eq_true (by assumption) | exact decide_eq_true (by omega) | exact one_shl33 (by omega) | exact pm_lt _ _ | exact rm_lt (by first | assumption | exact pm_lt _ _) | exact Nat.lt_of_le_of_lt (Nat.shiftRight_le _ _) (by assumption) | exact Nat.lt_of_le_of_lt Nat.and_le_right (by omega))) ml_X5_108 ⟨by decide, by decide⟩ ⟨Nat.le_of_ble_eq_true rfl, Nat.le_of_ble_eq_true rfl⟩ hl (Nat.le_of_ble_eq_true rfl) rfl dX5_digest_67 ?_
        have q67_0 := wt_rngE (c ((x3).toNat))
        refine lv_i2l C.1 C.2.1 dX5_digest_70 rfl ?_
        refine z_call C (c_X5_add l (ad (ad (ad (x1) ((iZ (((c ((x3).toNat) : Nat) : Int))).toInt64)) ((iZ (tp (c ((x3).toNat)))).toInt64)) ((iZ (bpF (c ((x3).toNat)) 33 0)).toInt64)) ((iZ (wt (c ((x3).toNat)) 33)).toInt64) ) ml_X5_175 ⟨by decide, by decide⟩ ⟨Nat.le_of_ble_eq_true rfl, Nat.le_of_ble_eq_true rfl⟩ hl (Nat.le_of_ble_eq_true rfl) rfl dX5_digest_71 ?_
        refine lv_lstore_n (lv' := [(1, .long (ad (ad (ad (ad (x1) ((iZ (((c ((x3).toNat) : Nat) : Int))).toInt64)) ((iZ (tp (c ((x3).toNat)))).toInt64)) ((iZ (bpF (c ((x3).toNat)) 33 0)).toInt64)) ((iZ (wt (c ((x3).toNat)) 33)).toInt64))), (0, .ref o), (3, .int (iZ (x3)))]) C.1 C.2.1 dX5_digest_74 rfl hl (by decide) rfl (fun ls hl => ?_)
        refine lv_lload_n C.1 C.2.1 dX5_digest_75 rfl (lv_at hl 0 rfl) ?_
        refine lv_aload_n C.1 C.2.1 dX5_digest_76 rfl (lv_at hl 1 rfl) ?_
        refine lv_iload_n C.1 C.2.1 dX5_digest_77 rfl (lv_at hl 2 rfl) ?_
        refine z_iconst C dX5_digest_78 ?_
        refine zo_callD C B (r := some (.int (iZ (fdF (c) ((c) (x3).toNat) (true) (x3) 6)))) (c_X5_found l D cJ o a (c) (0) (ac) (re) (kn) (x3) (true) (by first | assumption | omega | rfl | exact decide_eq_false (by omega) | exact decide_eq_true (by assumption) | exact decide_eq_true (by omega) | exact one_shl33 (by omega) | exact pm_lt _ _ | exact rm_lt (by first | assumption | exact pm_lt _ _) | exact Nat.lt_of_le_of_lt (Nat.shiftRight_le _ _) (by assumption) | exact Nat.lt_of_le_of_lt Nat.and_le_right (by omega))) ml_X5_157 rfl ⟨Nat.le_of_ble_eq_true rfl, Nat.le_of_ble_eq_true rfl⟩ ⟨Nat.le_of_ble_eq_true rfl, Nat.le_of_ble_eq_true rfl⟩ hl (Nat.le_of_ble_eq_true rfl) rfl dX5_digest_79 (fun H locs B => ?_)
        have q79_0 := fd_rngE ((c)) (true) (x3) (by omega)
        refine lv_i2l C.1 C.2.1 dX5_digest_82 rfl ?_
        refine z_call C (c_X5_add l (ad (ad (ad (ad (x1) ((iZ (((c ((x3).toNat) : Nat) : Int))).toInt64)) ((iZ (tp (c ((x3).toNat)))).toInt64)) ((iZ (bpF (c ((x3).toNat)) 33 0)).toInt64)) ((iZ (wt (c ((x3).toNat)) 33)).toInt64)) ((iZ (fdF (c) ((c) (x3).toNat) (true) (x3) 6)).toInt64) ) ml_X5_175 ⟨by decide, by decide⟩ ⟨Nat.le_of_ble_eq_true rfl, Nat.le_of_ble_eq_true rfl⟩ hl (Nat.le_of_ble_eq_true rfl) rfl dX5_digest_83 ?_
        refine lv_lstore_n (lv' := [(1, .long (ad (ad (ad (ad (ad (x1) ((iZ (((c ((x3).toNat) : Nat) : Int))).toInt64)) ((iZ (tp (c ((x3).toNat)))).toInt64)) ((iZ (bpF (c ((x3).toNat)) 33 0)).toInt64)) ((iZ (wt (c ((x3).toNat)) 33)).toInt64)) ((iZ (fdF (c) ((c) (x3).toNat) (true) (x3) 6)).toInt64))), (0, .ref o), (3, .int (iZ (x3)))]) C.1 C.2.1 dX5_digest_86 rfl hl (by decide) rfl (fun ls hl => ?_)
        refine z_iinc (j := 2) (lv' := [(3, .int (iZ (x3 + 1))), (1, .long (ad (ad (ad (ad (ad (x1) ((iZ (((c ((x3).toNat) : Nat) : Int))).toInt64)) ((iZ (tp (c ((x3).toNat)))).toInt64)) ((iZ (bpF (c ((x3).toNat)) 33 0)).toInt64)) ((iZ (wt (c ((x3).toNat)) 33)).toInt64)) ((iZ (fdF (c) ((c) (x3).toNat) (true) (x3) 6)).toInt64))), (0, .ref o)]) C dX5_digest_87 hl rfl (by decide) rfl (fun ls hl => ?_)
        refine lv_goto (tgt := 11) C.1 C.2.1 dX5_digest_90 (by decide) ?_
        exact ih11 (k + 1) _ _ _ _ _ (by omega) (by omega) (by omega) (by subst i11_0 i11_2; rfl) B (lv_sub hl [2, 1, 0] rfl)
  exact L11 _ (0) _ _ _ _ _ (by exact Nat.lt_succ_self _) (by rfl) (by omega) (by rfl) B (lv_sub hl [2, 1, 0] rfl)
set_option maxHeartbeats 4000000 in
set_option maxRecDepth 100000 in
theorem c_X5_put_bad1 (l : Launch) (D : va_G) (cJ : ClassId) (o a : Nat) (c : Nat → Nat) (th : Int) (ac : Int32) (re : Int32) (kn : Int32) (z : Int) (g : Int) (r9z : -2147483648 ≤ z ∧ z ≤ 2147483647) (r9g : -2147483648 ≤ g ∧ g ≤ 2147483647) (hbad : ¬ ((0 ≤ z ∧ z ≤ 5))) : zA l yX5_put 2 66 0 0 D 4 cJ o a [.int (iZ (z)), .int (iZ (g))] c [.int (iZ (th)), .int (ac), .int (re), .int (kn)] (fun v => v = some (.int (iZ (0)))) (c) [.int (iZ (1)), .int (ac), .int (re), .int (kn)] := by
  refine zA.intro (lo := 44) (nA := 2) (own := RX5) zi_X5_put (by decide) rfl rfl (by decide +kernel) rfl (Nat.le_of_ble_eq_true rfl) ?_
  intro p e s m below meth c0 ls C hr hk B hl
  have hl : lv_has ls 3 [(0, .ref o), (1, .int (iZ (z))), (2, .int (iZ (g)))] := hl
  refine lv_aload_n C.1 C.2.1 dX5_put_0 rfl (lv_at hl 0 rfl) ?_
  refine lv_iload_n C.1 C.2.1 dX5_put_1 rfl (lv_at hl 1 rfl) ?_
  refine z_call C (c_X5_isNo l (z) (by first | assumption | omega | rfl | exact decide_eq_false (by omega) | exact decide_eq_true (by assumption) | exact decide_eq_true (by omega) | exact one_shl33 (by omega) | exact pm_lt _ _ | exact rm_lt (by first | assumption | exact pm_lt _ _) | exact Nat.lt_of_le_of_lt (Nat.shiftRight_le _ _) (by assumption) | exact Nat.lt_of_le_of_lt Nat.and_le_right (by omega))) ml_X5_67 ⟨by decide, by decide⟩ ⟨Nat.le_of_ble_eq_true rfl, Nat.le_of_ble_eq_true rfl⟩ hl (Nat.le_of_ble_eq_true rfl) rfl dX5_put_2 ?_
  refine z_iconst C dX5_put_5 ?_
  refine zo_callD C B (r := some (.int (iZ (zB (true))))) (c_X5_start_bad l D cJ o a (c) (th) (ac) (re) (kn) (decide (¬ (0 ≤ (z) ∧ (z) ≤ 5))) (1 : Int) (by first | assumption | omega | rfl | exact decide_eq_false (by omega) | exact decide_eq_true (by assumption) | exact decide_eq_true (by omega) | exact one_shl33 (by omega) | exact pm_lt _ _ | exact rm_lt (by first | assumption | exact pm_lt _ _) | exact Nat.lt_of_le_of_lt (Nat.shiftRight_le _ _) (by assumption) | exact Nat.lt_of_le_of_lt Nat.and_le_right (by omega)) (by first | assumption | omega | rfl | exact decide_eq_false (by omega) | exact decide_eq_true (by assumption) | exact decide_eq_true (by omega) | exact one_shl33 (by omega) | exact pm_lt _ _ | exact rm_lt (by first | assumption | exact pm_lt _ _) | exact Nat.lt_of_le_of_lt (Nat.shiftRight_le _ _) (by assumption) | exact Nat.lt_of_le_of_lt Nat.and_le_right (by omega))) ml_X5_71 rfl ⟨Nat.le_of_ble_eq_true rfl, Nat.le_of_ble_eq_true rfl⟩ ⟨Nat.le_of_ble_eq_true rfl, Nat.le_of_ble_eq_true rfl⟩ hl (Nat.le_of_ble_eq_true rfl) rfl dX5_put_6 (fun H locs B => ?_)
  refine z_ifB_eq (tgt := 16) C dX5_put_9 (by decide) (fun h9 => ?_) (fun h9 => ?_)
  · exact absurd h9 (by decide)
  · refine z_iconst C dX5_put_12 ?_
    refine lv_goto (tgt := 27) C.1 C.2.1 dX5_put_13 (by decide) ?_
    exact zo_iret C B hr hk (Nat.le_of_ble_eq_true rfl) (Nat.le_of_ble_eq_true rfl) dX5_put_27 (by exact congrArg (fun z : Int => some (Value.int (iZ z))) (by rfl)) (by rfl) (by rfl)

set_option maxHeartbeats 4000000 in
set_option maxRecDepth 100000 in
theorem c_X5_mono_bad1 (l : Launch) (D : va_G) (cJ : ClassId) (o a : Nat) (c : Nat → Nat) (th : Int) (ac : Int32) (re : Int32) (kn : Int32) (z : Int) (g : Int) (r9z : -2147483648 ≤ z ∧ z ≤ 2147483647) (r9g : -2147483648 ≤ g ∧ g ≤ 2147483647) (hbad : ¬ ((0 ≤ z ∧ z ≤ 5))) : zA l yX5_mono 2 66 0 0 D 4 cJ o a [.int (iZ (z)), .int (iZ (g))] c [.int (iZ (th)), .int (ac), .int (re), .int (kn)] (fun v => v = some (.int (iZ (0)))) (c) [.int (iZ (1)), .int (ac), .int (re), .int (kn)] := by
  refine zA.intro (lo := 44) (nA := 2) (own := RX5) zi_X5_mono (by decide) rfl rfl (by decide +kernel) rfl (Nat.le_of_ble_eq_true rfl) ?_
  intro p e s m below meth c0 ls C hr hk B hl
  have hl : lv_has ls 3 [(0, .ref o), (1, .int (iZ (z))), (2, .int (iZ (g)))] := hl
  refine lv_aload_n C.1 C.2.1 dX5_mono_0 rfl (lv_at hl 0 rfl) ?_
  refine lv_iload_n C.1 C.2.1 dX5_mono_1 rfl (lv_at hl 1 rfl) ?_
  refine z_call C (c_X5_isNo l (z) (by first | assumption | omega | rfl | exact decide_eq_false (by omega) | exact decide_eq_true (by assumption) | exact decide_eq_true (by omega) | exact one_shl33 (by omega) | exact pm_lt _ _ | exact rm_lt (by first | assumption | exact pm_lt _ _) | exact Nat.lt_of_le_of_lt (Nat.shiftRight_le _ _) (by assumption) | exact Nat.lt_of_le_of_lt Nat.and_le_right (by omega))) ml_X5_67 ⟨by decide, by decide⟩ ⟨Nat.le_of_ble_eq_true rfl, Nat.le_of_ble_eq_true rfl⟩ hl (Nat.le_of_ble_eq_true rfl) rfl dX5_mono_2 ?_
  refine z_iconst C dX5_mono_5 ?_
  refine zo_callD C B (r := some (.int (iZ (zB (true))))) (c_X5_start_bad l D cJ o a (c) (th) (ac) (re) (kn) (decide (¬ (0 ≤ (z) ∧ (z) ≤ 5))) (1 : Int) (by first | assumption | omega | rfl | exact decide_eq_false (by omega) | exact decide_eq_true (by assumption) | exact decide_eq_true (by omega) | exact one_shl33 (by omega) | exact pm_lt _ _ | exact rm_lt (by first | assumption | exact pm_lt _ _) | exact Nat.lt_of_le_of_lt (Nat.shiftRight_le _ _) (by assumption) | exact Nat.lt_of_le_of_lt Nat.and_le_right (by omega)) (by first | assumption | omega | rfl | exact decide_eq_false (by omega) | exact decide_eq_true (by assumption) | exact decide_eq_true (by omega) | exact one_shl33 (by omega) | exact pm_lt _ _ | exact rm_lt (by first | assumption | exact pm_lt _ _) | exact Nat.lt_of_le_of_lt (Nat.shiftRight_le _ _) (by assumption) | exact Nat.lt_of_le_of_lt Nat.and_le_right (by omega))) ml_X5_71 rfl ⟨Nat.le_of_ble_eq_true rfl, Nat.le_of_ble_eq_true rfl⟩ ⟨Nat.le_of_ble_eq_true rfl, Nat.le_of_ble_eq_true rfl⟩ hl (Nat.le_of_ble_eq_true rfl) rfl dX5_mono_6 (fun H locs B => ?_)
  refine z_ifB_ne (tgt := 35) C dX5_mono_9 (by decide) (fun h9 => ?_) (fun h9 => ?_)
  · refine z_iconst C dX5_mono_35 ?_
    refine lv_goto (tgt := 47) C.1 C.2.1 dX5_mono_36 (by decide) ?_
    exact zo_iret C B hr hk (Nat.le_of_ble_eq_true rfl) (Nat.le_of_ble_eq_true rfl) dX5_mono_47 (by exact congrArg (fun z : Int => some (Value.int (iZ z))) (by rfl)) (by rfl) (by rfl)
  · exact absurd h9 (by decide)

set_option maxHeartbeats 4000000 in
set_option maxRecDepth 100000 in
theorem c_X5_mono_bad2 (l : Launch) (D : va_G) (cJ : ClassId) (o a : Nat) (c : Nat → Nat) (th : Int) (ac : Int32) (re : Int32) (kn : Int32) (z : Int) (g : Int) (r9z : -2147483648 ≤ z ∧ z ≤ 2147483647) (r9g : -2147483648 ≤ g ∧ g ≤ 2147483647) (hcel : (0 ≤ z ∧ z ≤ 5)) (hbad : ¬ ((0 ≤ g ∧ g ≤ 32))) : zA l yX5_mono 2 66 0 0 D 4 cJ o a [.int (iZ (z)), .int (iZ (g))] c [.int (iZ (th)), .int (ac), .int (re), .int (kn)] (fun v => v = some (.int (iZ (0)))) (c) [.int (iZ (2)), .int (ac), .int (re), .int (kn)] := by
  refine zA.intro (lo := 44) (nA := 2) (own := RX5) zi_X5_mono (by decide) rfl rfl (by decide +kernel) rfl (Nat.le_of_ble_eq_true rfl) ?_
  intro p e s m below meth c0 ls C hr hk B hl
  have hl : lv_has ls 3 [(0, .ref o), (1, .int (iZ (z))), (2, .int (iZ (g)))] := hl
  refine lv_aload_n C.1 C.2.1 dX5_mono_0 rfl (lv_at hl 0 rfl) ?_
  refine lv_iload_n C.1 C.2.1 dX5_mono_1 rfl (lv_at hl 1 rfl) ?_
  refine z_call C (c_X5_isNo l (z) (by first | assumption | omega | rfl | exact decide_eq_false (by omega) | exact decide_eq_true (by assumption) | exact decide_eq_true (by omega) | exact one_shl33 (by omega) | exact pm_lt _ _ | exact rm_lt (by first | assumption | exact pm_lt _ _) | exact Nat.lt_of_le_of_lt (Nat.shiftRight_le _ _) (by assumption) | exact Nat.lt_of_le_of_lt Nat.and_le_right (by omega))) ml_X5_67 ⟨by decide, by decide⟩ ⟨Nat.le_of_ble_eq_true rfl, Nat.le_of_ble_eq_true rfl⟩ hl (Nat.le_of_ble_eq_true rfl) rfl dX5_mono_2 ?_
  refine z_iconst C dX5_mono_5 ?_
  refine zo_callD C B (r := some (.int (iZ (zB (false))))) (c_X5_start_ok l D cJ o a (c) (th) (ac) (re) (kn) (decide (¬ (0 ≤ (z) ∧ (z) ≤ 5))) (1 : Int) (by first | assumption | omega | rfl | exact decide_eq_false (by omega) | exact decide_eq_true (by assumption) | exact decide_eq_true (by omega) | exact one_shl33 (by omega) | exact pm_lt _ _ | exact rm_lt (by first | assumption | exact pm_lt _ _) | exact Nat.lt_of_le_of_lt (Nat.shiftRight_le _ _) (by assumption) | exact Nat.lt_of_le_of_lt Nat.and_le_right (by omega))) ml_X5_71 rfl ⟨Nat.le_of_ble_eq_true rfl, Nat.le_of_ble_eq_true rfl⟩ ⟨Nat.le_of_ble_eq_true rfl, Nat.le_of_ble_eq_true rfl⟩ hl (Nat.le_of_ble_eq_true rfl) rfl dX5_mono_6 (fun H locs B => ?_)
  refine z_ifB_ne (tgt := 35) C dX5_mono_9 (by decide) (fun h9 => ?_) (fun h9 => ?_)
  · exact absurd h9 (by decide)
  · refine lv_aload_n C.1 C.2.1 dX5_mono_12 rfl (lv_at hl 0 rfl) ?_
    refine lv_iload_n C.1 C.2.1 dX5_mono_13 rfl (lv_at hl 2 rfl) ?_
    refine z_iconst C dX5_mono_14 ?_
    refine z_bipush C dX5_mono_15 (by decide) ?_
    refine z_call C (c_X5_isIn l (g) (0 : Int) (32 : Int) (by first | assumption | omega | rfl | exact decide_eq_false (by omega) | exact decide_eq_true (by assumption) | exact decide_eq_true (by omega) | exact one_shl33 (by omega) | exact pm_lt _ _ | exact rm_lt (by first | assumption | exact pm_lt _ _) | exact Nat.lt_of_le_of_lt (Nat.shiftRight_le _ _) (by assumption) | exact Nat.lt_of_le_of_lt Nat.and_le_right (by omega)) (by first | assumption | omega | rfl | exact decide_eq_false (by omega) | exact decide_eq_true (by assumption) | exact decide_eq_true (by omega) | exact one_shl33 (by omega) | exact pm_lt _ _ | exact rm_lt (by first | assumption | exact pm_lt _ _) | exact Nat.lt_of_le_of_lt (Nat.shiftRight_le _ _) (by assumption) | exact Nat.lt_of_le_of_lt Nat.and_le_right (by omega)) (by first | assumption | omega | rfl | exact decide_eq_false (by omega) | exact decide_eq_true (by assumption) | exact decide_eq_true (by omega) | exact one_shl33 (by omega) | exact pm_lt _ _ | exact rm_lt (by first | assumption | exact pm_lt _ _) | exact Nat.lt_of_le_of_lt (Nat.shiftRight_le _ _) (by assumption) | exact Nat.lt_of_le_of_lt Nat.and_le_right (by omega))) ml_X5_21 ⟨by decide, by decide⟩ ⟨Nat.le_of_ble_eq_true rfl, Nat.le_of_ble_eq_true rfl⟩ hl (Nat.le_of_ble_eq_true rfl) rfl dX5_mono_17 ?_
    refine z_ifB_ne (tgt := 27) C dX5_mono_20 (by decide) (fun h20 => ?_) (fun h20 => ?_)
    · have g20 := of_decide_eq_true h20
      refine z_iconst C dX5_mono_27 ?_
      refine z_iconst C dX5_mono_28 ?_
      exfalso; omega
    · have g20 := of_decide_eq_false h20
      refine z_iconst C dX5_mono_23 ?_
      refine lv_goto (tgt := 28) C.1 C.2.1 dX5_mono_24 (by decide) ?_
      refine z_iconst C dX5_mono_28 ?_
      refine zo_callD C B (r := some (.int (iZ (zB (true))))) (c_X5_refuse_bad l D cJ o a (c) (0) ((ac)) ((re)) ((kn)) (true) (2 : Int) (by first | assumption | omega | rfl | exact decide_eq_false (by omega) | exact decide_eq_true (by assumption) | exact decide_eq_true (by omega) | exact one_shl33 (by omega) | exact pm_lt _ _ | exact rm_lt (by first | assumption | exact pm_lt _ _) | exact Nat.lt_of_le_of_lt (Nat.shiftRight_le _ _) (by assumption) | exact Nat.lt_of_le_of_lt Nat.and_le_right (by omega)) (by first | assumption | omega | rfl | exact decide_eq_false (by omega) | exact decide_eq_true (by assumption) | exact decide_eq_true (by omega) | exact one_shl33 (by omega) | exact pm_lt _ _ | exact rm_lt (by first | assumption | exact pm_lt _ _) | exact Nat.lt_of_le_of_lt (Nat.shiftRight_le _ _) (by assumption) | exact Nat.lt_of_le_of_lt Nat.and_le_right (by omega)) (by first | assumption | omega | rfl | exact decide_eq_false (by omega) | exact decide_eq_true (by assumption) | exact decide_eq_true (by omega) | exact one_shl33 (by omega) | exact pm_lt _ _ | exact rm_lt (by first | assumption | exact pm_lt _ _) | exact Nat.lt_of_le_of_lt (Nat.shiftRight_le _ _) (by assumption) | exact Nat.lt_of_le_of_lt Nat.and_le_right (by omega))) ml_X5_17 rfl ⟨Nat.le_of_ble_eq_true rfl, Nat.le_of_ble_eq_true rfl⟩ ⟨Nat.le_of_ble_eq_true rfl, Nat.le_of_ble_eq_true rfl⟩ hl (Nat.le_of_ble_eq_true rfl) rfl dX5_mono_29 (fun H locs B => ?_)
      refine z_ifB_eq (tgt := 39) C dX5_mono_32 (by decide) (fun h32 => ?_) (fun h32 => ?_)
      · exact absurd h32 (by decide)
      · refine z_iconst C dX5_mono_35 ?_
        refine lv_goto (tgt := 47) C.1 C.2.1 dX5_mono_36 (by decide) ?_
        exact zo_iret C B hr hk (Nat.le_of_ble_eq_true rfl) (Nat.le_of_ble_eq_true rfl) dX5_mono_47 (by exact congrArg (fun z : Int => some (Value.int (iZ z))) (by rfl)) (by rfl) (by rfl)

set_option maxHeartbeats 4000000 in
set_option maxRecDepth 100000 in
theorem c_X5_digit_bad1 (l : Launch) (D : va_G) (cJ : ClassId) (o a : Nat) (c : Nat → Nat) (th : Int) (ac : Int32) (re : Int32) (kn : Int32) (z : Int) (g : Int) (b : Bool) (r9z : -2147483648 ≤ z ∧ z ≤ 2147483647) (r9g : -2147483648 ≤ g ∧ g ≤ 2147483647) (hbad : ¬ ((0 ≤ z ∧ z ≤ 5))) : zA l yX5_digit 2 68 0 0 D 4 cJ o a [.int (iZ (z)), .int (iZ (g)), .int (iZ (zB (b)))] c [.int (iZ (th)), .int (ac), .int (re), .int (kn)] (fun v => v = some (.int (iZ (0)))) (c) [.int (iZ (1)), .int (ac), .int (re), .int (kn)] := by
  refine zA.intro (lo := 44) (nA := 3) (own := RX5) zi_X5_digit (by decide) rfl rfl (by decide +kernel) rfl (Nat.le_of_ble_eq_true rfl) ?_
  intro p e s m below meth c0 ls C hr hk B hl
  have hl : lv_has ls 5 [(0, .ref o), (1, .int (iZ (z))), (2, .int (iZ (g))), (3, .int (iZ (zB (b))))] := hl
  refine lv_aload_n C.1 C.2.1 dX5_digit_0 rfl (lv_at hl 0 rfl) ?_
  refine lv_iload_n C.1 C.2.1 dX5_digit_1 rfl (lv_at hl 1 rfl) ?_
  refine z_call C (c_X5_isNo l (z) (by first | assumption | omega | rfl | exact decide_eq_false (by omega) | exact decide_eq_true (by assumption) | exact decide_eq_true (by omega) | exact one_shl33 (by omega) | exact pm_lt _ _ | exact rm_lt (by first | assumption | exact pm_lt _ _) | exact Nat.lt_of_le_of_lt (Nat.shiftRight_le _ _) (by assumption) | exact Nat.lt_of_le_of_lt Nat.and_le_right (by omega))) ml_X5_67 ⟨by decide, by decide⟩ ⟨Nat.le_of_ble_eq_true rfl, Nat.le_of_ble_eq_true rfl⟩ hl (Nat.le_of_ble_eq_true rfl) rfl dX5_digit_2 ?_
  refine z_iconst C dX5_digit_5 ?_
  refine zo_callD C B (r := some (.int (iZ (zB (true))))) (c_X5_start_bad l D cJ o a (c) (th) (ac) (re) (kn) (decide (¬ (0 ≤ (z) ∧ (z) ≤ 5))) (1 : Int) (by first | assumption | omega | rfl | exact decide_eq_false (by omega) | exact decide_eq_true (by assumption) | exact decide_eq_true (by omega) | exact one_shl33 (by omega) | exact pm_lt _ _ | exact rm_lt (by first | assumption | exact pm_lt _ _) | exact Nat.lt_of_le_of_lt (Nat.shiftRight_le _ _) (by assumption) | exact Nat.lt_of_le_of_lt Nat.and_le_right (by omega)) (by first | assumption | omega | rfl | exact decide_eq_false (by omega) | exact decide_eq_true (by assumption) | exact decide_eq_true (by omega) | exact one_shl33 (by omega) | exact pm_lt _ _ | exact rm_lt (by first | assumption | exact pm_lt _ _) | exact Nat.lt_of_le_of_lt (Nat.shiftRight_le _ _) (by assumption) | exact Nat.lt_of_le_of_lt Nat.and_le_right (by omega))) ml_X5_71 rfl ⟨Nat.le_of_ble_eq_true rfl, Nat.le_of_ble_eq_true rfl⟩ ⟨Nat.le_of_ble_eq_true rfl, Nat.le_of_ble_eq_true rfl⟩ hl (Nat.le_of_ble_eq_true rfl) rfl dX5_digit_6 (fun H locs B => ?_)
  refine z_ifB_ne (tgt := 35) C dX5_digit_9 (by decide) (fun h9 => ?_) (fun h9 => ?_)
  · refine z_iconst C dX5_digit_35 ?_
    exact zo_zret C B hr hk (Nat.le_of_ble_eq_true rfl) (Nat.le_of_ble_eq_true rfl) dX5_digit_36 (by decide) (by exact congrArg (fun z : Int => some (Value.int (iZ z))) (by rfl)) (by rfl) (by rfl)
  · exact absurd h9 (by decide)

set_option maxHeartbeats 4000000 in
set_option maxRecDepth 100000 in
theorem c_X5_digit_bad2 (l : Launch) (D : va_G) (cJ : ClassId) (o a : Nat) (c : Nat → Nat) (th : Int) (ac : Int32) (re : Int32) (kn : Int32) (z : Int) (g : Int) (b : Bool) (r9z : -2147483648 ≤ z ∧ z ≤ 2147483647) (r9g : -2147483648 ≤ g ∧ g ≤ 2147483647) (hcel : (0 ≤ z ∧ z ≤ 5)) (hbad : ¬ ((0 ≤ g ∧ g ≤ 32))) : zA l yX5_digit 2 68 0 0 D 4 cJ o a [.int (iZ (z)), .int (iZ (g)), .int (iZ (zB (b)))] c [.int (iZ (th)), .int (ac), .int (re), .int (kn)] (fun v => v = some (.int (iZ (0)))) (c) [.int (iZ (2)), .int (ac), .int (re), .int (kn)] := by
  refine zA.intro (lo := 44) (nA := 3) (own := RX5) zi_X5_digit (by decide) rfl rfl (by decide +kernel) rfl (Nat.le_of_ble_eq_true rfl) ?_
  intro p e s m below meth c0 ls C hr hk B hl
  have hl : lv_has ls 5 [(0, .ref o), (1, .int (iZ (z))), (2, .int (iZ (g))), (3, .int (iZ (zB (b))))] := hl
  refine lv_aload_n C.1 C.2.1 dX5_digit_0 rfl (lv_at hl 0 rfl) ?_
  refine lv_iload_n C.1 C.2.1 dX5_digit_1 rfl (lv_at hl 1 rfl) ?_
  refine z_call C (c_X5_isNo l (z) (by first | assumption | omega | rfl | exact decide_eq_false (by omega) | exact decide_eq_true (by assumption) | exact decide_eq_true (by omega) | exact one_shl33 (by omega) | exact pm_lt _ _ | exact rm_lt (by first | assumption | exact pm_lt _ _) | exact Nat.lt_of_le_of_lt (Nat.shiftRight_le _ _) (by assumption) | exact Nat.lt_of_le_of_lt Nat.and_le_right (by omega))) ml_X5_67 ⟨by decide, by decide⟩ ⟨Nat.le_of_ble_eq_true rfl, Nat.le_of_ble_eq_true rfl⟩ hl (Nat.le_of_ble_eq_true rfl) rfl dX5_digit_2 ?_
  refine z_iconst C dX5_digit_5 ?_
  refine zo_callD C B (r := some (.int (iZ (zB (false))))) (c_X5_start_ok l D cJ o a (c) (th) (ac) (re) (kn) (decide (¬ (0 ≤ (z) ∧ (z) ≤ 5))) (1 : Int) (by first | assumption | omega | rfl | exact decide_eq_false (by omega) | exact decide_eq_true (by assumption) | exact decide_eq_true (by omega) | exact one_shl33 (by omega) | exact pm_lt _ _ | exact rm_lt (by first | assumption | exact pm_lt _ _) | exact Nat.lt_of_le_of_lt (Nat.shiftRight_le _ _) (by assumption) | exact Nat.lt_of_le_of_lt Nat.and_le_right (by omega))) ml_X5_71 rfl ⟨Nat.le_of_ble_eq_true rfl, Nat.le_of_ble_eq_true rfl⟩ ⟨Nat.le_of_ble_eq_true rfl, Nat.le_of_ble_eq_true rfl⟩ hl (Nat.le_of_ble_eq_true rfl) rfl dX5_digit_6 (fun H locs B => ?_)
  refine z_ifB_ne (tgt := 35) C dX5_digit_9 (by decide) (fun h9 => ?_) (fun h9 => ?_)
  · exact absurd h9 (by decide)
  · refine lv_aload_n C.1 C.2.1 dX5_digit_12 rfl (lv_at hl 0 rfl) ?_
    refine lv_iload_n C.1 C.2.1 dX5_digit_13 rfl (lv_at hl 2 rfl) ?_
    refine z_iconst C dX5_digit_14 ?_
    refine z_bipush C dX5_digit_15 (by decide) ?_
    refine z_call C (c_X5_isIn l (g) (0 : Int) (32 : Int) (by first | assumption | omega | rfl | exact decide_eq_false (by omega) | exact decide_eq_true (by assumption) | exact decide_eq_true (by omega) | exact one_shl33 (by omega) | exact pm_lt _ _ | exact rm_lt (by first | assumption | exact pm_lt _ _) | exact Nat.lt_of_le_of_lt (Nat.shiftRight_le _ _) (by assumption) | exact Nat.lt_of_le_of_lt Nat.and_le_right (by omega)) (by first | assumption | omega | rfl | exact decide_eq_false (by omega) | exact decide_eq_true (by assumption) | exact decide_eq_true (by omega) | exact one_shl33 (by omega) | exact pm_lt _ _ | exact rm_lt (by first | assumption | exact pm_lt _ _) | exact Nat.lt_of_le_of_lt (Nat.shiftRight_le _ _) (by assumption) | exact Nat.lt_of_le_of_lt Nat.and_le_right (by omega)) (by first | assumption | omega | rfl | exact decide_eq_false (by omega) | exact decide_eq_true (by assumption) | exact decide_eq_true (by omega) | exact one_shl33 (by omega) | exact pm_lt _ _ | exact rm_lt (by first | assumption | exact pm_lt _ _) | exact Nat.lt_of_le_of_lt (Nat.shiftRight_le _ _) (by assumption) | exact Nat.lt_of_le_of_lt Nat.and_le_right (by omega))) ml_X5_21 ⟨by decide, by decide⟩ ⟨Nat.le_of_ble_eq_true rfl, Nat.le_of_ble_eq_true rfl⟩ hl (Nat.le_of_ble_eq_true rfl) rfl dX5_digit_17 ?_
    refine z_ifB_ne (tgt := 27) C dX5_digit_20 (by decide) (fun h20 => ?_) (fun h20 => ?_)
    · have g20 := of_decide_eq_true h20
      refine z_iconst C dX5_digit_27 ?_
      refine z_iconst C dX5_digit_28 ?_
      exfalso; omega
    · have g20 := of_decide_eq_false h20
      refine z_iconst C dX5_digit_23 ?_
      refine lv_goto (tgt := 28) C.1 C.2.1 dX5_digit_24 (by decide) ?_
      refine z_iconst C dX5_digit_28 ?_
      refine zo_callD C B (r := some (.int (iZ (zB (true))))) (c_X5_refuse_bad l D cJ o a (c) (0) ((ac)) ((re)) ((kn)) (true) (2 : Int) (by first | assumption | omega | rfl | exact decide_eq_false (by omega) | exact decide_eq_true (by assumption) | exact decide_eq_true (by omega) | exact one_shl33 (by omega) | exact pm_lt _ _ | exact rm_lt (by first | assumption | exact pm_lt _ _) | exact Nat.lt_of_le_of_lt (Nat.shiftRight_le _ _) (by assumption) | exact Nat.lt_of_le_of_lt Nat.and_le_right (by omega)) (by first | assumption | omega | rfl | exact decide_eq_false (by omega) | exact decide_eq_true (by assumption) | exact decide_eq_true (by omega) | exact one_shl33 (by omega) | exact pm_lt _ _ | exact rm_lt (by first | assumption | exact pm_lt _ _) | exact Nat.lt_of_le_of_lt (Nat.shiftRight_le _ _) (by assumption) | exact Nat.lt_of_le_of_lt Nat.and_le_right (by omega)) (by first | assumption | omega | rfl | exact decide_eq_false (by omega) | exact decide_eq_true (by assumption) | exact decide_eq_true (by omega) | exact one_shl33 (by omega) | exact pm_lt _ _ | exact rm_lt (by first | assumption | exact pm_lt _ _) | exact Nat.lt_of_le_of_lt (Nat.shiftRight_le _ _) (by assumption) | exact Nat.lt_of_le_of_lt Nat.and_le_right (by omega))) ml_X5_17 rfl ⟨Nat.le_of_ble_eq_true rfl, Nat.le_of_ble_eq_true rfl⟩ ⟨Nat.le_of_ble_eq_true rfl, Nat.le_of_ble_eq_true rfl⟩ hl (Nat.le_of_ble_eq_true rfl) rfl dX5_digit_29 (fun H locs B => ?_)
      refine z_ifB_eq (tgt := 37) C dX5_digit_32 (by decide) (fun h32 => ?_) (fun h32 => ?_)
      · exact absurd h32 (by decide)
      · refine z_iconst C dX5_digit_35 ?_
        exact zo_zret C B hr hk (Nat.le_of_ble_eq_true rfl) (Nat.le_of_ble_eq_true rfl) dX5_digit_36 (by decide) (by exact congrArg (fun z : Int => some (Value.int (iZ z))) (by rfl)) (by rfl) (by rfl)

set_option maxHeartbeats 4000000 in
set_option maxRecDepth 100000 in
theorem c_X5_flip_bad1 (l : Launch) (D : va_G) (cJ : ClassId) (o a : Nat) (c : Nat → Nat) (th : Int) (ac : Int32) (re : Int32) (kn : Int32) (z : Int) (g : Int) (r9z : -2147483648 ≤ z ∧ z ≤ 2147483647) (r9g : -2147483648 ≤ g ∧ g ≤ 2147483647) (hbad : ¬ ((0 ≤ z ∧ z ≤ 5))) : zA l yX5_flip 2 66 0 0 D 4 cJ o a [.int (iZ (z)), .int (iZ (g))] c [.int (iZ (th)), .int (ac), .int (re), .int (kn)] (fun v => v = some (.int (iZ (0)))) (c) [.int (iZ (1)), .int (ac), .int (re), .int (kn)] := by
  refine zA.intro (lo := 44) (nA := 2) (own := RX5) zi_X5_flip (by decide) rfl rfl (by decide +kernel) rfl (Nat.le_of_ble_eq_true rfl) ?_
  intro p e s m below meth c0 ls C hr hk B hl
  have hl : lv_has ls 3 [(0, .ref o), (1, .int (iZ (z))), (2, .int (iZ (g)))] := hl
  refine lv_aload_n C.1 C.2.1 dX5_flip_0 rfl (lv_at hl 0 rfl) ?_
  refine lv_iload_n C.1 C.2.1 dX5_flip_1 rfl (lv_at hl 1 rfl) ?_
  refine z_call C (c_X5_isNo l (z) (by first | assumption | omega | rfl | exact decide_eq_false (by omega) | exact decide_eq_true (by assumption) | exact decide_eq_true (by omega) | exact one_shl33 (by omega) | exact pm_lt _ _ | exact rm_lt (by first | assumption | exact pm_lt _ _) | exact Nat.lt_of_le_of_lt (Nat.shiftRight_le _ _) (by assumption) | exact Nat.lt_of_le_of_lt Nat.and_le_right (by omega))) ml_X5_67 ⟨by decide, by decide⟩ ⟨Nat.le_of_ble_eq_true rfl, Nat.le_of_ble_eq_true rfl⟩ hl (Nat.le_of_ble_eq_true rfl) rfl dX5_flip_2 ?_
  refine z_iconst C dX5_flip_5 ?_
  refine zo_callD C B (r := some (.int (iZ (zB (true))))) (c_X5_start_bad l D cJ o a (c) (th) (ac) (re) (kn) (decide (¬ (0 ≤ (z) ∧ (z) ≤ 5))) (1 : Int) (by first | assumption | omega | rfl | exact decide_eq_false (by omega) | exact decide_eq_true (by assumption) | exact decide_eq_true (by omega) | exact one_shl33 (by omega) | exact pm_lt _ _ | exact rm_lt (by first | assumption | exact pm_lt _ _) | exact Nat.lt_of_le_of_lt (Nat.shiftRight_le _ _) (by assumption) | exact Nat.lt_of_le_of_lt Nat.and_le_right (by omega)) (by first | assumption | omega | rfl | exact decide_eq_false (by omega) | exact decide_eq_true (by assumption) | exact decide_eq_true (by omega) | exact one_shl33 (by omega) | exact pm_lt _ _ | exact rm_lt (by first | assumption | exact pm_lt _ _) | exact Nat.lt_of_le_of_lt (Nat.shiftRight_le _ _) (by assumption) | exact Nat.lt_of_le_of_lt Nat.and_le_right (by omega))) ml_X5_71 rfl ⟨Nat.le_of_ble_eq_true rfl, Nat.le_of_ble_eq_true rfl⟩ ⟨Nat.le_of_ble_eq_true rfl, Nat.le_of_ble_eq_true rfl⟩ hl (Nat.le_of_ble_eq_true rfl) rfl dX5_flip_6 (fun H locs B => ?_)
  refine z_ifB_ne (tgt := 35) C dX5_flip_9 (by decide) (fun h9 => ?_) (fun h9 => ?_)
  · refine z_iconst C dX5_flip_35 ?_
    exact zo_zret C B hr hk (Nat.le_of_ble_eq_true rfl) (Nat.le_of_ble_eq_true rfl) dX5_flip_36 (by decide) (by exact congrArg (fun z : Int => some (Value.int (iZ z))) (by rfl)) (by rfl) (by rfl)
  · exact absurd h9 (by decide)

set_option maxHeartbeats 4000000 in
set_option maxRecDepth 100000 in
theorem c_X5_flip_bad2 (l : Launch) (D : va_G) (cJ : ClassId) (o a : Nat) (c : Nat → Nat) (th : Int) (ac : Int32) (re : Int32) (kn : Int32) (z : Int) (g : Int) (r9z : -2147483648 ≤ z ∧ z ≤ 2147483647) (r9g : -2147483648 ≤ g ∧ g ≤ 2147483647) (hcel : (0 ≤ z ∧ z ≤ 5)) (hbad : ¬ ((0 ≤ g ∧ g ≤ 32))) : zA l yX5_flip 2 66 0 0 D 4 cJ o a [.int (iZ (z)), .int (iZ (g))] c [.int (iZ (th)), .int (ac), .int (re), .int (kn)] (fun v => v = some (.int (iZ (0)))) (c) [.int (iZ (2)), .int (ac), .int (re), .int (kn)] := by
  refine zA.intro (lo := 44) (nA := 2) (own := RX5) zi_X5_flip (by decide) rfl rfl (by decide +kernel) rfl (Nat.le_of_ble_eq_true rfl) ?_
  intro p e s m below meth c0 ls C hr hk B hl
  have hl : lv_has ls 3 [(0, .ref o), (1, .int (iZ (z))), (2, .int (iZ (g)))] := hl
  refine lv_aload_n C.1 C.2.1 dX5_flip_0 rfl (lv_at hl 0 rfl) ?_
  refine lv_iload_n C.1 C.2.1 dX5_flip_1 rfl (lv_at hl 1 rfl) ?_
  refine z_call C (c_X5_isNo l (z) (by first | assumption | omega | rfl | exact decide_eq_false (by omega) | exact decide_eq_true (by assumption) | exact decide_eq_true (by omega) | exact one_shl33 (by omega) | exact pm_lt _ _ | exact rm_lt (by first | assumption | exact pm_lt _ _) | exact Nat.lt_of_le_of_lt (Nat.shiftRight_le _ _) (by assumption) | exact Nat.lt_of_le_of_lt Nat.and_le_right (by omega))) ml_X5_67 ⟨by decide, by decide⟩ ⟨Nat.le_of_ble_eq_true rfl, Nat.le_of_ble_eq_true rfl⟩ hl (Nat.le_of_ble_eq_true rfl) rfl dX5_flip_2 ?_
  refine z_iconst C dX5_flip_5 ?_
  refine zo_callD C B (r := some (.int (iZ (zB (false))))) (c_X5_start_ok l D cJ o a (c) (th) (ac) (re) (kn) (decide (¬ (0 ≤ (z) ∧ (z) ≤ 5))) (1 : Int) (by first | assumption | omega | rfl | exact decide_eq_false (by omega) | exact decide_eq_true (by assumption) | exact decide_eq_true (by omega) | exact one_shl33 (by omega) | exact pm_lt _ _ | exact rm_lt (by first | assumption | exact pm_lt _ _) | exact Nat.lt_of_le_of_lt (Nat.shiftRight_le _ _) (by assumption) | exact Nat.lt_of_le_of_lt Nat.and_le_right (by omega))) ml_X5_71 rfl ⟨Nat.le_of_ble_eq_true rfl, Nat.le_of_ble_eq_true rfl⟩ ⟨Nat.le_of_ble_eq_true rfl, Nat.le_of_ble_eq_true rfl⟩ hl (Nat.le_of_ble_eq_true rfl) rfl dX5_flip_6 (fun H locs B => ?_)
  refine z_ifB_ne (tgt := 35) C dX5_flip_9 (by decide) (fun h9 => ?_) (fun h9 => ?_)
  · exact absurd h9 (by decide)
  · refine lv_aload_n C.1 C.2.1 dX5_flip_12 rfl (lv_at hl 0 rfl) ?_
    refine lv_iload_n C.1 C.2.1 dX5_flip_13 rfl (lv_at hl 2 rfl) ?_
    refine z_iconst C dX5_flip_14 ?_
    refine z_bipush C dX5_flip_15 (by decide) ?_
    refine z_call C (c_X5_isIn l (g) (0 : Int) (32 : Int) (by first | assumption | omega | rfl | exact decide_eq_false (by omega) | exact decide_eq_true (by assumption) | exact decide_eq_true (by omega) | exact one_shl33 (by omega) | exact pm_lt _ _ | exact rm_lt (by first | assumption | exact pm_lt _ _) | exact Nat.lt_of_le_of_lt (Nat.shiftRight_le _ _) (by assumption) | exact Nat.lt_of_le_of_lt Nat.and_le_right (by omega)) (by first | assumption | omega | rfl | exact decide_eq_false (by omega) | exact decide_eq_true (by assumption) | exact decide_eq_true (by omega) | exact one_shl33 (by omega) | exact pm_lt _ _ | exact rm_lt (by first | assumption | exact pm_lt _ _) | exact Nat.lt_of_le_of_lt (Nat.shiftRight_le _ _) (by assumption) | exact Nat.lt_of_le_of_lt Nat.and_le_right (by omega)) (by first | assumption | omega | rfl | exact decide_eq_false (by omega) | exact decide_eq_true (by assumption) | exact decide_eq_true (by omega) | exact one_shl33 (by omega) | exact pm_lt _ _ | exact rm_lt (by first | assumption | exact pm_lt _ _) | exact Nat.lt_of_le_of_lt (Nat.shiftRight_le _ _) (by assumption) | exact Nat.lt_of_le_of_lt Nat.and_le_right (by omega))) ml_X5_21 ⟨by decide, by decide⟩ ⟨Nat.le_of_ble_eq_true rfl, Nat.le_of_ble_eq_true rfl⟩ hl (Nat.le_of_ble_eq_true rfl) rfl dX5_flip_17 ?_
    refine z_ifB_ne (tgt := 27) C dX5_flip_20 (by decide) (fun h20 => ?_) (fun h20 => ?_)
    · have g20 := of_decide_eq_true h20
      refine z_iconst C dX5_flip_27 ?_
      refine z_iconst C dX5_flip_28 ?_
      exfalso; omega
    · have g20 := of_decide_eq_false h20
      refine z_iconst C dX5_flip_23 ?_
      refine lv_goto (tgt := 28) C.1 C.2.1 dX5_flip_24 (by decide) ?_
      refine z_iconst C dX5_flip_28 ?_
      refine zo_callD C B (r := some (.int (iZ (zB (true))))) (c_X5_refuse_bad l D cJ o a (c) (0) ((ac)) ((re)) ((kn)) (true) (2 : Int) (by first | assumption | omega | rfl | exact decide_eq_false (by omega) | exact decide_eq_true (by assumption) | exact decide_eq_true (by omega) | exact one_shl33 (by omega) | exact pm_lt _ _ | exact rm_lt (by first | assumption | exact pm_lt _ _) | exact Nat.lt_of_le_of_lt (Nat.shiftRight_le _ _) (by assumption) | exact Nat.lt_of_le_of_lt Nat.and_le_right (by omega)) (by first | assumption | omega | rfl | exact decide_eq_false (by omega) | exact decide_eq_true (by assumption) | exact decide_eq_true (by omega) | exact one_shl33 (by omega) | exact pm_lt _ _ | exact rm_lt (by first | assumption | exact pm_lt _ _) | exact Nat.lt_of_le_of_lt (Nat.shiftRight_le _ _) (by assumption) | exact Nat.lt_of_le_of_lt Nat.and_le_right (by omega)) (by first | assumption | omega | rfl | exact decide_eq_false (by omega) | exact decide_eq_true (by assumption) | exact decide_eq_true (by omega) | exact one_shl33 (by omega) | exact pm_lt _ _ | exact rm_lt (by first | assumption | exact pm_lt _ _) | exact Nat.lt_of_le_of_lt (Nat.shiftRight_le _ _) (by assumption) | exact Nat.lt_of_le_of_lt Nat.and_le_right (by omega))) ml_X5_17 rfl ⟨Nat.le_of_ble_eq_true rfl, Nat.le_of_ble_eq_true rfl⟩ ⟨Nat.le_of_ble_eq_true rfl, Nat.le_of_ble_eq_true rfl⟩ hl (Nat.le_of_ble_eq_true rfl) rfl dX5_flip_29 (fun H locs B => ?_)
      refine z_ifB_eq (tgt := 37) C dX5_flip_32 (by decide) (fun h32 => ?_) (fun h32 => ?_)
      · exact absurd h32 (by decide)
      · refine z_iconst C dX5_flip_35 ?_
        exact zo_zret C B hr hk (Nat.le_of_ble_eq_true rfl) (Nat.le_of_ble_eq_true rfl) dX5_flip_36 (by decide) (by exact congrArg (fun z : Int => some (Value.int (iZ z))) (by rfl)) (by rfl) (by rfl)

set_option maxHeartbeats 4000000 in
set_option maxRecDepth 100000 in
theorem c_X5_copy_bad1 (l : Launch) (D : va_G) (cJ : ClassId) (o a : Nat) (c : Nat → Nat) (th : Int) (ac : Int32) (re : Int32) (kn : Int32) (f : Int) (z : Int) (r9f : -2147483648 ≤ f ∧ f ≤ 2147483647) (r9z : -2147483648 ≤ z ∧ z ≤ 2147483647) (hbad : ¬ ((0 ≤ f ∧ f ≤ 5) ∧ (0 ≤ z ∧ z ≤ 5))) : zA l yX5_copy 2 66 0 0 D 4 cJ o a [.int (iZ (f)), .int (iZ (z))] c [.int (iZ (th)), .int (ac), .int (re), .int (kn)] (fun v => v = some (.int (iZ (0)))) (c) [.int (iZ (1)), .int (ac), .int (re), .int (kn)] := by
  refine zA.intro (lo := 44) (nA := 2) (own := RX5) zi_X5_copy (by decide) rfl rfl (by decide +kernel) rfl (Nat.le_of_ble_eq_true rfl) ?_
  intro p e s m below meth c0 ls C hr hk B hl
  have hl : lv_has ls 3 [(0, .ref o), (1, .int (iZ (f))), (2, .int (iZ (z)))] := hl
  refine lv_aload_n C.1 C.2.1 dX5_copy_0 rfl (lv_at hl 0 rfl) ?_
  refine lv_iload_n C.1 C.2.1 dX5_copy_1 rfl (lv_at hl 1 rfl) ?_
  refine z_call C (c_X5_isNo l (f) (by first | assumption | omega | rfl | exact decide_eq_false (by omega) | exact decide_eq_true (by assumption) | exact decide_eq_true (by omega) | exact one_shl33 (by omega) | exact pm_lt _ _ | exact rm_lt (by first | assumption | exact pm_lt _ _) | exact Nat.lt_of_le_of_lt (Nat.shiftRight_le _ _) (by assumption) | exact Nat.lt_of_le_of_lt Nat.and_le_right (by omega))) ml_X5_67 ⟨by decide, by decide⟩ ⟨Nat.le_of_ble_eq_true rfl, Nat.le_of_ble_eq_true rfl⟩ hl (Nat.le_of_ble_eq_true rfl) rfl dX5_copy_2 ?_
  refine z_ifB_ne (tgt := 15) C dX5_copy_5 (by decide) (fun h5 => ?_) (fun h5 => ?_)
  · have g5 := of_decide_eq_true h5
    refine z_iconst C dX5_copy_15 ?_
    refine lv_goto (tgt := 20) C.1 C.2.1 dX5_copy_16 (by decide) ?_
    refine z_iconst C dX5_copy_20 ?_
    refine zo_callD C B (r := some (.int (iZ (zB (true))))) (c_X5_start_bad l D cJ o a (c) (th) (ac) (re) (kn) (true) (1 : Int) (by first | assumption | omega | rfl | exact decide_eq_false (by omega) | exact decide_eq_true (by assumption) | exact decide_eq_true (by omega) | exact one_shl33 (by omega) | exact pm_lt _ _ | exact rm_lt (by first | assumption | exact pm_lt _ _) | exact Nat.lt_of_le_of_lt (Nat.shiftRight_le _ _) (by assumption) | exact Nat.lt_of_le_of_lt Nat.and_le_right (by omega)) (by first | assumption | omega | rfl | exact decide_eq_false (by omega) | exact decide_eq_true (by assumption) | exact decide_eq_true (by omega) | exact one_shl33 (by omega) | exact pm_lt _ _ | exact rm_lt (by first | assumption | exact pm_lt _ _) | exact Nat.lt_of_le_of_lt (Nat.shiftRight_le _ _) (by assumption) | exact Nat.lt_of_le_of_lt Nat.and_le_right (by omega))) ml_X5_71 rfl ⟨Nat.le_of_ble_eq_true rfl, Nat.le_of_ble_eq_true rfl⟩ ⟨Nat.le_of_ble_eq_true rfl, Nat.le_of_ble_eq_true rfl⟩ hl (Nat.le_of_ble_eq_true rfl) rfl dX5_copy_21 (fun H locs B => ?_)
    refine z_ifB_eq (tgt := 31) C dX5_copy_24 (by decide) (fun h24 => ?_) (fun h24 => ?_)
    · exact absurd h24 (by decide)
    · refine z_iconst C dX5_copy_27 ?_
      refine lv_goto (tgt := 42) C.1 C.2.1 dX5_copy_28 (by decide) ?_
      exact zo_iret C B hr hk (Nat.le_of_ble_eq_true rfl) (Nat.le_of_ble_eq_true rfl) dX5_copy_42 (by exact congrArg (fun z : Int => some (Value.int (iZ z))) (by rfl)) (by rfl) (by rfl)
  · have g5 := of_decide_eq_false h5
    refine lv_iload_n C.1 C.2.1 dX5_copy_8 rfl (lv_at hl 2 rfl) ?_
    refine z_call C (c_X5_isNo l (z) (by first | assumption | omega | rfl | exact decide_eq_false (by omega) | exact decide_eq_true (by assumption) | exact decide_eq_true (by omega) | exact one_shl33 (by omega) | exact pm_lt _ _ | exact rm_lt (by first | assumption | exact pm_lt _ _) | exact Nat.lt_of_le_of_lt (Nat.shiftRight_le _ _) (by assumption) | exact Nat.lt_of_le_of_lt Nat.and_le_right (by omega))) ml_X5_67 ⟨by decide, by decide⟩ ⟨Nat.le_of_ble_eq_true rfl, Nat.le_of_ble_eq_true rfl⟩ hl (Nat.le_of_ble_eq_true rfl) rfl dX5_copy_9 ?_
    refine z_ifB_eq (tgt := 19) C dX5_copy_12 (by decide) (fun h12 => ?_) (fun h12 => ?_)
    · have g12 := of_decide_eq_false h12
      refine z_iconst C dX5_copy_19 ?_
      refine z_iconst C dX5_copy_20 ?_
      exfalso; omega
    · have g12 := of_decide_eq_true h12
      refine z_iconst C dX5_copy_15 ?_
      refine lv_goto (tgt := 20) C.1 C.2.1 dX5_copy_16 (by decide) ?_
      refine z_iconst C dX5_copy_20 ?_
      refine zo_callD C B (r := some (.int (iZ (zB (true))))) (c_X5_start_bad l D cJ o a (c) (th) (ac) (re) (kn) (true) (1 : Int) (by first | assumption | omega | rfl | exact decide_eq_false (by omega) | exact decide_eq_true (by assumption) | exact decide_eq_true (by omega) | exact one_shl33 (by omega) | exact pm_lt _ _ | exact rm_lt (by first | assumption | exact pm_lt _ _) | exact Nat.lt_of_le_of_lt (Nat.shiftRight_le _ _) (by assumption) | exact Nat.lt_of_le_of_lt Nat.and_le_right (by omega)) (by first | assumption | omega | rfl | exact decide_eq_false (by omega) | exact decide_eq_true (by assumption) | exact decide_eq_true (by omega) | exact one_shl33 (by omega) | exact pm_lt _ _ | exact rm_lt (by first | assumption | exact pm_lt _ _) | exact Nat.lt_of_le_of_lt (Nat.shiftRight_le _ _) (by assumption) | exact Nat.lt_of_le_of_lt Nat.and_le_right (by omega))) ml_X5_71 rfl ⟨Nat.le_of_ble_eq_true rfl, Nat.le_of_ble_eq_true rfl⟩ ⟨Nat.le_of_ble_eq_true rfl, Nat.le_of_ble_eq_true rfl⟩ hl (Nat.le_of_ble_eq_true rfl) rfl dX5_copy_21 (fun H locs B => ?_)
      refine z_ifB_eq (tgt := 31) C dX5_copy_24 (by decide) (fun h24 => ?_) (fun h24 => ?_)
      · exact absurd h24 (by decide)
      · refine z_iconst C dX5_copy_27 ?_
        refine lv_goto (tgt := 42) C.1 C.2.1 dX5_copy_28 (by decide) ?_
        exact zo_iret C B hr hk (Nat.le_of_ble_eq_true rfl) (Nat.le_of_ble_eq_true rfl) dX5_copy_42 (by exact congrArg (fun z : Int => some (Value.int (iZ z))) (by rfl)) (by rfl) (by rfl)

set_option maxHeartbeats 4000000 in
set_option maxRecDepth 100000 in
theorem c_X5_swap_bad1 (l : Launch) (D : va_G) (cJ : ClassId) (o a : Nat) (c : Nat → Nat) (th : Int) (ac : Int32) (re : Int32) (kn : Int32) (f : Int) (z : Int) (r9f : -2147483648 ≤ f ∧ f ≤ 2147483647) (r9z : -2147483648 ≤ z ∧ z ≤ 2147483647) (hbad : ¬ ((0 ≤ f ∧ f ≤ 5) ∧ (0 ≤ z ∧ z ≤ 5))) : zA l yX5_swap 2 68 0 0 D 4 cJ o a [.int (iZ (f)), .int (iZ (z))] c [.int (iZ (th)), .int (ac), .int (re), .int (kn)] (fun v => v = some (.int (iZ (0)))) (c) [.int (iZ (1)), .int (ac), .int (re), .int (kn)] := by
  refine zA.intro (lo := 44) (nA := 2) (own := RX5) zi_X5_swap (by decide) rfl rfl (by decide +kernel) rfl (Nat.le_of_ble_eq_true rfl) ?_
  intro p e s m below meth c0 ls C hr hk B hl
  have hl : lv_has ls 5 [(0, .ref o), (1, .int (iZ (f))), (2, .int (iZ (z)))] := hl
  refine lv_aload_n C.1 C.2.1 dX5_swap_0 rfl (lv_at hl 0 rfl) ?_
  refine lv_iload_n C.1 C.2.1 dX5_swap_1 rfl (lv_at hl 1 rfl) ?_
  refine z_call C (c_X5_isNo l (f) (by first | assumption | omega | rfl | exact decide_eq_false (by omega) | exact decide_eq_true (by assumption) | exact decide_eq_true (by omega) | exact one_shl33 (by omega) | exact pm_lt _ _ | exact rm_lt (by first | assumption | exact pm_lt _ _) | exact Nat.lt_of_le_of_lt (Nat.shiftRight_le _ _) (by assumption) | exact Nat.lt_of_le_of_lt Nat.and_le_right (by omega))) ml_X5_67 ⟨by decide, by decide⟩ ⟨Nat.le_of_ble_eq_true rfl, Nat.le_of_ble_eq_true rfl⟩ hl (Nat.le_of_ble_eq_true rfl) rfl dX5_swap_2 ?_
  refine z_ifB_ne (tgt := 15) C dX5_swap_5 (by decide) (fun h5 => ?_) (fun h5 => ?_)
  · have g5 := of_decide_eq_true h5
    refine z_iconst C dX5_swap_15 ?_
    refine lv_goto (tgt := 20) C.1 C.2.1 dX5_swap_16 (by decide) ?_
    refine z_iconst C dX5_swap_20 ?_
    refine zo_callD C B (r := some (.int (iZ (zB (true))))) (c_X5_start_bad l D cJ o a (c) (th) (ac) (re) (kn) (true) (1 : Int) (by first | assumption | omega | rfl | exact decide_eq_false (by omega) | exact decide_eq_true (by assumption) | exact decide_eq_true (by omega) | exact one_shl33 (by omega) | exact pm_lt _ _ | exact rm_lt (by first | assumption | exact pm_lt _ _) | exact Nat.lt_of_le_of_lt (Nat.shiftRight_le _ _) (by assumption) | exact Nat.lt_of_le_of_lt Nat.and_le_right (by omega)) (by first | assumption | omega | rfl | exact decide_eq_false (by omega) | exact decide_eq_true (by assumption) | exact decide_eq_true (by omega) | exact one_shl33 (by omega) | exact pm_lt _ _ | exact rm_lt (by first | assumption | exact pm_lt _ _) | exact Nat.lt_of_le_of_lt (Nat.shiftRight_le _ _) (by assumption) | exact Nat.lt_of_le_of_lt Nat.and_le_right (by omega))) ml_X5_71 rfl ⟨Nat.le_of_ble_eq_true rfl, Nat.le_of_ble_eq_true rfl⟩ ⟨Nat.le_of_ble_eq_true rfl, Nat.le_of_ble_eq_true rfl⟩ hl (Nat.le_of_ble_eq_true rfl) rfl dX5_swap_21 (fun H locs B => ?_)
    refine z_ifB_eq (tgt := 29) C dX5_swap_24 (by decide) (fun h24 => ?_) (fun h24 => ?_)
    · exact absurd h24 (by decide)
    · refine z_iconst C dX5_swap_27 ?_
      exact zo_iret C B hr hk (Nat.le_of_ble_eq_true rfl) (Nat.le_of_ble_eq_true rfl) dX5_swap_28 (by exact congrArg (fun z : Int => some (Value.int (iZ z))) (by rfl)) (by rfl) (by rfl)
  · have g5 := of_decide_eq_false h5
    refine lv_iload_n C.1 C.2.1 dX5_swap_8 rfl (lv_at hl 2 rfl) ?_
    refine z_call C (c_X5_isNo l (z) (by first | assumption | omega | rfl | exact decide_eq_false (by omega) | exact decide_eq_true (by assumption) | exact decide_eq_true (by omega) | exact one_shl33 (by omega) | exact pm_lt _ _ | exact rm_lt (by first | assumption | exact pm_lt _ _) | exact Nat.lt_of_le_of_lt (Nat.shiftRight_le _ _) (by assumption) | exact Nat.lt_of_le_of_lt Nat.and_le_right (by omega))) ml_X5_67 ⟨by decide, by decide⟩ ⟨Nat.le_of_ble_eq_true rfl, Nat.le_of_ble_eq_true rfl⟩ hl (Nat.le_of_ble_eq_true rfl) rfl dX5_swap_9 ?_
    refine z_ifB_eq (tgt := 19) C dX5_swap_12 (by decide) (fun h12 => ?_) (fun h12 => ?_)
    · have g12 := of_decide_eq_false h12
      refine z_iconst C dX5_swap_19 ?_
      refine z_iconst C dX5_swap_20 ?_
      exfalso; omega
    · have g12 := of_decide_eq_true h12
      refine z_iconst C dX5_swap_15 ?_
      refine lv_goto (tgt := 20) C.1 C.2.1 dX5_swap_16 (by decide) ?_
      refine z_iconst C dX5_swap_20 ?_
      refine zo_callD C B (r := some (.int (iZ (zB (true))))) (c_X5_start_bad l D cJ o a (c) (th) (ac) (re) (kn) (true) (1 : Int) (by first | assumption | omega | rfl | exact decide_eq_false (by omega) | exact decide_eq_true (by assumption) | exact decide_eq_true (by omega) | exact one_shl33 (by omega) | exact pm_lt _ _ | exact rm_lt (by first | assumption | exact pm_lt _ _) | exact Nat.lt_of_le_of_lt (Nat.shiftRight_le _ _) (by assumption) | exact Nat.lt_of_le_of_lt Nat.and_le_right (by omega)) (by first | assumption | omega | rfl | exact decide_eq_false (by omega) | exact decide_eq_true (by assumption) | exact decide_eq_true (by omega) | exact one_shl33 (by omega) | exact pm_lt _ _ | exact rm_lt (by first | assumption | exact pm_lt _ _) | exact Nat.lt_of_le_of_lt (Nat.shiftRight_le _ _) (by assumption) | exact Nat.lt_of_le_of_lt Nat.and_le_right (by omega))) ml_X5_71 rfl ⟨Nat.le_of_ble_eq_true rfl, Nat.le_of_ble_eq_true rfl⟩ ⟨Nat.le_of_ble_eq_true rfl, Nat.le_of_ble_eq_true rfl⟩ hl (Nat.le_of_ble_eq_true rfl) rfl dX5_swap_21 (fun H locs B => ?_)
      refine z_ifB_eq (tgt := 29) C dX5_swap_24 (by decide) (fun h24 => ?_) (fun h24 => ?_)
      · exact absurd h24 (by decide)
      · refine z_iconst C dX5_swap_27 ?_
        exact zo_iret C B hr hk (Nat.le_of_ble_eq_true rfl) (Nat.le_of_ble_eq_true rfl) dX5_swap_28 (by exact congrArg (fun z : Int => some (Value.int (iZ z))) (by rfl)) (by rfl) (by rfl)

set_option maxHeartbeats 4000000 in
set_option maxRecDepth 100000 in
theorem c_X5_end_bad1 (l : Launch) (D : va_G) (cJ : ClassId) (o a : Nat) (c : Nat → Nat) (th : Int) (ac : Int32) (re : Int32) (kn : Int32) (f : Int) (g : Int) (b : Bool) (z : Int) (r9f : -2147483648 ≤ f ∧ f ≤ 2147483647) (r9g : -2147483648 ≤ g ∧ g ≤ 2147483647) (r9z : -2147483648 ≤ z ∧ z ≤ 2147483647) (hbad : ¬ ((0 ≤ f ∧ f ≤ 5) ∧ (0 ≤ g ∧ g ≤ 5) ∧ (0 ≤ z ∧ z ≤ 5))) : zA l yX5_end 2 68 0 0 D 4 cJ o a [.int (iZ (f)), .int (iZ (g)), .int (iZ (zB (b))), .int (iZ (z))] c [.int (iZ (th)), .int (ac), .int (re), .int (kn)] (fun v => v = some (.int (iZ (0)))) (c) [.int (iZ (1)), .int (ac), .int (re), .int (kn)] := by
  refine zA.intro (lo := 44) (nA := 4) (own := RX5) zi_X5_end (by decide) rfl rfl (by decide +kernel) rfl (Nat.le_of_ble_eq_true rfl) ?_
  intro p e s m below meth c0 ls C hr hk B hl
  have hl : lv_has ls 5 [(0, .ref o), (1, .int (iZ (f))), (2, .int (iZ (g))), (3, .int (iZ (zB (b)))), (4, .int (iZ (z)))] := hl
  refine lv_aload_n C.1 C.2.1 dX5_end_0 rfl (lv_at hl 0 rfl) ?_
  refine lv_iload_n C.1 C.2.1 dX5_end_1 rfl (lv_at hl 1 rfl) ?_
  refine z_call C (c_X5_isNo l (f) (by first | assumption | omega | rfl | exact decide_eq_false (by omega) | exact decide_eq_true (by assumption) | exact decide_eq_true (by omega) | exact one_shl33 (by omega) | exact pm_lt _ _ | exact rm_lt (by first | assumption | exact pm_lt _ _) | exact Nat.lt_of_le_of_lt (Nat.shiftRight_le _ _) (by assumption) | exact Nat.lt_of_le_of_lt Nat.and_le_right (by omega))) ml_X5_67 ⟨by decide, by decide⟩ ⟨Nat.le_of_ble_eq_true rfl, Nat.le_of_ble_eq_true rfl⟩ hl (Nat.le_of_ble_eq_true rfl) rfl dX5_end_2 ?_
  refine z_ifB_ne (tgt := 23) C dX5_end_5 (by decide) (fun h5 => ?_) (fun h5 => ?_)
  · have g5 := of_decide_eq_true h5
    refine z_iconst C dX5_end_23 ?_
    refine lv_goto (tgt := 28) C.1 C.2.1 dX5_end_24 (by decide) ?_
    refine z_iconst C dX5_end_28 ?_
    refine zo_callD C B (r := some (.int (iZ (zB (true))))) (c_X5_start_bad l D cJ o a (c) (th) (ac) (re) (kn) (true) (1 : Int) (by first | assumption | omega | rfl | exact decide_eq_false (by omega) | exact decide_eq_true (by assumption) | exact decide_eq_true (by omega) | exact one_shl33 (by omega) | exact pm_lt _ _ | exact rm_lt (by first | assumption | exact pm_lt _ _) | exact Nat.lt_of_le_of_lt (Nat.shiftRight_le _ _) (by assumption) | exact Nat.lt_of_le_of_lt Nat.and_le_right (by omega)) (by first | assumption | omega | rfl | exact decide_eq_false (by omega) | exact decide_eq_true (by assumption) | exact decide_eq_true (by omega) | exact one_shl33 (by omega) | exact pm_lt _ _ | exact rm_lt (by first | assumption | exact pm_lt _ _) | exact Nat.lt_of_le_of_lt (Nat.shiftRight_le _ _) (by assumption) | exact Nat.lt_of_le_of_lt Nat.and_le_right (by omega))) ml_X5_71 rfl ⟨Nat.le_of_ble_eq_true rfl, Nat.le_of_ble_eq_true rfl⟩ ⟨Nat.le_of_ble_eq_true rfl, Nat.le_of_ble_eq_true rfl⟩ hl (Nat.le_of_ble_eq_true rfl) rfl dX5_end_29 (fun H locs B => ?_)
    refine z_ifB_eq (tgt := 37) C dX5_end_32 (by decide) (fun h32 => ?_) (fun h32 => ?_)
    · exact absurd h32 (by decide)
    · refine z_iconst C dX5_end_35 ?_
      exact zo_iret C B hr hk (Nat.le_of_ble_eq_true rfl) (Nat.le_of_ble_eq_true rfl) dX5_end_36 (by exact congrArg (fun z : Int => some (Value.int (iZ z))) (by rfl)) (by rfl) (by rfl)
  · have g5 := of_decide_eq_false h5
    refine lv_iload_n C.1 C.2.1 dX5_end_8 rfl (lv_at hl 2 rfl) ?_
    refine z_call C (c_X5_isNo l (g) (by first | assumption | omega | rfl | exact decide_eq_false (by omega) | exact decide_eq_true (by assumption) | exact decide_eq_true (by omega) | exact one_shl33 (by omega) | exact pm_lt _ _ | exact rm_lt (by first | assumption | exact pm_lt _ _) | exact Nat.lt_of_le_of_lt (Nat.shiftRight_le _ _) (by assumption) | exact Nat.lt_of_le_of_lt Nat.and_le_right (by omega))) ml_X5_67 ⟨by decide, by decide⟩ ⟨Nat.le_of_ble_eq_true rfl, Nat.le_of_ble_eq_true rfl⟩ hl (Nat.le_of_ble_eq_true rfl) rfl dX5_end_9 ?_
    refine z_ifB_ne (tgt := 23) C dX5_end_12 (by decide) (fun h12 => ?_) (fun h12 => ?_)
    · have g12 := of_decide_eq_true h12
      refine z_iconst C dX5_end_23 ?_
      refine lv_goto (tgt := 28) C.1 C.2.1 dX5_end_24 (by decide) ?_
      refine z_iconst C dX5_end_28 ?_
      refine zo_callD C B (r := some (.int (iZ (zB (true))))) (c_X5_start_bad l D cJ o a (c) (th) (ac) (re) (kn) (true) (1 : Int) (by first | assumption | omega | rfl | exact decide_eq_false (by omega) | exact decide_eq_true (by assumption) | exact decide_eq_true (by omega) | exact one_shl33 (by omega) | exact pm_lt _ _ | exact rm_lt (by first | assumption | exact pm_lt _ _) | exact Nat.lt_of_le_of_lt (Nat.shiftRight_le _ _) (by assumption) | exact Nat.lt_of_le_of_lt Nat.and_le_right (by omega)) (by first | assumption | omega | rfl | exact decide_eq_false (by omega) | exact decide_eq_true (by assumption) | exact decide_eq_true (by omega) | exact one_shl33 (by omega) | exact pm_lt _ _ | exact rm_lt (by first | assumption | exact pm_lt _ _) | exact Nat.lt_of_le_of_lt (Nat.shiftRight_le _ _) (by assumption) | exact Nat.lt_of_le_of_lt Nat.and_le_right (by omega))) ml_X5_71 rfl ⟨Nat.le_of_ble_eq_true rfl, Nat.le_of_ble_eq_true rfl⟩ ⟨Nat.le_of_ble_eq_true rfl, Nat.le_of_ble_eq_true rfl⟩ hl (Nat.le_of_ble_eq_true rfl) rfl dX5_end_29 (fun H locs B => ?_)
      refine z_ifB_eq (tgt := 37) C dX5_end_32 (by decide) (fun h32 => ?_) (fun h32 => ?_)
      · exact absurd h32 (by decide)
      · refine z_iconst C dX5_end_35 ?_
        exact zo_iret C B hr hk (Nat.le_of_ble_eq_true rfl) (Nat.le_of_ble_eq_true rfl) dX5_end_36 (by exact congrArg (fun z : Int => some (Value.int (iZ z))) (by rfl)) (by rfl) (by rfl)
    · have g12 := of_decide_eq_false h12
      refine lv_iload C.1 C.2.1 dX5_end_15 (lv_at hl 4 rfl) ?_
      refine z_call C (c_X5_isNo l (z) (by first | assumption | omega | rfl | exact decide_eq_false (by omega) | exact decide_eq_true (by assumption) | exact decide_eq_true (by omega) | exact one_shl33 (by omega) | exact pm_lt _ _ | exact rm_lt (by first | assumption | exact pm_lt _ _) | exact Nat.lt_of_le_of_lt (Nat.shiftRight_le _ _) (by assumption) | exact Nat.lt_of_le_of_lt Nat.and_le_right (by omega))) ml_X5_67 ⟨by decide, by decide⟩ ⟨Nat.le_of_ble_eq_true rfl, Nat.le_of_ble_eq_true rfl⟩ hl (Nat.le_of_ble_eq_true rfl) rfl dX5_end_17 ?_
      refine z_ifB_eq (tgt := 27) C dX5_end_20 (by decide) (fun h20 => ?_) (fun h20 => ?_)
      · have g20 := of_decide_eq_false h20
        refine z_iconst C dX5_end_27 ?_
        refine z_iconst C dX5_end_28 ?_
        exfalso; omega
      · have g20 := of_decide_eq_true h20
        refine z_iconst C dX5_end_23 ?_
        refine lv_goto (tgt := 28) C.1 C.2.1 dX5_end_24 (by decide) ?_
        refine z_iconst C dX5_end_28 ?_
        refine zo_callD C B (r := some (.int (iZ (zB (true))))) (c_X5_start_bad l D cJ o a (c) (th) (ac) (re) (kn) (true) (1 : Int) (by first | assumption | omega | rfl | exact decide_eq_false (by omega) | exact decide_eq_true (by assumption) | exact decide_eq_true (by omega) | exact one_shl33 (by omega) | exact pm_lt _ _ | exact rm_lt (by first | assumption | exact pm_lt _ _) | exact Nat.lt_of_le_of_lt (Nat.shiftRight_le _ _) (by assumption) | exact Nat.lt_of_le_of_lt Nat.and_le_right (by omega)) (by first | assumption | omega | rfl | exact decide_eq_false (by omega) | exact decide_eq_true (by assumption) | exact decide_eq_true (by omega) | exact one_shl33 (by omega) | exact pm_lt _ _ | exact rm_lt (by first | assumption | exact pm_lt _ _) | exact Nat.lt_of_le_of_lt (Nat.shiftRight_le _ _) (by assumption) | exact Nat.lt_of_le_of_lt Nat.and_le_right (by omega))) ml_X5_71 rfl ⟨Nat.le_of_ble_eq_true rfl, Nat.le_of_ble_eq_true rfl⟩ ⟨Nat.le_of_ble_eq_true rfl, Nat.le_of_ble_eq_true rfl⟩ hl (Nat.le_of_ble_eq_true rfl) rfl dX5_end_29 (fun H locs B => ?_)
        refine z_ifB_eq (tgt := 37) C dX5_end_32 (by decide) (fun h32 => ?_) (fun h32 => ?_)
        · exact absurd h32 (by decide)
        · refine z_iconst C dX5_end_35 ?_
          exact zo_iret C B hr hk (Nat.le_of_ble_eq_true rfl) (Nat.le_of_ble_eq_true rfl) dX5_end_36 (by exact congrArg (fun z : Int => some (Value.int (iZ z))) (by rfl)) (by rfl) (by rfl)

set_option maxHeartbeats 4000000 in
set_option maxRecDepth 100000 in
theorem c_X5_join_bad1 (l : Launch) (D : va_G) (cJ : ClassId) (o a : Nat) (c : Nat → Nat) (th : Int) (ac : Int32) (re : Int32) (kn : Int32) (f : Int) (g : Int) (h : Int) (z : Int) (r9f : -2147483648 ≤ f ∧ f ≤ 2147483647) (r9g : -2147483648 ≤ g ∧ g ≤ 2147483647) (r9h : -2147483648 ≤ h ∧ h ≤ 2147483647) (r9z : -2147483648 ≤ z ∧ z ≤ 2147483647) (hbad : ¬ ((0 ≤ f ∧ f ≤ 5) ∧ (0 ≤ g ∧ g ≤ 5) ∧ (0 ≤ z ∧ z ≤ 5))) : zA l yX5_join 2 72 0 0 D 4 cJ o a [.int (iZ (f)), .int (iZ (g)), .int (iZ (h)), .int (iZ (z))] c [.int (iZ (th)), .int (ac), .int (re), .int (kn)] (fun v => v = some (.int (iZ (0)))) (c) [.int (iZ (1)), .int (ac), .int (re), .int (kn)] := by
  refine zA.intro (lo := 44) (nA := 4) (own := RX5) zi_X5_join (by decide) rfl rfl (by decide +kernel) rfl (Nat.le_of_ble_eq_true rfl) ?_
  intro p e s m below meth c0 ls C hr hk B hl
  have hl : lv_has ls 9 [(0, .ref o), (1, .int (iZ (f))), (2, .int (iZ (g))), (3, .int (iZ (h))), (4, .int (iZ (z)))] := hl
  refine lv_aload_n C.1 C.2.1 dX5_join_0 rfl (lv_at hl 0 rfl) ?_
  refine lv_iload_n C.1 C.2.1 dX5_join_1 rfl (lv_at hl 1 rfl) ?_
  refine z_call C (c_X5_isNo l (f) (by first | assumption | omega | rfl | exact decide_eq_false (by omega) | exact decide_eq_true (by assumption) | exact decide_eq_true (by omega) | exact one_shl33 (by omega) | exact pm_lt _ _ | exact rm_lt (by first | assumption | exact pm_lt _ _) | exact Nat.lt_of_le_of_lt (Nat.shiftRight_le _ _) (by assumption) | exact Nat.lt_of_le_of_lt Nat.and_le_right (by omega))) ml_X5_67 ⟨by decide, by decide⟩ ⟨Nat.le_of_ble_eq_true rfl, Nat.le_of_ble_eq_true rfl⟩ hl (Nat.le_of_ble_eq_true rfl) rfl dX5_join_2 ?_
  refine z_ifB_ne (tgt := 23) C dX5_join_5 (by decide) (fun h5 => ?_) (fun h5 => ?_)
  · have g5 := of_decide_eq_true h5
    refine z_iconst C dX5_join_23 ?_
    refine lv_goto (tgt := 28) C.1 C.2.1 dX5_join_24 (by decide) ?_
    refine z_iconst C dX5_join_28 ?_
    refine zo_callD C B (r := some (.int (iZ (zB (true))))) (c_X5_start_bad l D cJ o a (c) (th) (ac) (re) (kn) (true) (1 : Int) (by first | assumption | omega | rfl | exact decide_eq_false (by omega) | exact decide_eq_true (by assumption) | exact decide_eq_true (by omega) | exact one_shl33 (by omega) | exact pm_lt _ _ | exact rm_lt (by first | assumption | exact pm_lt _ _) | exact Nat.lt_of_le_of_lt (Nat.shiftRight_le _ _) (by assumption) | exact Nat.lt_of_le_of_lt Nat.and_le_right (by omega)) (by first | assumption | omega | rfl | exact decide_eq_false (by omega) | exact decide_eq_true (by assumption) | exact decide_eq_true (by omega) | exact one_shl33 (by omega) | exact pm_lt _ _ | exact rm_lt (by first | assumption | exact pm_lt _ _) | exact Nat.lt_of_le_of_lt (Nat.shiftRight_le _ _) (by assumption) | exact Nat.lt_of_le_of_lt Nat.and_le_right (by omega))) ml_X5_71 rfl ⟨Nat.le_of_ble_eq_true rfl, Nat.le_of_ble_eq_true rfl⟩ ⟨Nat.le_of_ble_eq_true rfl, Nat.le_of_ble_eq_true rfl⟩ hl (Nat.le_of_ble_eq_true rfl) rfl dX5_join_29 (fun H locs B => ?_)
    refine z_ifB_ne (tgt := 57) C dX5_join_32 (by decide) (fun h32 => ?_) (fun h32 => ?_)
    · refine z_iconst C dX5_join_57 ?_
      exact zo_iret C B hr hk (Nat.le_of_ble_eq_true rfl) (Nat.le_of_ble_eq_true rfl) dX5_join_58 (by exact congrArg (fun z : Int => some (Value.int (iZ z))) (by rfl)) (by rfl) (by rfl)
    · exact absurd h32 (by decide)
  · have g5 := of_decide_eq_false h5
    refine lv_iload_n C.1 C.2.1 dX5_join_8 rfl (lv_at hl 2 rfl) ?_
    refine z_call C (c_X5_isNo l (g) (by first | assumption | omega | rfl | exact decide_eq_false (by omega) | exact decide_eq_true (by assumption) | exact decide_eq_true (by omega) | exact one_shl33 (by omega) | exact pm_lt _ _ | exact rm_lt (by first | assumption | exact pm_lt _ _) | exact Nat.lt_of_le_of_lt (Nat.shiftRight_le _ _) (by assumption) | exact Nat.lt_of_le_of_lt Nat.and_le_right (by omega))) ml_X5_67 ⟨by decide, by decide⟩ ⟨Nat.le_of_ble_eq_true rfl, Nat.le_of_ble_eq_true rfl⟩ hl (Nat.le_of_ble_eq_true rfl) rfl dX5_join_9 ?_
    refine z_ifB_ne (tgt := 23) C dX5_join_12 (by decide) (fun h12 => ?_) (fun h12 => ?_)
    · have g12 := of_decide_eq_true h12
      refine z_iconst C dX5_join_23 ?_
      refine lv_goto (tgt := 28) C.1 C.2.1 dX5_join_24 (by decide) ?_
      refine z_iconst C dX5_join_28 ?_
      refine zo_callD C B (r := some (.int (iZ (zB (true))))) (c_X5_start_bad l D cJ o a (c) (th) (ac) (re) (kn) (true) (1 : Int) (by first | assumption | omega | rfl | exact decide_eq_false (by omega) | exact decide_eq_true (by assumption) | exact decide_eq_true (by omega) | exact one_shl33 (by omega) | exact pm_lt _ _ | exact rm_lt (by first | assumption | exact pm_lt _ _) | exact Nat.lt_of_le_of_lt (Nat.shiftRight_le _ _) (by assumption) | exact Nat.lt_of_le_of_lt Nat.and_le_right (by omega)) (by first | assumption | omega | rfl | exact decide_eq_false (by omega) | exact decide_eq_true (by assumption) | exact decide_eq_true (by omega) | exact one_shl33 (by omega) | exact pm_lt _ _ | exact rm_lt (by first | assumption | exact pm_lt _ _) | exact Nat.lt_of_le_of_lt (Nat.shiftRight_le _ _) (by assumption) | exact Nat.lt_of_le_of_lt Nat.and_le_right (by omega))) ml_X5_71 rfl ⟨Nat.le_of_ble_eq_true rfl, Nat.le_of_ble_eq_true rfl⟩ ⟨Nat.le_of_ble_eq_true rfl, Nat.le_of_ble_eq_true rfl⟩ hl (Nat.le_of_ble_eq_true rfl) rfl dX5_join_29 (fun H locs B => ?_)
      refine z_ifB_ne (tgt := 57) C dX5_join_32 (by decide) (fun h32 => ?_) (fun h32 => ?_)
      · refine z_iconst C dX5_join_57 ?_
        exact zo_iret C B hr hk (Nat.le_of_ble_eq_true rfl) (Nat.le_of_ble_eq_true rfl) dX5_join_58 (by exact congrArg (fun z : Int => some (Value.int (iZ z))) (by rfl)) (by rfl) (by rfl)
      · exact absurd h32 (by decide)
    · have g12 := of_decide_eq_false h12
      refine lv_iload C.1 C.2.1 dX5_join_15 (lv_at hl 4 rfl) ?_
      refine z_call C (c_X5_isNo l (z) (by first | assumption | omega | rfl | exact decide_eq_false (by omega) | exact decide_eq_true (by assumption) | exact decide_eq_true (by omega) | exact one_shl33 (by omega) | exact pm_lt _ _ | exact rm_lt (by first | assumption | exact pm_lt _ _) | exact Nat.lt_of_le_of_lt (Nat.shiftRight_le _ _) (by assumption) | exact Nat.lt_of_le_of_lt Nat.and_le_right (by omega))) ml_X5_67 ⟨by decide, by decide⟩ ⟨Nat.le_of_ble_eq_true rfl, Nat.le_of_ble_eq_true rfl⟩ hl (Nat.le_of_ble_eq_true rfl) rfl dX5_join_17 ?_
      refine z_ifB_eq (tgt := 27) C dX5_join_20 (by decide) (fun h20 => ?_) (fun h20 => ?_)
      · have g20 := of_decide_eq_false h20
        refine z_iconst C dX5_join_27 ?_
        refine z_iconst C dX5_join_28 ?_
        exfalso; omega
      · have g20 := of_decide_eq_true h20
        refine z_iconst C dX5_join_23 ?_
        refine lv_goto (tgt := 28) C.1 C.2.1 dX5_join_24 (by decide) ?_
        refine z_iconst C dX5_join_28 ?_
        refine zo_callD C B (r := some (.int (iZ (zB (true))))) (c_X5_start_bad l D cJ o a (c) (th) (ac) (re) (kn) (true) (1 : Int) (by first | assumption | omega | rfl | exact decide_eq_false (by omega) | exact decide_eq_true (by assumption) | exact decide_eq_true (by omega) | exact one_shl33 (by omega) | exact pm_lt _ _ | exact rm_lt (by first | assumption | exact pm_lt _ _) | exact Nat.lt_of_le_of_lt (Nat.shiftRight_le _ _) (by assumption) | exact Nat.lt_of_le_of_lt Nat.and_le_right (by omega)) (by first | assumption | omega | rfl | exact decide_eq_false (by omega) | exact decide_eq_true (by assumption) | exact decide_eq_true (by omega) | exact one_shl33 (by omega) | exact pm_lt _ _ | exact rm_lt (by first | assumption | exact pm_lt _ _) | exact Nat.lt_of_le_of_lt (Nat.shiftRight_le _ _) (by assumption) | exact Nat.lt_of_le_of_lt Nat.and_le_right (by omega))) ml_X5_71 rfl ⟨Nat.le_of_ble_eq_true rfl, Nat.le_of_ble_eq_true rfl⟩ ⟨Nat.le_of_ble_eq_true rfl, Nat.le_of_ble_eq_true rfl⟩ hl (Nat.le_of_ble_eq_true rfl) rfl dX5_join_29 (fun H locs B => ?_)
        refine z_ifB_ne (tgt := 57) C dX5_join_32 (by decide) (fun h32 => ?_) (fun h32 => ?_)
        · refine z_iconst C dX5_join_57 ?_
          exact zo_iret C B hr hk (Nat.le_of_ble_eq_true rfl) (Nat.le_of_ble_eq_true rfl) dX5_join_58 (by exact congrArg (fun z : Int => some (Value.int (iZ z))) (by rfl)) (by rfl) (by rfl)
        · exact absurd h32 (by decide)

set_option maxHeartbeats 4000000 in
set_option maxRecDepth 100000 in
theorem c_X5_join_bad2 (l : Launch) (D : va_G) (cJ : ClassId) (o a : Nat) (c : Nat → Nat) (th : Int) (ac : Int32) (re : Int32) (kn : Int32) (f : Int) (g : Int) (h : Int) (z : Int) (r9f : -2147483648 ≤ f ∧ f ≤ 2147483647) (r9g : -2147483648 ≤ g ∧ g ≤ 2147483647) (r9h : -2147483648 ≤ h ∧ h ≤ 2147483647) (r9z : -2147483648 ≤ z ∧ z ≤ 2147483647) (hcel : (0 ≤ f ∧ f ≤ 5) ∧ (0 ≤ g ∧ g ≤ 5) ∧ (0 ≤ z ∧ z ≤ 5)) (hbad : ¬ ((0 ≤ h ∧ h ≤ 3))) : zA l yX5_join 2 72 0 0 D 4 cJ o a [.int (iZ (f)), .int (iZ (g)), .int (iZ (h)), .int (iZ (z))] c [.int (iZ (th)), .int (ac), .int (re), .int (kn)] (fun v => v = some (.int (iZ (0)))) (c) [.int (iZ (2)), .int (ac), .int (re), .int (kn)] := by
  refine zA.intro (lo := 44) (nA := 4) (own := RX5) zi_X5_join (by decide) rfl rfl (by decide +kernel) rfl (Nat.le_of_ble_eq_true rfl) ?_
  intro p e s m below meth c0 ls C hr hk B hl
  have hl : lv_has ls 9 [(0, .ref o), (1, .int (iZ (f))), (2, .int (iZ (g))), (3, .int (iZ (h))), (4, .int (iZ (z)))] := hl
  refine lv_aload_n C.1 C.2.1 dX5_join_0 rfl (lv_at hl 0 rfl) ?_
  refine lv_iload_n C.1 C.2.1 dX5_join_1 rfl (lv_at hl 1 rfl) ?_
  refine z_call C (c_X5_isNo l (f) (by first | assumption | omega | rfl | exact decide_eq_false (by omega) | exact decide_eq_true (by assumption) | exact decide_eq_true (by omega) | exact one_shl33 (by omega) | exact pm_lt _ _ | exact rm_lt (by first | assumption | exact pm_lt _ _) | exact Nat.lt_of_le_of_lt (Nat.shiftRight_le _ _) (by assumption) | exact Nat.lt_of_le_of_lt Nat.and_le_right (by omega))) ml_X5_67 ⟨by decide, by decide⟩ ⟨Nat.le_of_ble_eq_true rfl, Nat.le_of_ble_eq_true rfl⟩ hl (Nat.le_of_ble_eq_true rfl) rfl dX5_join_2 ?_
  refine z_ifB_ne (tgt := 23) C dX5_join_5 (by decide) (fun h5 => ?_) (fun h5 => ?_)
  · exact absurd (of_decide_eq_true h5) (by omega)
  · refine lv_iload_n C.1 C.2.1 dX5_join_8 rfl (lv_at hl 2 rfl) ?_
    refine z_call C (c_X5_isNo l (g) (by first | assumption | omega | rfl | exact decide_eq_false (by omega) | exact decide_eq_true (by assumption) | exact decide_eq_true (by omega) | exact one_shl33 (by omega) | exact pm_lt _ _ | exact rm_lt (by first | assumption | exact pm_lt _ _) | exact Nat.lt_of_le_of_lt (Nat.shiftRight_le _ _) (by assumption) | exact Nat.lt_of_le_of_lt Nat.and_le_right (by omega))) ml_X5_67 ⟨by decide, by decide⟩ ⟨Nat.le_of_ble_eq_true rfl, Nat.le_of_ble_eq_true rfl⟩ hl (Nat.le_of_ble_eq_true rfl) rfl dX5_join_9 ?_
    refine z_ifB_ne (tgt := 23) C dX5_join_12 (by decide) (fun h12 => ?_) (fun h12 => ?_)
    · exact absurd (of_decide_eq_true h12) (by omega)
    · refine lv_iload C.1 C.2.1 dX5_join_15 (lv_at hl 4 rfl) ?_
      refine z_call C (c_X5_isNo l (z) (by first | assumption | omega | rfl | exact decide_eq_false (by omega) | exact decide_eq_true (by assumption) | exact decide_eq_true (by omega) | exact one_shl33 (by omega) | exact pm_lt _ _ | exact rm_lt (by first | assumption | exact pm_lt _ _) | exact Nat.lt_of_le_of_lt (Nat.shiftRight_le _ _) (by assumption) | exact Nat.lt_of_le_of_lt Nat.and_le_right (by omega))) ml_X5_67 ⟨by decide, by decide⟩ ⟨Nat.le_of_ble_eq_true rfl, Nat.le_of_ble_eq_true rfl⟩ hl (Nat.le_of_ble_eq_true rfl) rfl dX5_join_17 ?_
      refine z_ifB_eq (tgt := 27) C dX5_join_20 (by decide) (fun h20 => ?_) (fun h20 => ?_)
      · refine z_iconst C dX5_join_27 ?_
        refine z_iconst C dX5_join_28 ?_
        refine zo_callD C B (r := some (.int (iZ (zB (false))))) (c_X5_start_ok l D cJ o a (c) (th) (ac) (re) (kn) (false) (1 : Int) (by first | assumption | omega | rfl | exact decide_eq_false (by omega) | exact decide_eq_true (by assumption) | exact decide_eq_true (by omega) | exact one_shl33 (by omega) | exact pm_lt _ _ | exact rm_lt (by first | assumption | exact pm_lt _ _) | exact Nat.lt_of_le_of_lt (Nat.shiftRight_le _ _) (by assumption) | exact Nat.lt_of_le_of_lt Nat.and_le_right (by omega))) ml_X5_71 rfl ⟨Nat.le_of_ble_eq_true rfl, Nat.le_of_ble_eq_true rfl⟩ ⟨Nat.le_of_ble_eq_true rfl, Nat.le_of_ble_eq_true rfl⟩ hl (Nat.le_of_ble_eq_true rfl) rfl dX5_join_29 (fun H locs B => ?_)
        refine z_ifB_ne (tgt := 57) C dX5_join_32 (by decide) (fun h32 => ?_) (fun h32 => ?_)
        · exact absurd h32 (by decide)
        · refine lv_aload_n C.1 C.2.1 dX5_join_35 rfl (lv_at hl 0 rfl) ?_
          refine lv_iload_n C.1 C.2.1 dX5_join_36 rfl (lv_at hl 3 rfl) ?_
          refine z_iconst C dX5_join_37 ?_
          refine z_iconst C dX5_join_38 ?_
          refine z_call C (c_X5_isIn l (h) (0 : Int) (3 : Int) (by first | assumption | omega | rfl | exact decide_eq_false (by omega) | exact decide_eq_true (by assumption) | exact decide_eq_true (by omega) | exact one_shl33 (by omega) | exact pm_lt _ _ | exact rm_lt (by first | assumption | exact pm_lt _ _) | exact Nat.lt_of_le_of_lt (Nat.shiftRight_le _ _) (by assumption) | exact Nat.lt_of_le_of_lt Nat.and_le_right (by omega)) (by first | assumption | omega | rfl | exact decide_eq_false (by omega) | exact decide_eq_true (by assumption) | exact decide_eq_true (by omega) | exact one_shl33 (by omega) | exact pm_lt _ _ | exact rm_lt (by first | assumption | exact pm_lt _ _) | exact Nat.lt_of_le_of_lt (Nat.shiftRight_le _ _) (by assumption) | exact Nat.lt_of_le_of_lt Nat.and_le_right (by omega)) (by first | assumption | omega | rfl | exact decide_eq_false (by omega) | exact decide_eq_true (by assumption) | exact decide_eq_true (by omega) | exact one_shl33 (by omega) | exact pm_lt _ _ | exact rm_lt (by first | assumption | exact pm_lt _ _) | exact Nat.lt_of_le_of_lt (Nat.shiftRight_le _ _) (by assumption) | exact Nat.lt_of_le_of_lt Nat.and_le_right (by omega))) ml_X5_21 ⟨by decide, by decide⟩ ⟨Nat.le_of_ble_eq_true rfl, Nat.le_of_ble_eq_true rfl⟩ hl (Nat.le_of_ble_eq_true rfl) rfl dX5_join_39 ?_
          refine z_ifB_ne (tgt := 49) C dX5_join_42 (by decide) (fun h42 => ?_) (fun h42 => ?_)
          · have g42 := of_decide_eq_true h42
            refine z_iconst C dX5_join_49 ?_
            refine z_iconst C dX5_join_50 ?_
            exfalso; omega
          · have g42 := of_decide_eq_false h42
            refine z_iconst C dX5_join_45 ?_
            refine lv_goto (tgt := 50) C.1 C.2.1 dX5_join_46 (by decide) ?_
            refine z_iconst C dX5_join_50 ?_
            refine zo_callD C B (r := some (.int (iZ (zB (true))))) (c_X5_refuse_bad l D cJ o a (c) (0) ((ac)) ((re)) ((kn)) (true) (2 : Int) (by first | assumption | omega | rfl | exact decide_eq_false (by omega) | exact decide_eq_true (by assumption) | exact decide_eq_true (by omega) | exact one_shl33 (by omega) | exact pm_lt _ _ | exact rm_lt (by first | assumption | exact pm_lt _ _) | exact Nat.lt_of_le_of_lt (Nat.shiftRight_le _ _) (by assumption) | exact Nat.lt_of_le_of_lt Nat.and_le_right (by omega)) (by first | assumption | omega | rfl | exact decide_eq_false (by omega) | exact decide_eq_true (by assumption) | exact decide_eq_true (by omega) | exact one_shl33 (by omega) | exact pm_lt _ _ | exact rm_lt (by first | assumption | exact pm_lt _ _) | exact Nat.lt_of_le_of_lt (Nat.shiftRight_le _ _) (by assumption) | exact Nat.lt_of_le_of_lt Nat.and_le_right (by omega)) (by first | assumption | omega | rfl | exact decide_eq_false (by omega) | exact decide_eq_true (by assumption) | exact decide_eq_true (by omega) | exact one_shl33 (by omega) | exact pm_lt _ _ | exact rm_lt (by first | assumption | exact pm_lt _ _) | exact Nat.lt_of_le_of_lt (Nat.shiftRight_le _ _) (by assumption) | exact Nat.lt_of_le_of_lt Nat.and_le_right (by omega))) ml_X5_17 rfl ⟨Nat.le_of_ble_eq_true rfl, Nat.le_of_ble_eq_true rfl⟩ ⟨Nat.le_of_ble_eq_true rfl, Nat.le_of_ble_eq_true rfl⟩ hl (Nat.le_of_ble_eq_true rfl) rfl dX5_join_51 (fun H locs B => ?_)
            refine z_ifB_eq (tgt := 59) C dX5_join_54 (by decide) (fun h54 => ?_) (fun h54 => ?_)
            · exact absurd h54 (by decide)
            · refine z_iconst C dX5_join_57 ?_
              exact zo_iret C B hr hk (Nat.le_of_ble_eq_true rfl) (Nat.le_of_ble_eq_true rfl) dX5_join_58 (by exact congrArg (fun z : Int => some (Value.int (iZ z))) (by rfl)) (by rfl) (by rfl)
      · exact absurd (of_decide_eq_true h20) (by omega)

set_option maxHeartbeats 4000000 in
set_option maxRecDepth 100000 in
theorem c_X5_times_bad1 (l : Launch) (D : va_G) (cJ : ClassId) (o a : Nat) (c : Nat → Nat) (th : Int) (ac : Int32) (re : Int32) (kn : Int32) (f : Int) (g : Int) (z : Int) (r9f : -2147483648 ≤ f ∧ f ≤ 2147483647) (r9g : -2147483648 ≤ g ∧ g ≤ 2147483647) (r9z : -2147483648 ≤ z ∧ z ≤ 2147483647) (hbad : ¬ ((0 ≤ f ∧ f ≤ 5) ∧ (0 ≤ g ∧ g ≤ 5) ∧ (0 ≤ z ∧ z ≤ 5))) : zA l yX5_times 2 67 0 0 D 4 cJ o a [.int (iZ (f)), .int (iZ (g)), .int (iZ (z))] c [.int (iZ (th)), .int (ac), .int (re), .int (kn)] (fun v => v = some (.int (iZ (0)))) (c) [.int (iZ (1)), .int (ac), .int (re), .int (kn)] := by
  refine zA.intro (lo := 44) (nA := 3) (own := RX5) zi_X5_times (by decide) rfl rfl (by decide +kernel) rfl (Nat.le_of_ble_eq_true rfl) ?_
  intro p e s m below meth c0 ls C hr hk B hl
  have hl : lv_has ls 4 [(0, .ref o), (1, .int (iZ (f))), (2, .int (iZ (g))), (3, .int (iZ (z)))] := hl
  refine lv_aload_n C.1 C.2.1 dX5_times_0 rfl (lv_at hl 0 rfl) ?_
  refine lv_iload_n C.1 C.2.1 dX5_times_1 rfl (lv_at hl 1 rfl) ?_
  refine z_call C (c_X5_isNo l (f) (by first | assumption | omega | rfl | exact decide_eq_false (by omega) | exact decide_eq_true (by assumption) | exact decide_eq_true (by omega) | exact one_shl33 (by omega) | exact pm_lt _ _ | exact rm_lt (by first | assumption | exact pm_lt _ _) | exact Nat.lt_of_le_of_lt (Nat.shiftRight_le _ _) (by assumption) | exact Nat.lt_of_le_of_lt Nat.and_le_right (by omega))) ml_X5_67 ⟨by decide, by decide⟩ ⟨Nat.le_of_ble_eq_true rfl, Nat.le_of_ble_eq_true rfl⟩ hl (Nat.le_of_ble_eq_true rfl) rfl dX5_times_2 ?_
  refine z_ifB_ne (tgt := 22) C dX5_times_5 (by decide) (fun h5 => ?_) (fun h5 => ?_)
  · have g5 := of_decide_eq_true h5
    refine z_iconst C dX5_times_22 ?_
    refine lv_goto (tgt := 27) C.1 C.2.1 dX5_times_23 (by decide) ?_
    refine z_iconst C dX5_times_27 ?_
    refine zo_callD C B (r := some (.int (iZ (zB (true))))) (c_X5_start_bad l D cJ o a (c) (th) (ac) (re) (kn) (true) (1 : Int) (by first | assumption | omega | rfl | exact decide_eq_false (by omega) | exact decide_eq_true (by assumption) | exact decide_eq_true (by omega) | exact one_shl33 (by omega) | exact pm_lt _ _ | exact rm_lt (by first | assumption | exact pm_lt _ _) | exact Nat.lt_of_le_of_lt (Nat.shiftRight_le _ _) (by assumption) | exact Nat.lt_of_le_of_lt Nat.and_le_right (by omega)) (by first | assumption | omega | rfl | exact decide_eq_false (by omega) | exact decide_eq_true (by assumption) | exact decide_eq_true (by omega) | exact one_shl33 (by omega) | exact pm_lt _ _ | exact rm_lt (by first | assumption | exact pm_lt _ _) | exact Nat.lt_of_le_of_lt (Nat.shiftRight_le _ _) (by assumption) | exact Nat.lt_of_le_of_lt Nat.and_le_right (by omega))) ml_X5_71 rfl ⟨Nat.le_of_ble_eq_true rfl, Nat.le_of_ble_eq_true rfl⟩ ⟨Nat.le_of_ble_eq_true rfl, Nat.le_of_ble_eq_true rfl⟩ hl (Nat.le_of_ble_eq_true rfl) rfl dX5_times_28 (fun H locs B => ?_)
    refine z_ifB_eq (tgt := 38) C dX5_times_31 (by decide) (fun h31 => ?_) (fun h31 => ?_)
    · exact absurd h31 (by decide)
    · refine z_iconst C dX5_times_34 ?_
      refine lv_goto (tgt := 55) C.1 C.2.1 dX5_times_35 (by decide) ?_
      exact zo_iret C B hr hk (Nat.le_of_ble_eq_true rfl) (Nat.le_of_ble_eq_true rfl) dX5_times_55 (by exact congrArg (fun z : Int => some (Value.int (iZ z))) (by rfl)) (by rfl) (by rfl)
  · have g5 := of_decide_eq_false h5
    refine lv_iload_n C.1 C.2.1 dX5_times_8 rfl (lv_at hl 2 rfl) ?_
    refine z_call C (c_X5_isNo l (g) (by first | assumption | omega | rfl | exact decide_eq_false (by omega) | exact decide_eq_true (by assumption) | exact decide_eq_true (by omega) | exact one_shl33 (by omega) | exact pm_lt _ _ | exact rm_lt (by first | assumption | exact pm_lt _ _) | exact Nat.lt_of_le_of_lt (Nat.shiftRight_le _ _) (by assumption) | exact Nat.lt_of_le_of_lt Nat.and_le_right (by omega))) ml_X5_67 ⟨by decide, by decide⟩ ⟨Nat.le_of_ble_eq_true rfl, Nat.le_of_ble_eq_true rfl⟩ hl (Nat.le_of_ble_eq_true rfl) rfl dX5_times_9 ?_
    refine z_ifB_ne (tgt := 22) C dX5_times_12 (by decide) (fun h12 => ?_) (fun h12 => ?_)
    · have g12 := of_decide_eq_true h12
      refine z_iconst C dX5_times_22 ?_
      refine lv_goto (tgt := 27) C.1 C.2.1 dX5_times_23 (by decide) ?_
      refine z_iconst C dX5_times_27 ?_
      refine zo_callD C B (r := some (.int (iZ (zB (true))))) (c_X5_start_bad l D cJ o a (c) (th) (ac) (re) (kn) (true) (1 : Int) (by first | assumption | omega | rfl | exact decide_eq_false (by omega) | exact decide_eq_true (by assumption) | exact decide_eq_true (by omega) | exact one_shl33 (by omega) | exact pm_lt _ _ | exact rm_lt (by first | assumption | exact pm_lt _ _) | exact Nat.lt_of_le_of_lt (Nat.shiftRight_le _ _) (by assumption) | exact Nat.lt_of_le_of_lt Nat.and_le_right (by omega)) (by first | assumption | omega | rfl | exact decide_eq_false (by omega) | exact decide_eq_true (by assumption) | exact decide_eq_true (by omega) | exact one_shl33 (by omega) | exact pm_lt _ _ | exact rm_lt (by first | assumption | exact pm_lt _ _) | exact Nat.lt_of_le_of_lt (Nat.shiftRight_le _ _) (by assumption) | exact Nat.lt_of_le_of_lt Nat.and_le_right (by omega))) ml_X5_71 rfl ⟨Nat.le_of_ble_eq_true rfl, Nat.le_of_ble_eq_true rfl⟩ ⟨Nat.le_of_ble_eq_true rfl, Nat.le_of_ble_eq_true rfl⟩ hl (Nat.le_of_ble_eq_true rfl) rfl dX5_times_28 (fun H locs B => ?_)
      refine z_ifB_eq (tgt := 38) C dX5_times_31 (by decide) (fun h31 => ?_) (fun h31 => ?_)
      · exact absurd h31 (by decide)
      · refine z_iconst C dX5_times_34 ?_
        refine lv_goto (tgt := 55) C.1 C.2.1 dX5_times_35 (by decide) ?_
        exact zo_iret C B hr hk (Nat.le_of_ble_eq_true rfl) (Nat.le_of_ble_eq_true rfl) dX5_times_55 (by exact congrArg (fun z : Int => some (Value.int (iZ z))) (by rfl)) (by rfl) (by rfl)
    · have g12 := of_decide_eq_false h12
      refine lv_iload_n C.1 C.2.1 dX5_times_15 rfl (lv_at hl 3 rfl) ?_
      refine z_call C (c_X5_isNo l (z) (by first | assumption | omega | rfl | exact decide_eq_false (by omega) | exact decide_eq_true (by assumption) | exact decide_eq_true (by omega) | exact one_shl33 (by omega) | exact pm_lt _ _ | exact rm_lt (by first | assumption | exact pm_lt _ _) | exact Nat.lt_of_le_of_lt (Nat.shiftRight_le _ _) (by assumption) | exact Nat.lt_of_le_of_lt Nat.and_le_right (by omega))) ml_X5_67 ⟨by decide, by decide⟩ ⟨Nat.le_of_ble_eq_true rfl, Nat.le_of_ble_eq_true rfl⟩ hl (Nat.le_of_ble_eq_true rfl) rfl dX5_times_16 ?_
      refine z_ifB_eq (tgt := 26) C dX5_times_19 (by decide) (fun h19 => ?_) (fun h19 => ?_)
      · have g19 := of_decide_eq_false h19
        refine z_iconst C dX5_times_26 ?_
        refine z_iconst C dX5_times_27 ?_
        exfalso; omega
      · have g19 := of_decide_eq_true h19
        refine z_iconst C dX5_times_22 ?_
        refine lv_goto (tgt := 27) C.1 C.2.1 dX5_times_23 (by decide) ?_
        refine z_iconst C dX5_times_27 ?_
        refine zo_callD C B (r := some (.int (iZ (zB (true))))) (c_X5_start_bad l D cJ o a (c) (th) (ac) (re) (kn) (true) (1 : Int) (by first | assumption | omega | rfl | exact decide_eq_false (by omega) | exact decide_eq_true (by assumption) | exact decide_eq_true (by omega) | exact one_shl33 (by omega) | exact pm_lt _ _ | exact rm_lt (by first | assumption | exact pm_lt _ _) | exact Nat.lt_of_le_of_lt (Nat.shiftRight_le _ _) (by assumption) | exact Nat.lt_of_le_of_lt Nat.and_le_right (by omega)) (by first | assumption | omega | rfl | exact decide_eq_false (by omega) | exact decide_eq_true (by assumption) | exact decide_eq_true (by omega) | exact one_shl33 (by omega) | exact pm_lt _ _ | exact rm_lt (by first | assumption | exact pm_lt _ _) | exact Nat.lt_of_le_of_lt (Nat.shiftRight_le _ _) (by assumption) | exact Nat.lt_of_le_of_lt Nat.and_le_right (by omega))) ml_X5_71 rfl ⟨Nat.le_of_ble_eq_true rfl, Nat.le_of_ble_eq_true rfl⟩ ⟨Nat.le_of_ble_eq_true rfl, Nat.le_of_ble_eq_true rfl⟩ hl (Nat.le_of_ble_eq_true rfl) rfl dX5_times_28 (fun H locs B => ?_)
        refine z_ifB_eq (tgt := 38) C dX5_times_31 (by decide) (fun h31 => ?_) (fun h31 => ?_)
        · exact absurd h31 (by decide)
        · refine z_iconst C dX5_times_34 ?_
          refine lv_goto (tgt := 55) C.1 C.2.1 dX5_times_35 (by decide) ?_
          exact zo_iret C B hr hk (Nat.le_of_ble_eq_true rfl) (Nat.le_of_ble_eq_true rfl) dX5_times_55 (by exact congrArg (fun z : Int => some (Value.int (iZ z))) (by rfl)) (by rfl) (by rfl)

set_option maxHeartbeats 4000000 in
set_option maxRecDepth 100000 in
theorem c_X5_square_bad1 (l : Launch) (D : va_G) (cJ : ClassId) (o a : Nat) (c : Nat → Nat) (th : Int) (ac : Int32) (re : Int32) (kn : Int32) (f : Int) (z : Int) (r9f : -2147483648 ≤ f ∧ f ≤ 2147483647) (r9z : -2147483648 ≤ z ∧ z ≤ 2147483647) (hbad : ¬ ((0 ≤ f ∧ f ≤ 5) ∧ (0 ≤ z ∧ z ≤ 5))) : zA l yX5_square 2 66 0 0 D 4 cJ o a [.int (iZ (f)), .int (iZ (z))] c [.int (iZ (th)), .int (ac), .int (re), .int (kn)] (fun v => v = some (.int (iZ (0)))) (c) [.int (iZ (1)), .int (ac), .int (re), .int (kn)] := by
  refine zA.intro (lo := 44) (nA := 2) (own := RX5) zi_X5_square (by decide) rfl rfl (by decide +kernel) rfl (Nat.le_of_ble_eq_true rfl) ?_
  intro p e s m below meth c0 ls C hr hk B hl
  have hl : lv_has ls 3 [(0, .ref o), (1, .int (iZ (f))), (2, .int (iZ (z)))] := hl
  refine lv_aload_n C.1 C.2.1 dX5_square_0 rfl (lv_at hl 0 rfl) ?_
  refine lv_iload_n C.1 C.2.1 dX5_square_1 rfl (lv_at hl 1 rfl) ?_
  refine z_call C (c_X5_isNo l (f) (by first | assumption | omega | rfl | exact decide_eq_false (by omega) | exact decide_eq_true (by assumption) | exact decide_eq_true (by omega) | exact one_shl33 (by omega) | exact pm_lt _ _ | exact rm_lt (by first | assumption | exact pm_lt _ _) | exact Nat.lt_of_le_of_lt (Nat.shiftRight_le _ _) (by assumption) | exact Nat.lt_of_le_of_lt Nat.and_le_right (by omega))) ml_X5_67 ⟨by decide, by decide⟩ ⟨Nat.le_of_ble_eq_true rfl, Nat.le_of_ble_eq_true rfl⟩ hl (Nat.le_of_ble_eq_true rfl) rfl dX5_square_2 ?_
  refine z_ifB_ne (tgt := 15) C dX5_square_5 (by decide) (fun h5 => ?_) (fun h5 => ?_)
  · have g5 := of_decide_eq_true h5
    refine z_iconst C dX5_square_15 ?_
    refine lv_goto (tgt := 20) C.1 C.2.1 dX5_square_16 (by decide) ?_
    refine z_iconst C dX5_square_20 ?_
    refine zo_callD C B (r := some (.int (iZ (zB (true))))) (c_X5_start_bad l D cJ o a (c) (th) (ac) (re) (kn) (true) (1 : Int) (by first | assumption | omega | rfl | exact decide_eq_false (by omega) | exact decide_eq_true (by assumption) | exact decide_eq_true (by omega) | exact one_shl33 (by omega) | exact pm_lt _ _ | exact rm_lt (by first | assumption | exact pm_lt _ _) | exact Nat.lt_of_le_of_lt (Nat.shiftRight_le _ _) (by assumption) | exact Nat.lt_of_le_of_lt Nat.and_le_right (by omega)) (by first | assumption | omega | rfl | exact decide_eq_false (by omega) | exact decide_eq_true (by assumption) | exact decide_eq_true (by omega) | exact one_shl33 (by omega) | exact pm_lt _ _ | exact rm_lt (by first | assumption | exact pm_lt _ _) | exact Nat.lt_of_le_of_lt (Nat.shiftRight_le _ _) (by assumption) | exact Nat.lt_of_le_of_lt Nat.and_le_right (by omega))) ml_X5_71 rfl ⟨Nat.le_of_ble_eq_true rfl, Nat.le_of_ble_eq_true rfl⟩ ⟨Nat.le_of_ble_eq_true rfl, Nat.le_of_ble_eq_true rfl⟩ hl (Nat.le_of_ble_eq_true rfl) rfl dX5_square_21 (fun H locs B => ?_)
    refine z_ifB_eq (tgt := 31) C dX5_square_24 (by decide) (fun h24 => ?_) (fun h24 => ?_)
    · exact absurd h24 (by decide)
    · refine z_iconst C dX5_square_27 ?_
      refine lv_goto (tgt := 48) C.1 C.2.1 dX5_square_28 (by decide) ?_
      exact zo_iret C B hr hk (Nat.le_of_ble_eq_true rfl) (Nat.le_of_ble_eq_true rfl) dX5_square_48 (by exact congrArg (fun z : Int => some (Value.int (iZ z))) (by rfl)) (by rfl) (by rfl)
  · have g5 := of_decide_eq_false h5
    refine lv_iload_n C.1 C.2.1 dX5_square_8 rfl (lv_at hl 2 rfl) ?_
    refine z_call C (c_X5_isNo l (z) (by first | assumption | omega | rfl | exact decide_eq_false (by omega) | exact decide_eq_true (by assumption) | exact decide_eq_true (by omega) | exact one_shl33 (by omega) | exact pm_lt _ _ | exact rm_lt (by first | assumption | exact pm_lt _ _) | exact Nat.lt_of_le_of_lt (Nat.shiftRight_le _ _) (by assumption) | exact Nat.lt_of_le_of_lt Nat.and_le_right (by omega))) ml_X5_67 ⟨by decide, by decide⟩ ⟨Nat.le_of_ble_eq_true rfl, Nat.le_of_ble_eq_true rfl⟩ hl (Nat.le_of_ble_eq_true rfl) rfl dX5_square_9 ?_
    refine z_ifB_eq (tgt := 19) C dX5_square_12 (by decide) (fun h12 => ?_) (fun h12 => ?_)
    · have g12 := of_decide_eq_false h12
      refine z_iconst C dX5_square_19 ?_
      refine z_iconst C dX5_square_20 ?_
      exfalso; omega
    · have g12 := of_decide_eq_true h12
      refine z_iconst C dX5_square_15 ?_
      refine lv_goto (tgt := 20) C.1 C.2.1 dX5_square_16 (by decide) ?_
      refine z_iconst C dX5_square_20 ?_
      refine zo_callD C B (r := some (.int (iZ (zB (true))))) (c_X5_start_bad l D cJ o a (c) (th) (ac) (re) (kn) (true) (1 : Int) (by first | assumption | omega | rfl | exact decide_eq_false (by omega) | exact decide_eq_true (by assumption) | exact decide_eq_true (by omega) | exact one_shl33 (by omega) | exact pm_lt _ _ | exact rm_lt (by first | assumption | exact pm_lt _ _) | exact Nat.lt_of_le_of_lt (Nat.shiftRight_le _ _) (by assumption) | exact Nat.lt_of_le_of_lt Nat.and_le_right (by omega)) (by first | assumption | omega | rfl | exact decide_eq_false (by omega) | exact decide_eq_true (by assumption) | exact decide_eq_true (by omega) | exact one_shl33 (by omega) | exact pm_lt _ _ | exact rm_lt (by first | assumption | exact pm_lt _ _) | exact Nat.lt_of_le_of_lt (Nat.shiftRight_le _ _) (by assumption) | exact Nat.lt_of_le_of_lt Nat.and_le_right (by omega))) ml_X5_71 rfl ⟨Nat.le_of_ble_eq_true rfl, Nat.le_of_ble_eq_true rfl⟩ ⟨Nat.le_of_ble_eq_true rfl, Nat.le_of_ble_eq_true rfl⟩ hl (Nat.le_of_ble_eq_true rfl) rfl dX5_square_21 (fun H locs B => ?_)
      refine z_ifB_eq (tgt := 31) C dX5_square_24 (by decide) (fun h24 => ?_) (fun h24 => ?_)
      · exact absurd h24 (by decide)
      · refine z_iconst C dX5_square_27 ?_
        refine lv_goto (tgt := 48) C.1 C.2.1 dX5_square_28 (by decide) ?_
        exact zo_iret C B hr hk (Nat.le_of_ble_eq_true rfl) (Nat.le_of_ble_eq_true rfl) dX5_square_48 (by exact congrArg (fun z : Int => some (Value.int (iZ z))) (by rfl)) (by rfl) (by rfl)

set_option maxHeartbeats 4000000 in
set_option maxRecDepth 100000 in
theorem c_X5_shift_bad1 (l : Launch) (D : va_G) (cJ : ClassId) (o a : Nat) (c : Nat → Nat) (th : Int) (ac : Int32) (re : Int32) (kn : Int32) (f : Int) (g : Int) (z : Int) (r9f : -2147483648 ≤ f ∧ f ≤ 2147483647) (r9g : -2147483648 ≤ g ∧ g ≤ 2147483647) (r9z : -2147483648 ≤ z ∧ z ≤ 2147483647) (hbad : ¬ ((0 ≤ f ∧ f ≤ 5) ∧ (0 ≤ z ∧ z ≤ 5))) : zA l yX5_shift 2 67 0 0 D 4 cJ o a [.int (iZ (f)), .int (iZ (g)), .int (iZ (z))] c [.int (iZ (th)), .int (ac), .int (re), .int (kn)] (fun v => v = some (.int (iZ (0)))) (c) [.int (iZ (1)), .int (ac), .int (re), .int (kn)] := by
  refine zA.intro (lo := 44) (nA := 3) (own := RX5) zi_X5_shift (by decide) rfl rfl (by decide +kernel) rfl (Nat.le_of_ble_eq_true rfl) ?_
  intro p e s m below meth c0 ls C hr hk B hl
  have hl : lv_has ls 4 [(0, .ref o), (1, .int (iZ (f))), (2, .int (iZ (g))), (3, .int (iZ (z)))] := hl
  refine lv_aload_n C.1 C.2.1 dX5_shift_0 rfl (lv_at hl 0 rfl) ?_
  refine lv_iload_n C.1 C.2.1 dX5_shift_1 rfl (lv_at hl 1 rfl) ?_
  refine z_call C (c_X5_isNo l (f) (by first | assumption | omega | rfl | exact decide_eq_false (by omega) | exact decide_eq_true (by assumption) | exact decide_eq_true (by omega) | exact one_shl33 (by omega) | exact pm_lt _ _ | exact rm_lt (by first | assumption | exact pm_lt _ _) | exact Nat.lt_of_le_of_lt (Nat.shiftRight_le _ _) (by assumption) | exact Nat.lt_of_le_of_lt Nat.and_le_right (by omega))) ml_X5_67 ⟨by decide, by decide⟩ ⟨Nat.le_of_ble_eq_true rfl, Nat.le_of_ble_eq_true rfl⟩ hl (Nat.le_of_ble_eq_true rfl) rfl dX5_shift_2 ?_
  refine z_ifB_ne (tgt := 15) C dX5_shift_5 (by decide) (fun h5 => ?_) (fun h5 => ?_)
  · have g5 := of_decide_eq_true h5
    refine z_iconst C dX5_shift_15 ?_
    refine lv_goto (tgt := 20) C.1 C.2.1 dX5_shift_16 (by decide) ?_
    refine z_iconst C dX5_shift_20 ?_
    refine zo_callD C B (r := some (.int (iZ (zB (true))))) (c_X5_start_bad l D cJ o a (c) (th) (ac) (re) (kn) (true) (1 : Int) (by first | assumption | omega | rfl | exact decide_eq_false (by omega) | exact decide_eq_true (by assumption) | exact decide_eq_true (by omega) | exact one_shl33 (by omega) | exact pm_lt _ _ | exact rm_lt (by first | assumption | exact pm_lt _ _) | exact Nat.lt_of_le_of_lt (Nat.shiftRight_le _ _) (by assumption) | exact Nat.lt_of_le_of_lt Nat.and_le_right (by omega)) (by first | assumption | omega | rfl | exact decide_eq_false (by omega) | exact decide_eq_true (by assumption) | exact decide_eq_true (by omega) | exact one_shl33 (by omega) | exact pm_lt _ _ | exact rm_lt (by first | assumption | exact pm_lt _ _) | exact Nat.lt_of_le_of_lt (Nat.shiftRight_le _ _) (by assumption) | exact Nat.lt_of_le_of_lt Nat.and_le_right (by omega))) ml_X5_71 rfl ⟨Nat.le_of_ble_eq_true rfl, Nat.le_of_ble_eq_true rfl⟩ ⟨Nat.le_of_ble_eq_true rfl, Nat.le_of_ble_eq_true rfl⟩ hl (Nat.le_of_ble_eq_true rfl) rfl dX5_shift_21 (fun H locs B => ?_)
    refine z_ifB_ne (tgt := 51) C dX5_shift_24 (by decide) (fun h24 => ?_) (fun h24 => ?_)
    · refine z_iconst C dX5_shift_51 ?_
      exact zo_iret C B hr hk (Nat.le_of_ble_eq_true rfl) (Nat.le_of_ble_eq_true rfl) dX5_shift_52 (by exact congrArg (fun z : Int => some (Value.int (iZ z))) (by rfl)) (by rfl) (by rfl)
    · exact absurd h24 (by decide)
  · have g5 := of_decide_eq_false h5
    refine lv_iload_n C.1 C.2.1 dX5_shift_8 rfl (lv_at hl 3 rfl) ?_
    refine z_call C (c_X5_isNo l (z) (by first | assumption | omega | rfl | exact decide_eq_false (by omega) | exact decide_eq_true (by assumption) | exact decide_eq_true (by omega) | exact one_shl33 (by omega) | exact pm_lt _ _ | exact rm_lt (by first | assumption | exact pm_lt _ _) | exact Nat.lt_of_le_of_lt (Nat.shiftRight_le _ _) (by assumption) | exact Nat.lt_of_le_of_lt Nat.and_le_right (by omega))) ml_X5_67 ⟨by decide, by decide⟩ ⟨Nat.le_of_ble_eq_true rfl, Nat.le_of_ble_eq_true rfl⟩ hl (Nat.le_of_ble_eq_true rfl) rfl dX5_shift_9 ?_
    refine z_ifB_eq (tgt := 19) C dX5_shift_12 (by decide) (fun h12 => ?_) (fun h12 => ?_)
    · have g12 := of_decide_eq_false h12
      refine z_iconst C dX5_shift_19 ?_
      refine z_iconst C dX5_shift_20 ?_
      exfalso; omega
    · have g12 := of_decide_eq_true h12
      refine z_iconst C dX5_shift_15 ?_
      refine lv_goto (tgt := 20) C.1 C.2.1 dX5_shift_16 (by decide) ?_
      refine z_iconst C dX5_shift_20 ?_
      refine zo_callD C B (r := some (.int (iZ (zB (true))))) (c_X5_start_bad l D cJ o a (c) (th) (ac) (re) (kn) (true) (1 : Int) (by first | assumption | omega | rfl | exact decide_eq_false (by omega) | exact decide_eq_true (by assumption) | exact decide_eq_true (by omega) | exact one_shl33 (by omega) | exact pm_lt _ _ | exact rm_lt (by first | assumption | exact pm_lt _ _) | exact Nat.lt_of_le_of_lt (Nat.shiftRight_le _ _) (by assumption) | exact Nat.lt_of_le_of_lt Nat.and_le_right (by omega)) (by first | assumption | omega | rfl | exact decide_eq_false (by omega) | exact decide_eq_true (by assumption) | exact decide_eq_true (by omega) | exact one_shl33 (by omega) | exact pm_lt _ _ | exact rm_lt (by first | assumption | exact pm_lt _ _) | exact Nat.lt_of_le_of_lt (Nat.shiftRight_le _ _) (by assumption) | exact Nat.lt_of_le_of_lt Nat.and_le_right (by omega))) ml_X5_71 rfl ⟨Nat.le_of_ble_eq_true rfl, Nat.le_of_ble_eq_true rfl⟩ ⟨Nat.le_of_ble_eq_true rfl, Nat.le_of_ble_eq_true rfl⟩ hl (Nat.le_of_ble_eq_true rfl) rfl dX5_shift_21 (fun H locs B => ?_)
      refine z_ifB_ne (tgt := 51) C dX5_shift_24 (by decide) (fun h24 => ?_) (fun h24 => ?_)
      · refine z_iconst C dX5_shift_51 ?_
        exact zo_iret C B hr hk (Nat.le_of_ble_eq_true rfl) (Nat.le_of_ble_eq_true rfl) dX5_shift_52 (by exact congrArg (fun z : Int => some (Value.int (iZ z))) (by rfl)) (by rfl) (by rfl)
      · exact absurd h24 (by decide)

set_option maxHeartbeats 4000000 in
set_option maxRecDepth 100000 in
theorem c_X5_shift_bad2 (l : Launch) (D : va_G) (cJ : ClassId) (o a : Nat) (c : Nat → Nat) (th : Int) (ac : Int32) (re : Int32) (kn : Int32) (f : Int) (g : Int) (z : Int) (r9f : -2147483648 ≤ f ∧ f ≤ 2147483647) (r9g : -2147483648 ≤ g ∧ g ≤ 2147483647) (r9z : -2147483648 ≤ z ∧ z ≤ 2147483647) (hcel : (0 ≤ f ∧ f ≤ 5) ∧ (0 ≤ z ∧ z ≤ 5)) (hbad : ¬ ((-32 ≤ g ∧ g ≤ 32))) : zA l yX5_shift 2 67 0 0 D 4 cJ o a [.int (iZ (f)), .int (iZ (g)), .int (iZ (z))] c [.int (iZ (th)), .int (ac), .int (re), .int (kn)] (fun v => v = some (.int (iZ (0)))) (c) [.int (iZ (2)), .int (ac), .int (re), .int (kn)] := by
  refine zA.intro (lo := 44) (nA := 3) (own := RX5) zi_X5_shift (by decide) rfl rfl (by decide +kernel) rfl (Nat.le_of_ble_eq_true rfl) ?_
  intro p e s m below meth c0 ls C hr hk B hl
  have hl : lv_has ls 4 [(0, .ref o), (1, .int (iZ (f))), (2, .int (iZ (g))), (3, .int (iZ (z)))] := hl
  refine lv_aload_n C.1 C.2.1 dX5_shift_0 rfl (lv_at hl 0 rfl) ?_
  refine lv_iload_n C.1 C.2.1 dX5_shift_1 rfl (lv_at hl 1 rfl) ?_
  refine z_call C (c_X5_isNo l (f) (by first | assumption | omega | rfl | exact decide_eq_false (by omega) | exact decide_eq_true (by assumption) | exact decide_eq_true (by omega) | exact one_shl33 (by omega) | exact pm_lt _ _ | exact rm_lt (by first | assumption | exact pm_lt _ _) | exact Nat.lt_of_le_of_lt (Nat.shiftRight_le _ _) (by assumption) | exact Nat.lt_of_le_of_lt Nat.and_le_right (by omega))) ml_X5_67 ⟨by decide, by decide⟩ ⟨Nat.le_of_ble_eq_true rfl, Nat.le_of_ble_eq_true rfl⟩ hl (Nat.le_of_ble_eq_true rfl) rfl dX5_shift_2 ?_
  refine z_ifB_ne (tgt := 15) C dX5_shift_5 (by decide) (fun h5 => ?_) (fun h5 => ?_)
  · exact absurd (of_decide_eq_true h5) (by omega)
  · refine lv_iload_n C.1 C.2.1 dX5_shift_8 rfl (lv_at hl 3 rfl) ?_
    refine z_call C (c_X5_isNo l (z) (by first | assumption | omega | rfl | exact decide_eq_false (by omega) | exact decide_eq_true (by assumption) | exact decide_eq_true (by omega) | exact one_shl33 (by omega) | exact pm_lt _ _ | exact rm_lt (by first | assumption | exact pm_lt _ _) | exact Nat.lt_of_le_of_lt (Nat.shiftRight_le _ _) (by assumption) | exact Nat.lt_of_le_of_lt Nat.and_le_right (by omega))) ml_X5_67 ⟨by decide, by decide⟩ ⟨Nat.le_of_ble_eq_true rfl, Nat.le_of_ble_eq_true rfl⟩ hl (Nat.le_of_ble_eq_true rfl) rfl dX5_shift_9 ?_
    refine z_ifB_eq (tgt := 19) C dX5_shift_12 (by decide) (fun h12 => ?_) (fun h12 => ?_)
    · refine z_iconst C dX5_shift_19 ?_
      refine z_iconst C dX5_shift_20 ?_
      refine zo_callD C B (r := some (.int (iZ (zB (false))))) (c_X5_start_ok l D cJ o a (c) (th) (ac) (re) (kn) (false) (1 : Int) (by first | assumption | omega | rfl | exact decide_eq_false (by omega) | exact decide_eq_true (by assumption) | exact decide_eq_true (by omega) | exact one_shl33 (by omega) | exact pm_lt _ _ | exact rm_lt (by first | assumption | exact pm_lt _ _) | exact Nat.lt_of_le_of_lt (Nat.shiftRight_le _ _) (by assumption) | exact Nat.lt_of_le_of_lt Nat.and_le_right (by omega))) ml_X5_71 rfl ⟨Nat.le_of_ble_eq_true rfl, Nat.le_of_ble_eq_true rfl⟩ ⟨Nat.le_of_ble_eq_true rfl, Nat.le_of_ble_eq_true rfl⟩ hl (Nat.le_of_ble_eq_true rfl) rfl dX5_shift_21 (fun H locs B => ?_)
      refine z_ifB_ne (tgt := 51) C dX5_shift_24 (by decide) (fun h24 => ?_) (fun h24 => ?_)
      · exact absurd h24 (by decide)
      · refine lv_aload_n C.1 C.2.1 dX5_shift_27 rfl (lv_at hl 0 rfl) ?_
        refine lv_iload_n C.1 C.2.1 dX5_shift_28 rfl (lv_at hl 2 rfl) ?_
        refine z_bipush C dX5_shift_29 (by decide) ?_
        refine z_bipush C dX5_shift_31 (by decide) ?_
        refine z_call C (c_X5_isIn l (g) (-32 : Int) (32 : Int) (by first | assumption | omega | rfl | exact decide_eq_false (by omega) | exact decide_eq_true (by assumption) | exact decide_eq_true (by omega) | exact one_shl33 (by omega) | exact pm_lt _ _ | exact rm_lt (by first | assumption | exact pm_lt _ _) | exact Nat.lt_of_le_of_lt (Nat.shiftRight_le _ _) (by assumption) | exact Nat.lt_of_le_of_lt Nat.and_le_right (by omega)) (by first | assumption | omega | rfl | exact decide_eq_false (by omega) | exact decide_eq_true (by assumption) | exact decide_eq_true (by omega) | exact one_shl33 (by omega) | exact pm_lt _ _ | exact rm_lt (by first | assumption | exact pm_lt _ _) | exact Nat.lt_of_le_of_lt (Nat.shiftRight_le _ _) (by assumption) | exact Nat.lt_of_le_of_lt Nat.and_le_right (by omega)) (by first | assumption | omega | rfl | exact decide_eq_false (by omega) | exact decide_eq_true (by assumption) | exact decide_eq_true (by omega) | exact one_shl33 (by omega) | exact pm_lt _ _ | exact rm_lt (by first | assumption | exact pm_lt _ _) | exact Nat.lt_of_le_of_lt (Nat.shiftRight_le _ _) (by assumption) | exact Nat.lt_of_le_of_lt Nat.and_le_right (by omega))) ml_X5_21 ⟨by decide, by decide⟩ ⟨Nat.le_of_ble_eq_true rfl, Nat.le_of_ble_eq_true rfl⟩ hl (Nat.le_of_ble_eq_true rfl) rfl dX5_shift_33 ?_
        refine z_ifB_ne (tgt := 43) C dX5_shift_36 (by decide) (fun h36 => ?_) (fun h36 => ?_)
        · have g36 := of_decide_eq_true h36
          refine z_iconst C dX5_shift_43 ?_
          refine z_iconst C dX5_shift_44 ?_
          exfalso; omega
        · have g36 := of_decide_eq_false h36
          refine z_iconst C dX5_shift_39 ?_
          refine lv_goto (tgt := 44) C.1 C.2.1 dX5_shift_40 (by decide) ?_
          refine z_iconst C dX5_shift_44 ?_
          refine zo_callD C B (r := some (.int (iZ (zB (true))))) (c_X5_refuse_bad l D cJ o a (c) (0) ((ac)) ((re)) ((kn)) (true) (2 : Int) (by first | assumption | omega | rfl | exact decide_eq_false (by omega) | exact decide_eq_true (by assumption) | exact decide_eq_true (by omega) | exact one_shl33 (by omega) | exact pm_lt _ _ | exact rm_lt (by first | assumption | exact pm_lt _ _) | exact Nat.lt_of_le_of_lt (Nat.shiftRight_le _ _) (by assumption) | exact Nat.lt_of_le_of_lt Nat.and_le_right (by omega)) (by first | assumption | omega | rfl | exact decide_eq_false (by omega) | exact decide_eq_true (by assumption) | exact decide_eq_true (by omega) | exact one_shl33 (by omega) | exact pm_lt _ _ | exact rm_lt (by first | assumption | exact pm_lt _ _) | exact Nat.lt_of_le_of_lt (Nat.shiftRight_le _ _) (by assumption) | exact Nat.lt_of_le_of_lt Nat.and_le_right (by omega)) (by first | assumption | omega | rfl | exact decide_eq_false (by omega) | exact decide_eq_true (by assumption) | exact decide_eq_true (by omega) | exact one_shl33 (by omega) | exact pm_lt _ _ | exact rm_lt (by first | assumption | exact pm_lt _ _) | exact Nat.lt_of_le_of_lt (Nat.shiftRight_le _ _) (by assumption) | exact Nat.lt_of_le_of_lt Nat.and_le_right (by omega))) ml_X5_17 rfl ⟨Nat.le_of_ble_eq_true rfl, Nat.le_of_ble_eq_true rfl⟩ ⟨Nat.le_of_ble_eq_true rfl, Nat.le_of_ble_eq_true rfl⟩ hl (Nat.le_of_ble_eq_true rfl) rfl dX5_shift_45 (fun H locs B => ?_)
          refine z_ifB_eq (tgt := 53) C dX5_shift_48 (by decide) (fun h48 => ?_) (fun h48 => ?_)
          · exact absurd h48 (by decide)
          · refine z_iconst C dX5_shift_51 ?_
            exact zo_iret C B hr hk (Nat.le_of_ble_eq_true rfl) (Nat.le_of_ble_eq_true rfl) dX5_shift_52 (by exact congrArg (fun z : Int => some (Value.int (iZ z))) (by rfl)) (by rfl) (by rfl)
    · exact absurd (of_decide_eq_true h12) (by omega)

set_option maxHeartbeats 4000000 in
set_option maxRecDepth 100000 in
theorem c_X5_quotient_bad1 (l : Launch) (D : va_G) (cJ : ClassId) (o a : Nat) (c : Nat → Nat) (th : Int) (ac : Int32) (re : Int32) (kn : Int32) (f : Int) (g : Int) (z : Int) (r9f : -2147483648 ≤ f ∧ f ≤ 2147483647) (r9g : -2147483648 ≤ g ∧ g ≤ 2147483647) (r9z : -2147483648 ≤ z ∧ z ≤ 2147483647) (hbad : ¬ ((0 ≤ f ∧ f ≤ 5) ∧ (0 ≤ g ∧ g ≤ 5) ∧ (0 ≤ z ∧ z ≤ 5))) : zA l yX5_quotient 2 67 0 0 D 4 cJ o a [.int (iZ (f)), .int (iZ (g)), .int (iZ (z))] c [.int (iZ (th)), .int (ac), .int (re), .int (kn)] (fun v => v = some (.int (iZ (0)))) (c) [.int (iZ (1)), .int (ac), .int (re), .int (kn)] := by
  refine zA.intro (lo := 44) (nA := 3) (own := RX5) zi_X5_quotient (by decide) rfl rfl (by decide +kernel) rfl (Nat.le_of_ble_eq_true rfl) ?_
  intro p e s m below meth c0 ls C hr hk B hl
  have hl : lv_has ls 4 [(0, .ref o), (1, .int (iZ (f))), (2, .int (iZ (g))), (3, .int (iZ (z)))] := hl
  refine lv_aload_n C.1 C.2.1 dX5_quotient_0 rfl (lv_at hl 0 rfl) ?_
  refine lv_iload_n C.1 C.2.1 dX5_quotient_1 rfl (lv_at hl 1 rfl) ?_
  refine z_call C (c_X5_isNo l (f) (by first | assumption | omega | rfl | exact decide_eq_false (by omega) | exact decide_eq_true (by assumption) | exact decide_eq_true (by omega) | exact one_shl33 (by omega) | exact pm_lt _ _ | exact rm_lt (by first | assumption | exact pm_lt _ _) | exact Nat.lt_of_le_of_lt (Nat.shiftRight_le _ _) (by assumption) | exact Nat.lt_of_le_of_lt Nat.and_le_right (by omega))) ml_X5_67 ⟨by decide, by decide⟩ ⟨Nat.le_of_ble_eq_true rfl, Nat.le_of_ble_eq_true rfl⟩ hl (Nat.le_of_ble_eq_true rfl) rfl dX5_quotient_2 ?_
  refine z_ifB_ne (tgt := 22) C dX5_quotient_5 (by decide) (fun h5 => ?_) (fun h5 => ?_)
  · have g5 := of_decide_eq_true h5
    refine z_iconst C dX5_quotient_22 ?_
    refine lv_goto (tgt := 27) C.1 C.2.1 dX5_quotient_23 (by decide) ?_
    refine z_iconst C dX5_quotient_27 ?_
    refine zo_callD C B (r := some (.int (iZ (zB (true))))) (c_X5_start_bad l D cJ o a (c) (th) (ac) (re) (kn) (true) (1 : Int) (by first | assumption | omega | rfl | exact decide_eq_false (by omega) | exact decide_eq_true (by assumption) | exact decide_eq_true (by omega) | exact one_shl33 (by omega) | exact pm_lt _ _ | exact rm_lt (by first | assumption | exact pm_lt _ _) | exact Nat.lt_of_le_of_lt (Nat.shiftRight_le _ _) (by assumption) | exact Nat.lt_of_le_of_lt Nat.and_le_right (by omega)) (by first | assumption | omega | rfl | exact decide_eq_false (by omega) | exact decide_eq_true (by assumption) | exact decide_eq_true (by omega) | exact one_shl33 (by omega) | exact pm_lt _ _ | exact rm_lt (by first | assumption | exact pm_lt _ _) | exact Nat.lt_of_le_of_lt (Nat.shiftRight_le _ _) (by assumption) | exact Nat.lt_of_le_of_lt Nat.and_le_right (by omega))) ml_X5_71 rfl ⟨Nat.le_of_ble_eq_true rfl, Nat.le_of_ble_eq_true rfl⟩ ⟨Nat.le_of_ble_eq_true rfl, Nat.le_of_ble_eq_true rfl⟩ hl (Nat.le_of_ble_eq_true rfl) rfl dX5_quotient_28 (fun H locs B => ?_)
    refine z_ifB_eq (tgt := 36) C dX5_quotient_31 (by decide) (fun h31 => ?_) (fun h31 => ?_)
    · exact absurd h31 (by decide)
    · refine z_iconst C dX5_quotient_34 ?_
      exact zo_iret C B hr hk (Nat.le_of_ble_eq_true rfl) (Nat.le_of_ble_eq_true rfl) dX5_quotient_35 (by exact congrArg (fun z : Int => some (Value.int (iZ z))) (by rfl)) (by rfl) (by rfl)
  · have g5 := of_decide_eq_false h5
    refine lv_iload_n C.1 C.2.1 dX5_quotient_8 rfl (lv_at hl 2 rfl) ?_
    refine z_call C (c_X5_isNo l (g) (by first | assumption | omega | rfl | exact decide_eq_false (by omega) | exact decide_eq_true (by assumption) | exact decide_eq_true (by omega) | exact one_shl33 (by omega) | exact pm_lt _ _ | exact rm_lt (by first | assumption | exact pm_lt _ _) | exact Nat.lt_of_le_of_lt (Nat.shiftRight_le _ _) (by assumption) | exact Nat.lt_of_le_of_lt Nat.and_le_right (by omega))) ml_X5_67 ⟨by decide, by decide⟩ ⟨Nat.le_of_ble_eq_true rfl, Nat.le_of_ble_eq_true rfl⟩ hl (Nat.le_of_ble_eq_true rfl) rfl dX5_quotient_9 ?_
    refine z_ifB_ne (tgt := 22) C dX5_quotient_12 (by decide) (fun h12 => ?_) (fun h12 => ?_)
    · have g12 := of_decide_eq_true h12
      refine z_iconst C dX5_quotient_22 ?_
      refine lv_goto (tgt := 27) C.1 C.2.1 dX5_quotient_23 (by decide) ?_
      refine z_iconst C dX5_quotient_27 ?_
      refine zo_callD C B (r := some (.int (iZ (zB (true))))) (c_X5_start_bad l D cJ o a (c) (th) (ac) (re) (kn) (true) (1 : Int) (by first | assumption | omega | rfl | exact decide_eq_false (by omega) | exact decide_eq_true (by assumption) | exact decide_eq_true (by omega) | exact one_shl33 (by omega) | exact pm_lt _ _ | exact rm_lt (by first | assumption | exact pm_lt _ _) | exact Nat.lt_of_le_of_lt (Nat.shiftRight_le _ _) (by assumption) | exact Nat.lt_of_le_of_lt Nat.and_le_right (by omega)) (by first | assumption | omega | rfl | exact decide_eq_false (by omega) | exact decide_eq_true (by assumption) | exact decide_eq_true (by omega) | exact one_shl33 (by omega) | exact pm_lt _ _ | exact rm_lt (by first | assumption | exact pm_lt _ _) | exact Nat.lt_of_le_of_lt (Nat.shiftRight_le _ _) (by assumption) | exact Nat.lt_of_le_of_lt Nat.and_le_right (by omega))) ml_X5_71 rfl ⟨Nat.le_of_ble_eq_true rfl, Nat.le_of_ble_eq_true rfl⟩ ⟨Nat.le_of_ble_eq_true rfl, Nat.le_of_ble_eq_true rfl⟩ hl (Nat.le_of_ble_eq_true rfl) rfl dX5_quotient_28 (fun H locs B => ?_)
      refine z_ifB_eq (tgt := 36) C dX5_quotient_31 (by decide) (fun h31 => ?_) (fun h31 => ?_)
      · exact absurd h31 (by decide)
      · refine z_iconst C dX5_quotient_34 ?_
        exact zo_iret C B hr hk (Nat.le_of_ble_eq_true rfl) (Nat.le_of_ble_eq_true rfl) dX5_quotient_35 (by exact congrArg (fun z : Int => some (Value.int (iZ z))) (by rfl)) (by rfl) (by rfl)
    · have g12 := of_decide_eq_false h12
      refine lv_iload_n C.1 C.2.1 dX5_quotient_15 rfl (lv_at hl 3 rfl) ?_
      refine z_call C (c_X5_isNo l (z) (by first | assumption | omega | rfl | exact decide_eq_false (by omega) | exact decide_eq_true (by assumption) | exact decide_eq_true (by omega) | exact one_shl33 (by omega) | exact pm_lt _ _ | exact rm_lt (by first | assumption | exact pm_lt _ _) | exact Nat.lt_of_le_of_lt (Nat.shiftRight_le _ _) (by assumption) | exact Nat.lt_of_le_of_lt Nat.and_le_right (by omega))) ml_X5_67 ⟨by decide, by decide⟩ ⟨Nat.le_of_ble_eq_true rfl, Nat.le_of_ble_eq_true rfl⟩ hl (Nat.le_of_ble_eq_true rfl) rfl dX5_quotient_16 ?_
      refine z_ifB_eq (tgt := 26) C dX5_quotient_19 (by decide) (fun h19 => ?_) (fun h19 => ?_)
      · have g19 := of_decide_eq_false h19
        refine z_iconst C dX5_quotient_26 ?_
        refine z_iconst C dX5_quotient_27 ?_
        exfalso; omega
      · have g19 := of_decide_eq_true h19
        refine z_iconst C dX5_quotient_22 ?_
        refine lv_goto (tgt := 27) C.1 C.2.1 dX5_quotient_23 (by decide) ?_
        refine z_iconst C dX5_quotient_27 ?_
        refine zo_callD C B (r := some (.int (iZ (zB (true))))) (c_X5_start_bad l D cJ o a (c) (th) (ac) (re) (kn) (true) (1 : Int) (by first | assumption | omega | rfl | exact decide_eq_false (by omega) | exact decide_eq_true (by assumption) | exact decide_eq_true (by omega) | exact one_shl33 (by omega) | exact pm_lt _ _ | exact rm_lt (by first | assumption | exact pm_lt _ _) | exact Nat.lt_of_le_of_lt (Nat.shiftRight_le _ _) (by assumption) | exact Nat.lt_of_le_of_lt Nat.and_le_right (by omega)) (by first | assumption | omega | rfl | exact decide_eq_false (by omega) | exact decide_eq_true (by assumption) | exact decide_eq_true (by omega) | exact one_shl33 (by omega) | exact pm_lt _ _ | exact rm_lt (by first | assumption | exact pm_lt _ _) | exact Nat.lt_of_le_of_lt (Nat.shiftRight_le _ _) (by assumption) | exact Nat.lt_of_le_of_lt Nat.and_le_right (by omega))) ml_X5_71 rfl ⟨Nat.le_of_ble_eq_true rfl, Nat.le_of_ble_eq_true rfl⟩ ⟨Nat.le_of_ble_eq_true rfl, Nat.le_of_ble_eq_true rfl⟩ hl (Nat.le_of_ble_eq_true rfl) rfl dX5_quotient_28 (fun H locs B => ?_)
        refine z_ifB_eq (tgt := 36) C dX5_quotient_31 (by decide) (fun h31 => ?_) (fun h31 => ?_)
        · exact absurd h31 (by decide)
        · refine z_iconst C dX5_quotient_34 ?_
          exact zo_iret C B hr hk (Nat.le_of_ble_eq_true rfl) (Nat.le_of_ble_eq_true rfl) dX5_quotient_35 (by exact congrArg (fun z : Int => some (Value.int (iZ z))) (by rfl)) (by rfl) (by rfl)

set_option maxHeartbeats 4000000 in
set_option maxRecDepth 100000 in
theorem c_X5_rest_bad1 (l : Launch) (D : va_G) (cJ : ClassId) (o a : Nat) (c : Nat → Nat) (th : Int) (ac : Int32) (re : Int32) (kn : Int32) (f : Int) (g : Int) (z : Int) (r9f : -2147483648 ≤ f ∧ f ≤ 2147483647) (r9g : -2147483648 ≤ g ∧ g ≤ 2147483647) (r9z : -2147483648 ≤ z ∧ z ≤ 2147483647) (hbad : ¬ ((0 ≤ f ∧ f ≤ 5) ∧ (0 ≤ g ∧ g ≤ 5) ∧ (0 ≤ z ∧ z ≤ 5))) : zA l yX5_rest 2 67 0 0 D 4 cJ o a [.int (iZ (f)), .int (iZ (g)), .int (iZ (z))] c [.int (iZ (th)), .int (ac), .int (re), .int (kn)] (fun v => v = some (.int (iZ (0)))) (c) [.int (iZ (1)), .int (ac), .int (re), .int (kn)] := by
  refine zA.intro (lo := 44) (nA := 3) (own := RX5) zi_X5_rest (by decide) rfl rfl (by decide +kernel) rfl (Nat.le_of_ble_eq_true rfl) ?_
  intro p e s m below meth c0 ls C hr hk B hl
  have hl : lv_has ls 4 [(0, .ref o), (1, .int (iZ (f))), (2, .int (iZ (g))), (3, .int (iZ (z)))] := hl
  refine lv_aload_n C.1 C.2.1 dX5_rest_0 rfl (lv_at hl 0 rfl) ?_
  refine lv_iload_n C.1 C.2.1 dX5_rest_1 rfl (lv_at hl 1 rfl) ?_
  refine z_call C (c_X5_isNo l (f) (by first | assumption | omega | rfl | exact decide_eq_false (by omega) | exact decide_eq_true (by assumption) | exact decide_eq_true (by omega) | exact one_shl33 (by omega) | exact pm_lt _ _ | exact rm_lt (by first | assumption | exact pm_lt _ _) | exact Nat.lt_of_le_of_lt (Nat.shiftRight_le _ _) (by assumption) | exact Nat.lt_of_le_of_lt Nat.and_le_right (by omega))) ml_X5_67 ⟨by decide, by decide⟩ ⟨Nat.le_of_ble_eq_true rfl, Nat.le_of_ble_eq_true rfl⟩ hl (Nat.le_of_ble_eq_true rfl) rfl dX5_rest_2 ?_
  refine z_ifB_ne (tgt := 22) C dX5_rest_5 (by decide) (fun h5 => ?_) (fun h5 => ?_)
  · have g5 := of_decide_eq_true h5
    refine z_iconst C dX5_rest_22 ?_
    refine lv_goto (tgt := 27) C.1 C.2.1 dX5_rest_23 (by decide) ?_
    refine z_iconst C dX5_rest_27 ?_
    refine zo_callD C B (r := some (.int (iZ (zB (true))))) (c_X5_start_bad l D cJ o a (c) (th) (ac) (re) (kn) (true) (1 : Int) (by first | assumption | omega | rfl | exact decide_eq_false (by omega) | exact decide_eq_true (by assumption) | exact decide_eq_true (by omega) | exact one_shl33 (by omega) | exact pm_lt _ _ | exact rm_lt (by first | assumption | exact pm_lt _ _) | exact Nat.lt_of_le_of_lt (Nat.shiftRight_le _ _) (by assumption) | exact Nat.lt_of_le_of_lt Nat.and_le_right (by omega)) (by first | assumption | omega | rfl | exact decide_eq_false (by omega) | exact decide_eq_true (by assumption) | exact decide_eq_true (by omega) | exact one_shl33 (by omega) | exact pm_lt _ _ | exact rm_lt (by first | assumption | exact pm_lt _ _) | exact Nat.lt_of_le_of_lt (Nat.shiftRight_le _ _) (by assumption) | exact Nat.lt_of_le_of_lt Nat.and_le_right (by omega))) ml_X5_71 rfl ⟨Nat.le_of_ble_eq_true rfl, Nat.le_of_ble_eq_true rfl⟩ ⟨Nat.le_of_ble_eq_true rfl, Nat.le_of_ble_eq_true rfl⟩ hl (Nat.le_of_ble_eq_true rfl) rfl dX5_rest_28 (fun H locs B => ?_)
    refine z_ifB_eq (tgt := 36) C dX5_rest_31 (by decide) (fun h31 => ?_) (fun h31 => ?_)
    · exact absurd h31 (by decide)
    · refine z_iconst C dX5_rest_34 ?_
      exact zo_iret C B hr hk (Nat.le_of_ble_eq_true rfl) (Nat.le_of_ble_eq_true rfl) dX5_rest_35 (by exact congrArg (fun z : Int => some (Value.int (iZ z))) (by rfl)) (by rfl) (by rfl)
  · have g5 := of_decide_eq_false h5
    refine lv_iload_n C.1 C.2.1 dX5_rest_8 rfl (lv_at hl 2 rfl) ?_
    refine z_call C (c_X5_isNo l (g) (by first | assumption | omega | rfl | exact decide_eq_false (by omega) | exact decide_eq_true (by assumption) | exact decide_eq_true (by omega) | exact one_shl33 (by omega) | exact pm_lt _ _ | exact rm_lt (by first | assumption | exact pm_lt _ _) | exact Nat.lt_of_le_of_lt (Nat.shiftRight_le _ _) (by assumption) | exact Nat.lt_of_le_of_lt Nat.and_le_right (by omega))) ml_X5_67 ⟨by decide, by decide⟩ ⟨Nat.le_of_ble_eq_true rfl, Nat.le_of_ble_eq_true rfl⟩ hl (Nat.le_of_ble_eq_true rfl) rfl dX5_rest_9 ?_
    refine z_ifB_ne (tgt := 22) C dX5_rest_12 (by decide) (fun h12 => ?_) (fun h12 => ?_)
    · have g12 := of_decide_eq_true h12
      refine z_iconst C dX5_rest_22 ?_
      refine lv_goto (tgt := 27) C.1 C.2.1 dX5_rest_23 (by decide) ?_
      refine z_iconst C dX5_rest_27 ?_
      refine zo_callD C B (r := some (.int (iZ (zB (true))))) (c_X5_start_bad l D cJ o a (c) (th) (ac) (re) (kn) (true) (1 : Int) (by first | assumption | omega | rfl | exact decide_eq_false (by omega) | exact decide_eq_true (by assumption) | exact decide_eq_true (by omega) | exact one_shl33 (by omega) | exact pm_lt _ _ | exact rm_lt (by first | assumption | exact pm_lt _ _) | exact Nat.lt_of_le_of_lt (Nat.shiftRight_le _ _) (by assumption) | exact Nat.lt_of_le_of_lt Nat.and_le_right (by omega)) (by first | assumption | omega | rfl | exact decide_eq_false (by omega) | exact decide_eq_true (by assumption) | exact decide_eq_true (by omega) | exact one_shl33 (by omega) | exact pm_lt _ _ | exact rm_lt (by first | assumption | exact pm_lt _ _) | exact Nat.lt_of_le_of_lt (Nat.shiftRight_le _ _) (by assumption) | exact Nat.lt_of_le_of_lt Nat.and_le_right (by omega))) ml_X5_71 rfl ⟨Nat.le_of_ble_eq_true rfl, Nat.le_of_ble_eq_true rfl⟩ ⟨Nat.le_of_ble_eq_true rfl, Nat.le_of_ble_eq_true rfl⟩ hl (Nat.le_of_ble_eq_true rfl) rfl dX5_rest_28 (fun H locs B => ?_)
      refine z_ifB_eq (tgt := 36) C dX5_rest_31 (by decide) (fun h31 => ?_) (fun h31 => ?_)
      · exact absurd h31 (by decide)
      · refine z_iconst C dX5_rest_34 ?_
        exact zo_iret C B hr hk (Nat.le_of_ble_eq_true rfl) (Nat.le_of_ble_eq_true rfl) dX5_rest_35 (by exact congrArg (fun z : Int => some (Value.int (iZ z))) (by rfl)) (by rfl) (by rfl)
    · have g12 := of_decide_eq_false h12
      refine lv_iload_n C.1 C.2.1 dX5_rest_15 rfl (lv_at hl 3 rfl) ?_
      refine z_call C (c_X5_isNo l (z) (by first | assumption | omega | rfl | exact decide_eq_false (by omega) | exact decide_eq_true (by assumption) | exact decide_eq_true (by omega) | exact one_shl33 (by omega) | exact pm_lt _ _ | exact rm_lt (by first | assumption | exact pm_lt _ _) | exact Nat.lt_of_le_of_lt (Nat.shiftRight_le _ _) (by assumption) | exact Nat.lt_of_le_of_lt Nat.and_le_right (by omega))) ml_X5_67 ⟨by decide, by decide⟩ ⟨Nat.le_of_ble_eq_true rfl, Nat.le_of_ble_eq_true rfl⟩ hl (Nat.le_of_ble_eq_true rfl) rfl dX5_rest_16 ?_
      refine z_ifB_eq (tgt := 26) C dX5_rest_19 (by decide) (fun h19 => ?_) (fun h19 => ?_)
      · have g19 := of_decide_eq_false h19
        refine z_iconst C dX5_rest_26 ?_
        refine z_iconst C dX5_rest_27 ?_
        exfalso; omega
      · have g19 := of_decide_eq_true h19
        refine z_iconst C dX5_rest_22 ?_
        refine lv_goto (tgt := 27) C.1 C.2.1 dX5_rest_23 (by decide) ?_
        refine z_iconst C dX5_rest_27 ?_
        refine zo_callD C B (r := some (.int (iZ (zB (true))))) (c_X5_start_bad l D cJ o a (c) (th) (ac) (re) (kn) (true) (1 : Int) (by first | assumption | omega | rfl | exact decide_eq_false (by omega) | exact decide_eq_true (by assumption) | exact decide_eq_true (by omega) | exact one_shl33 (by omega) | exact pm_lt _ _ | exact rm_lt (by first | assumption | exact pm_lt _ _) | exact Nat.lt_of_le_of_lt (Nat.shiftRight_le _ _) (by assumption) | exact Nat.lt_of_le_of_lt Nat.and_le_right (by omega)) (by first | assumption | omega | rfl | exact decide_eq_false (by omega) | exact decide_eq_true (by assumption) | exact decide_eq_true (by omega) | exact one_shl33 (by omega) | exact pm_lt _ _ | exact rm_lt (by first | assumption | exact pm_lt _ _) | exact Nat.lt_of_le_of_lt (Nat.shiftRight_le _ _) (by assumption) | exact Nat.lt_of_le_of_lt Nat.and_le_right (by omega))) ml_X5_71 rfl ⟨Nat.le_of_ble_eq_true rfl, Nat.le_of_ble_eq_true rfl⟩ ⟨Nat.le_of_ble_eq_true rfl, Nat.le_of_ble_eq_true rfl⟩ hl (Nat.le_of_ble_eq_true rfl) rfl dX5_rest_28 (fun H locs B => ?_)
        refine z_ifB_eq (tgt := 36) C dX5_rest_31 (by decide) (fun h31 => ?_) (fun h31 => ?_)
        · exact absurd h31 (by decide)
        · refine z_iconst C dX5_rest_34 ?_
          exact zo_iret C B hr hk (Nat.le_of_ble_eq_true rfl) (Nat.le_of_ble_eq_true rfl) dX5_rest_35 (by exact congrArg (fun z : Int => some (Value.int (iZ z))) (by rfl)) (by rfl) (by rfl)

set_option maxHeartbeats 4000000 in
set_option maxRecDepth 100000 in
theorem c_X5_gcd_bad1 (l : Launch) (D : va_G) (cJ : ClassId) (o a : Nat) (c : Nat → Nat) (th : Int) (ac : Int32) (re : Int32) (kn : Int32) (f : Int) (g : Int) (z : Int) (r9f : -2147483648 ≤ f ∧ f ≤ 2147483647) (r9g : -2147483648 ≤ g ∧ g ≤ 2147483647) (r9z : -2147483648 ≤ z ∧ z ≤ 2147483647) (hbad : ¬ ((0 ≤ f ∧ f ≤ 5) ∧ (0 ≤ g ∧ g ≤ 5) ∧ (0 ≤ z ∧ z ≤ 5))) : zA l yX5_gcd 2 67 0 0 D 4 cJ o a [.int (iZ (f)), .int (iZ (g)), .int (iZ (z))] c [.int (iZ (th)), .int (ac), .int (re), .int (kn)] (fun v => v = some (.int (iZ (0)))) (c) [.int (iZ (1)), .int (ac), .int (re), .int (kn)] := by
  refine zA.intro (lo := 44) (nA := 3) (own := RX5) zi_X5_gcd (by decide) rfl rfl (by decide +kernel) rfl (Nat.le_of_ble_eq_true rfl) ?_
  intro p e s m below meth c0 ls C hr hk B hl
  have hl : lv_has ls 4 [(0, .ref o), (1, .int (iZ (f))), (2, .int (iZ (g))), (3, .int (iZ (z)))] := hl
  refine lv_aload_n C.1 C.2.1 dX5_gcd_0 rfl (lv_at hl 0 rfl) ?_
  refine lv_iload_n C.1 C.2.1 dX5_gcd_1 rfl (lv_at hl 1 rfl) ?_
  refine z_call C (c_X5_isNo l (f) (by first | assumption | omega | rfl | exact decide_eq_false (by omega) | exact decide_eq_true (by assumption) | exact decide_eq_true (by omega) | exact one_shl33 (by omega) | exact pm_lt _ _ | exact rm_lt (by first | assumption | exact pm_lt _ _) | exact Nat.lt_of_le_of_lt (Nat.shiftRight_le _ _) (by assumption) | exact Nat.lt_of_le_of_lt Nat.and_le_right (by omega))) ml_X5_67 ⟨by decide, by decide⟩ ⟨Nat.le_of_ble_eq_true rfl, Nat.le_of_ble_eq_true rfl⟩ hl (Nat.le_of_ble_eq_true rfl) rfl dX5_gcd_2 ?_
  refine z_ifB_ne (tgt := 22) C dX5_gcd_5 (by decide) (fun h5 => ?_) (fun h5 => ?_)
  · have g5 := of_decide_eq_true h5
    refine z_iconst C dX5_gcd_22 ?_
    refine lv_goto (tgt := 27) C.1 C.2.1 dX5_gcd_23 (by decide) ?_
    refine z_iconst C dX5_gcd_27 ?_
    refine zo_callD C B (r := some (.int (iZ (zB (true))))) (c_X5_start_bad l D cJ o a (c) (th) (ac) (re) (kn) (true) (1 : Int) (by first | assumption | omega | rfl | exact decide_eq_false (by omega) | exact decide_eq_true (by assumption) | exact decide_eq_true (by omega) | exact one_shl33 (by omega) | exact pm_lt _ _ | exact rm_lt (by first | assumption | exact pm_lt _ _) | exact Nat.lt_of_le_of_lt (Nat.shiftRight_le _ _) (by assumption) | exact Nat.lt_of_le_of_lt Nat.and_le_right (by omega)) (by first | assumption | omega | rfl | exact decide_eq_false (by omega) | exact decide_eq_true (by assumption) | exact decide_eq_true (by omega) | exact one_shl33 (by omega) | exact pm_lt _ _ | exact rm_lt (by first | assumption | exact pm_lt _ _) | exact Nat.lt_of_le_of_lt (Nat.shiftRight_le _ _) (by assumption) | exact Nat.lt_of_le_of_lt Nat.and_le_right (by omega))) ml_X5_71 rfl ⟨Nat.le_of_ble_eq_true rfl, Nat.le_of_ble_eq_true rfl⟩ ⟨Nat.le_of_ble_eq_true rfl, Nat.le_of_ble_eq_true rfl⟩ hl (Nat.le_of_ble_eq_true rfl) rfl dX5_gcd_28 (fun H locs B => ?_)
    refine z_ifB_eq (tgt := 38) C dX5_gcd_31 (by decide) (fun h31 => ?_) (fun h31 => ?_)
    · exact absurd h31 (by decide)
    · refine z_iconst C dX5_gcd_34 ?_
      refine lv_goto (tgt := 59) C.1 C.2.1 dX5_gcd_35 (by decide) ?_
      exact zo_iret C B hr hk (Nat.le_of_ble_eq_true rfl) (Nat.le_of_ble_eq_true rfl) dX5_gcd_59 (by exact congrArg (fun z : Int => some (Value.int (iZ z))) (by rfl)) (by rfl) (by rfl)
  · have g5 := of_decide_eq_false h5
    refine lv_iload_n C.1 C.2.1 dX5_gcd_8 rfl (lv_at hl 2 rfl) ?_
    refine z_call C (c_X5_isNo l (g) (by first | assumption | omega | rfl | exact decide_eq_false (by omega) | exact decide_eq_true (by assumption) | exact decide_eq_true (by omega) | exact one_shl33 (by omega) | exact pm_lt _ _ | exact rm_lt (by first | assumption | exact pm_lt _ _) | exact Nat.lt_of_le_of_lt (Nat.shiftRight_le _ _) (by assumption) | exact Nat.lt_of_le_of_lt Nat.and_le_right (by omega))) ml_X5_67 ⟨by decide, by decide⟩ ⟨Nat.le_of_ble_eq_true rfl, Nat.le_of_ble_eq_true rfl⟩ hl (Nat.le_of_ble_eq_true rfl) rfl dX5_gcd_9 ?_
    refine z_ifB_ne (tgt := 22) C dX5_gcd_12 (by decide) (fun h12 => ?_) (fun h12 => ?_)
    · have g12 := of_decide_eq_true h12
      refine z_iconst C dX5_gcd_22 ?_
      refine lv_goto (tgt := 27) C.1 C.2.1 dX5_gcd_23 (by decide) ?_
      refine z_iconst C dX5_gcd_27 ?_
      refine zo_callD C B (r := some (.int (iZ (zB (true))))) (c_X5_start_bad l D cJ o a (c) (th) (ac) (re) (kn) (true) (1 : Int) (by first | assumption | omega | rfl | exact decide_eq_false (by omega) | exact decide_eq_true (by assumption) | exact decide_eq_true (by omega) | exact one_shl33 (by omega) | exact pm_lt _ _ | exact rm_lt (by first | assumption | exact pm_lt _ _) | exact Nat.lt_of_le_of_lt (Nat.shiftRight_le _ _) (by assumption) | exact Nat.lt_of_le_of_lt Nat.and_le_right (by omega)) (by first | assumption | omega | rfl | exact decide_eq_false (by omega) | exact decide_eq_true (by assumption) | exact decide_eq_true (by omega) | exact one_shl33 (by omega) | exact pm_lt _ _ | exact rm_lt (by first | assumption | exact pm_lt _ _) | exact Nat.lt_of_le_of_lt (Nat.shiftRight_le _ _) (by assumption) | exact Nat.lt_of_le_of_lt Nat.and_le_right (by omega))) ml_X5_71 rfl ⟨Nat.le_of_ble_eq_true rfl, Nat.le_of_ble_eq_true rfl⟩ ⟨Nat.le_of_ble_eq_true rfl, Nat.le_of_ble_eq_true rfl⟩ hl (Nat.le_of_ble_eq_true rfl) rfl dX5_gcd_28 (fun H locs B => ?_)
      refine z_ifB_eq (tgt := 38) C dX5_gcd_31 (by decide) (fun h31 => ?_) (fun h31 => ?_)
      · exact absurd h31 (by decide)
      · refine z_iconst C dX5_gcd_34 ?_
        refine lv_goto (tgt := 59) C.1 C.2.1 dX5_gcd_35 (by decide) ?_
        exact zo_iret C B hr hk (Nat.le_of_ble_eq_true rfl) (Nat.le_of_ble_eq_true rfl) dX5_gcd_59 (by exact congrArg (fun z : Int => some (Value.int (iZ z))) (by rfl)) (by rfl) (by rfl)
    · have g12 := of_decide_eq_false h12
      refine lv_iload_n C.1 C.2.1 dX5_gcd_15 rfl (lv_at hl 3 rfl) ?_
      refine z_call C (c_X5_isNo l (z) (by first | assumption | omega | rfl | exact decide_eq_false (by omega) | exact decide_eq_true (by assumption) | exact decide_eq_true (by omega) | exact one_shl33 (by omega) | exact pm_lt _ _ | exact rm_lt (by first | assumption | exact pm_lt _ _) | exact Nat.lt_of_le_of_lt (Nat.shiftRight_le _ _) (by assumption) | exact Nat.lt_of_le_of_lt Nat.and_le_right (by omega))) ml_X5_67 ⟨by decide, by decide⟩ ⟨Nat.le_of_ble_eq_true rfl, Nat.le_of_ble_eq_true rfl⟩ hl (Nat.le_of_ble_eq_true rfl) rfl dX5_gcd_16 ?_
      refine z_ifB_eq (tgt := 26) C dX5_gcd_19 (by decide) (fun h19 => ?_) (fun h19 => ?_)
      · have g19 := of_decide_eq_false h19
        refine z_iconst C dX5_gcd_26 ?_
        refine z_iconst C dX5_gcd_27 ?_
        exfalso; omega
      · have g19 := of_decide_eq_true h19
        refine z_iconst C dX5_gcd_22 ?_
        refine lv_goto (tgt := 27) C.1 C.2.1 dX5_gcd_23 (by decide) ?_
        refine z_iconst C dX5_gcd_27 ?_
        refine zo_callD C B (r := some (.int (iZ (zB (true))))) (c_X5_start_bad l D cJ o a (c) (th) (ac) (re) (kn) (true) (1 : Int) (by first | assumption | omega | rfl | exact decide_eq_false (by omega) | exact decide_eq_true (by assumption) | exact decide_eq_true (by omega) | exact one_shl33 (by omega) | exact pm_lt _ _ | exact rm_lt (by first | assumption | exact pm_lt _ _) | exact Nat.lt_of_le_of_lt (Nat.shiftRight_le _ _) (by assumption) | exact Nat.lt_of_le_of_lt Nat.and_le_right (by omega)) (by first | assumption | omega | rfl | exact decide_eq_false (by omega) | exact decide_eq_true (by assumption) | exact decide_eq_true (by omega) | exact one_shl33 (by omega) | exact pm_lt _ _ | exact rm_lt (by first | assumption | exact pm_lt _ _) | exact Nat.lt_of_le_of_lt (Nat.shiftRight_le _ _) (by assumption) | exact Nat.lt_of_le_of_lt Nat.and_le_right (by omega))) ml_X5_71 rfl ⟨Nat.le_of_ble_eq_true rfl, Nat.le_of_ble_eq_true rfl⟩ ⟨Nat.le_of_ble_eq_true rfl, Nat.le_of_ble_eq_true rfl⟩ hl (Nat.le_of_ble_eq_true rfl) rfl dX5_gcd_28 (fun H locs B => ?_)
        refine z_ifB_eq (tgt := 38) C dX5_gcd_31 (by decide) (fun h31 => ?_) (fun h31 => ?_)
        · exact absurd h31 (by decide)
        · refine z_iconst C dX5_gcd_34 ?_
          refine lv_goto (tgt := 59) C.1 C.2.1 dX5_gcd_35 (by decide) ?_
          exact zo_iret C B hr hk (Nat.le_of_ble_eq_true rfl) (Nat.le_of_ble_eq_true rfl) dX5_gcd_59 (by exact congrArg (fun z : Int => some (Value.int (iZ z))) (by rfl)) (by rfl) (by rfl)

set_option maxHeartbeats 4000000 in
set_option maxRecDepth 100000 in
theorem c_X5_lcm_bad1 (l : Launch) (D : va_G) (cJ : ClassId) (o a : Nat) (c : Nat → Nat) (th : Int) (ac : Int32) (re : Int32) (kn : Int32) (f : Int) (g : Int) (z : Int) (r9f : -2147483648 ≤ f ∧ f ≤ 2147483647) (r9g : -2147483648 ≤ g ∧ g ≤ 2147483647) (r9z : -2147483648 ≤ z ∧ z ≤ 2147483647) (hbad : ¬ ((0 ≤ f ∧ f ≤ 5) ∧ (0 ≤ g ∧ g ≤ 5) ∧ (0 ≤ z ∧ z ≤ 5))) : zA l yX5_lcm 2 67 0 0 D 4 cJ o a [.int (iZ (f)), .int (iZ (g)), .int (iZ (z))] c [.int (iZ (th)), .int (ac), .int (re), .int (kn)] (fun v => v = some (.int (iZ (0)))) (c) [.int (iZ (1)), .int (ac), .int (re), .int (kn)] := by
  refine zA.intro (lo := 44) (nA := 3) (own := RX5) zi_X5_lcm (by decide) rfl rfl (by decide +kernel) rfl (Nat.le_of_ble_eq_true rfl) ?_
  intro p e s m below meth c0 ls C hr hk B hl
  have hl : lv_has ls 4 [(0, .ref o), (1, .int (iZ (f))), (2, .int (iZ (g))), (3, .int (iZ (z)))] := hl
  refine lv_aload_n C.1 C.2.1 dX5_lcm_0 rfl (lv_at hl 0 rfl) ?_
  refine lv_iload_n C.1 C.2.1 dX5_lcm_1 rfl (lv_at hl 1 rfl) ?_
  refine z_call C (c_X5_isNo l (f) (by first | assumption | omega | rfl | exact decide_eq_false (by omega) | exact decide_eq_true (by assumption) | exact decide_eq_true (by omega) | exact one_shl33 (by omega) | exact pm_lt _ _ | exact rm_lt (by first | assumption | exact pm_lt _ _) | exact Nat.lt_of_le_of_lt (Nat.shiftRight_le _ _) (by assumption) | exact Nat.lt_of_le_of_lt Nat.and_le_right (by omega))) ml_X5_67 ⟨by decide, by decide⟩ ⟨Nat.le_of_ble_eq_true rfl, Nat.le_of_ble_eq_true rfl⟩ hl (Nat.le_of_ble_eq_true rfl) rfl dX5_lcm_2 ?_
  refine z_ifB_ne (tgt := 22) C dX5_lcm_5 (by decide) (fun h5 => ?_) (fun h5 => ?_)
  · have g5 := of_decide_eq_true h5
    refine z_iconst C dX5_lcm_22 ?_
    refine lv_goto (tgt := 27) C.1 C.2.1 dX5_lcm_23 (by decide) ?_
    refine z_iconst C dX5_lcm_27 ?_
    refine zo_callD C B (r := some (.int (iZ (zB (true))))) (c_X5_start_bad l D cJ o a (c) (th) (ac) (re) (kn) (true) (1 : Int) (by first | assumption | omega | rfl | exact decide_eq_false (by omega) | exact decide_eq_true (by assumption) | exact decide_eq_true (by omega) | exact one_shl33 (by omega) | exact pm_lt _ _ | exact rm_lt (by first | assumption | exact pm_lt _ _) | exact Nat.lt_of_le_of_lt (Nat.shiftRight_le _ _) (by assumption) | exact Nat.lt_of_le_of_lt Nat.and_le_right (by omega)) (by first | assumption | omega | rfl | exact decide_eq_false (by omega) | exact decide_eq_true (by assumption) | exact decide_eq_true (by omega) | exact one_shl33 (by omega) | exact pm_lt _ _ | exact rm_lt (by first | assumption | exact pm_lt _ _) | exact Nat.lt_of_le_of_lt (Nat.shiftRight_le _ _) (by assumption) | exact Nat.lt_of_le_of_lt Nat.and_le_right (by omega))) ml_X5_71 rfl ⟨Nat.le_of_ble_eq_true rfl, Nat.le_of_ble_eq_true rfl⟩ ⟨Nat.le_of_ble_eq_true rfl, Nat.le_of_ble_eq_true rfl⟩ hl (Nat.le_of_ble_eq_true rfl) rfl dX5_lcm_28 (fun H locs B => ?_)
    refine z_ifB_eq (tgt := 36) C dX5_lcm_31 (by decide) (fun h31 => ?_) (fun h31 => ?_)
    · exact absurd h31 (by decide)
    · refine z_iconst C dX5_lcm_34 ?_
      exact zo_iret C B hr hk (Nat.le_of_ble_eq_true rfl) (Nat.le_of_ble_eq_true rfl) dX5_lcm_35 (by exact congrArg (fun z : Int => some (Value.int (iZ z))) (by rfl)) (by rfl) (by rfl)
  · have g5 := of_decide_eq_false h5
    refine lv_iload_n C.1 C.2.1 dX5_lcm_8 rfl (lv_at hl 2 rfl) ?_
    refine z_call C (c_X5_isNo l (g) (by first | assumption | omega | rfl | exact decide_eq_false (by omega) | exact decide_eq_true (by assumption) | exact decide_eq_true (by omega) | exact one_shl33 (by omega) | exact pm_lt _ _ | exact rm_lt (by first | assumption | exact pm_lt _ _) | exact Nat.lt_of_le_of_lt (Nat.shiftRight_le _ _) (by assumption) | exact Nat.lt_of_le_of_lt Nat.and_le_right (by omega))) ml_X5_67 ⟨by decide, by decide⟩ ⟨Nat.le_of_ble_eq_true rfl, Nat.le_of_ble_eq_true rfl⟩ hl (Nat.le_of_ble_eq_true rfl) rfl dX5_lcm_9 ?_
    refine z_ifB_ne (tgt := 22) C dX5_lcm_12 (by decide) (fun h12 => ?_) (fun h12 => ?_)
    · have g12 := of_decide_eq_true h12
      refine z_iconst C dX5_lcm_22 ?_
      refine lv_goto (tgt := 27) C.1 C.2.1 dX5_lcm_23 (by decide) ?_
      refine z_iconst C dX5_lcm_27 ?_
      refine zo_callD C B (r := some (.int (iZ (zB (true))))) (c_X5_start_bad l D cJ o a (c) (th) (ac) (re) (kn) (true) (1 : Int) (by first | assumption | omega | rfl | exact decide_eq_false (by omega) | exact decide_eq_true (by assumption) | exact decide_eq_true (by omega) | exact one_shl33 (by omega) | exact pm_lt _ _ | exact rm_lt (by first | assumption | exact pm_lt _ _) | exact Nat.lt_of_le_of_lt (Nat.shiftRight_le _ _) (by assumption) | exact Nat.lt_of_le_of_lt Nat.and_le_right (by omega)) (by first | assumption | omega | rfl | exact decide_eq_false (by omega) | exact decide_eq_true (by assumption) | exact decide_eq_true (by omega) | exact one_shl33 (by omega) | exact pm_lt _ _ | exact rm_lt (by first | assumption | exact pm_lt _ _) | exact Nat.lt_of_le_of_lt (Nat.shiftRight_le _ _) (by assumption) | exact Nat.lt_of_le_of_lt Nat.and_le_right (by omega))) ml_X5_71 rfl ⟨Nat.le_of_ble_eq_true rfl, Nat.le_of_ble_eq_true rfl⟩ ⟨Nat.le_of_ble_eq_true rfl, Nat.le_of_ble_eq_true rfl⟩ hl (Nat.le_of_ble_eq_true rfl) rfl dX5_lcm_28 (fun H locs B => ?_)
      refine z_ifB_eq (tgt := 36) C dX5_lcm_31 (by decide) (fun h31 => ?_) (fun h31 => ?_)
      · exact absurd h31 (by decide)
      · refine z_iconst C dX5_lcm_34 ?_
        exact zo_iret C B hr hk (Nat.le_of_ble_eq_true rfl) (Nat.le_of_ble_eq_true rfl) dX5_lcm_35 (by exact congrArg (fun z : Int => some (Value.int (iZ z))) (by rfl)) (by rfl) (by rfl)
    · have g12 := of_decide_eq_false h12
      refine lv_iload_n C.1 C.2.1 dX5_lcm_15 rfl (lv_at hl 3 rfl) ?_
      refine z_call C (c_X5_isNo l (z) (by first | assumption | omega | rfl | exact decide_eq_false (by omega) | exact decide_eq_true (by assumption) | exact decide_eq_true (by omega) | exact one_shl33 (by omega) | exact pm_lt _ _ | exact rm_lt (by first | assumption | exact pm_lt _ _) | exact Nat.lt_of_le_of_lt (Nat.shiftRight_le _ _) (by assumption) | exact Nat.lt_of_le_of_lt Nat.and_le_right (by omega))) ml_X5_67 ⟨by decide, by decide⟩ ⟨Nat.le_of_ble_eq_true rfl, Nat.le_of_ble_eq_true rfl⟩ hl (Nat.le_of_ble_eq_true rfl) rfl dX5_lcm_16 ?_
      refine z_ifB_eq (tgt := 26) C dX5_lcm_19 (by decide) (fun h19 => ?_) (fun h19 => ?_)
      · have g19 := of_decide_eq_false h19
        refine z_iconst C dX5_lcm_26 ?_
        refine z_iconst C dX5_lcm_27 ?_
        exfalso; omega
      · have g19 := of_decide_eq_true h19
        refine z_iconst C dX5_lcm_22 ?_
        refine lv_goto (tgt := 27) C.1 C.2.1 dX5_lcm_23 (by decide) ?_
        refine z_iconst C dX5_lcm_27 ?_
        refine zo_callD C B (r := some (.int (iZ (zB (true))))) (c_X5_start_bad l D cJ o a (c) (th) (ac) (re) (kn) (true) (1 : Int) (by first | assumption | omega | rfl | exact decide_eq_false (by omega) | exact decide_eq_true (by assumption) | exact decide_eq_true (by omega) | exact one_shl33 (by omega) | exact pm_lt _ _ | exact rm_lt (by first | assumption | exact pm_lt _ _) | exact Nat.lt_of_le_of_lt (Nat.shiftRight_le _ _) (by assumption) | exact Nat.lt_of_le_of_lt Nat.and_le_right (by omega)) (by first | assumption | omega | rfl | exact decide_eq_false (by omega) | exact decide_eq_true (by assumption) | exact decide_eq_true (by omega) | exact one_shl33 (by omega) | exact pm_lt _ _ | exact rm_lt (by first | assumption | exact pm_lt _ _) | exact Nat.lt_of_le_of_lt (Nat.shiftRight_le _ _) (by assumption) | exact Nat.lt_of_le_of_lt Nat.and_le_right (by omega))) ml_X5_71 rfl ⟨Nat.le_of_ble_eq_true rfl, Nat.le_of_ble_eq_true rfl⟩ ⟨Nat.le_of_ble_eq_true rfl, Nat.le_of_ble_eq_true rfl⟩ hl (Nat.le_of_ble_eq_true rfl) rfl dX5_lcm_28 (fun H locs B => ?_)
        refine z_ifB_eq (tgt := 36) C dX5_lcm_31 (by decide) (fun h31 => ?_) (fun h31 => ?_)
        · exact absurd h31 (by decide)
        · refine z_iconst C dX5_lcm_34 ?_
          exact zo_iret C B hr hk (Nat.le_of_ble_eq_true rfl) (Nat.le_of_ble_eq_true rfl) dX5_lcm_35 (by exact congrArg (fun z : Int => some (Value.int (iZ z))) (by rfl)) (by rfl) (by rfl)

set_option maxHeartbeats 4000000 in
set_option maxRecDepth 100000 in
theorem c_X5_bezout_bad1 (l : Launch) (D : va_G) (cJ : ClassId) (o a : Nat) (c : Nat → Nat) (th : Int) (ac : Int32) (re : Int32) (kn : Int32) (f : Int) (g : Int) (b : Bool) (z : Int) (r9f : -2147483648 ≤ f ∧ f ≤ 2147483647) (r9g : -2147483648 ≤ g ∧ g ≤ 2147483647) (r9z : -2147483648 ≤ z ∧ z ≤ 2147483647) (hbad : ¬ ((0 ≤ f ∧ f ≤ 5) ∧ (0 ≤ g ∧ g ≤ 5) ∧ (0 ≤ z ∧ z ≤ 5))) : zA l yX5_bezout 2 68 0 0 D 4 cJ o a [.int (iZ (f)), .int (iZ (g)), .int (iZ (zB (b))), .int (iZ (z))] c [.int (iZ (th)), .int (ac), .int (re), .int (kn)] (fun v => v = some (.int (iZ (0)))) (c) [.int (iZ (1)), .int (ac), .int (re), .int (kn)] := by
  refine zA.intro (lo := 44) (nA := 4) (own := RX5) zi_X5_bezout (by decide) rfl rfl (by decide +kernel) rfl (Nat.le_of_ble_eq_true rfl) ?_
  intro p e s m below meth c0 ls C hr hk B hl
  have hl : lv_has ls 5 [(0, .ref o), (1, .int (iZ (f))), (2, .int (iZ (g))), (3, .int (iZ (zB (b)))), (4, .int (iZ (z)))] := hl
  refine lv_aload_n C.1 C.2.1 dX5_bezout_0 rfl (lv_at hl 0 rfl) ?_
  refine lv_iload_n C.1 C.2.1 dX5_bezout_1 rfl (lv_at hl 1 rfl) ?_
  refine z_call C (c_X5_isNo l (f) (by first | assumption | omega | rfl | exact decide_eq_false (by omega) | exact decide_eq_true (by assumption) | exact decide_eq_true (by omega) | exact one_shl33 (by omega) | exact pm_lt _ _ | exact rm_lt (by first | assumption | exact pm_lt _ _) | exact Nat.lt_of_le_of_lt (Nat.shiftRight_le _ _) (by assumption) | exact Nat.lt_of_le_of_lt Nat.and_le_right (by omega))) ml_X5_67 ⟨by decide, by decide⟩ ⟨Nat.le_of_ble_eq_true rfl, Nat.le_of_ble_eq_true rfl⟩ hl (Nat.le_of_ble_eq_true rfl) rfl dX5_bezout_2 ?_
  refine z_ifB_ne (tgt := 23) C dX5_bezout_5 (by decide) (fun h5 => ?_) (fun h5 => ?_)
  · have g5 := of_decide_eq_true h5
    refine z_iconst C dX5_bezout_23 ?_
    refine lv_goto (tgt := 28) C.1 C.2.1 dX5_bezout_24 (by decide) ?_
    refine z_iconst C dX5_bezout_28 ?_
    refine zo_callD C B (r := some (.int (iZ (zB (true))))) (c_X5_start_bad l D cJ o a (c) (th) (ac) (re) (kn) (true) (1 : Int) (by first | assumption | omega | rfl | exact decide_eq_false (by omega) | exact decide_eq_true (by assumption) | exact decide_eq_true (by omega) | exact one_shl33 (by omega) | exact pm_lt _ _ | exact rm_lt (by first | assumption | exact pm_lt _ _) | exact Nat.lt_of_le_of_lt (Nat.shiftRight_le _ _) (by assumption) | exact Nat.lt_of_le_of_lt Nat.and_le_right (by omega)) (by first | assumption | omega | rfl | exact decide_eq_false (by omega) | exact decide_eq_true (by assumption) | exact decide_eq_true (by omega) | exact one_shl33 (by omega) | exact pm_lt _ _ | exact rm_lt (by first | assumption | exact pm_lt _ _) | exact Nat.lt_of_le_of_lt (Nat.shiftRight_le _ _) (by assumption) | exact Nat.lt_of_le_of_lt Nat.and_le_right (by omega))) ml_X5_71 rfl ⟨Nat.le_of_ble_eq_true rfl, Nat.le_of_ble_eq_true rfl⟩ ⟨Nat.le_of_ble_eq_true rfl, Nat.le_of_ble_eq_true rfl⟩ hl (Nat.le_of_ble_eq_true rfl) rfl dX5_bezout_29 (fun H locs B => ?_)
    refine z_ifB_eq (tgt := 39) C dX5_bezout_32 (by decide) (fun h32 => ?_) (fun h32 => ?_)
    · exact absurd h32 (by decide)
    · refine z_iconst C dX5_bezout_35 ?_
      refine lv_goto (tgt := 69) C.1 C.2.1 dX5_bezout_36 (by decide) ?_
      exact zo_iret C B hr hk (Nat.le_of_ble_eq_true rfl) (Nat.le_of_ble_eq_true rfl) dX5_bezout_69 (by exact congrArg (fun z : Int => some (Value.int (iZ z))) (by rfl)) (by rfl) (by rfl)
  · have g5 := of_decide_eq_false h5
    refine lv_iload_n C.1 C.2.1 dX5_bezout_8 rfl (lv_at hl 2 rfl) ?_
    refine z_call C (c_X5_isNo l (g) (by first | assumption | omega | rfl | exact decide_eq_false (by omega) | exact decide_eq_true (by assumption) | exact decide_eq_true (by omega) | exact one_shl33 (by omega) | exact pm_lt _ _ | exact rm_lt (by first | assumption | exact pm_lt _ _) | exact Nat.lt_of_le_of_lt (Nat.shiftRight_le _ _) (by assumption) | exact Nat.lt_of_le_of_lt Nat.and_le_right (by omega))) ml_X5_67 ⟨by decide, by decide⟩ ⟨Nat.le_of_ble_eq_true rfl, Nat.le_of_ble_eq_true rfl⟩ hl (Nat.le_of_ble_eq_true rfl) rfl dX5_bezout_9 ?_
    refine z_ifB_ne (tgt := 23) C dX5_bezout_12 (by decide) (fun h12 => ?_) (fun h12 => ?_)
    · have g12 := of_decide_eq_true h12
      refine z_iconst C dX5_bezout_23 ?_
      refine lv_goto (tgt := 28) C.1 C.2.1 dX5_bezout_24 (by decide) ?_
      refine z_iconst C dX5_bezout_28 ?_
      refine zo_callD C B (r := some (.int (iZ (zB (true))))) (c_X5_start_bad l D cJ o a (c) (th) (ac) (re) (kn) (true) (1 : Int) (by first | assumption | omega | rfl | exact decide_eq_false (by omega) | exact decide_eq_true (by assumption) | exact decide_eq_true (by omega) | exact one_shl33 (by omega) | exact pm_lt _ _ | exact rm_lt (by first | assumption | exact pm_lt _ _) | exact Nat.lt_of_le_of_lt (Nat.shiftRight_le _ _) (by assumption) | exact Nat.lt_of_le_of_lt Nat.and_le_right (by omega)) (by first | assumption | omega | rfl | exact decide_eq_false (by omega) | exact decide_eq_true (by assumption) | exact decide_eq_true (by omega) | exact one_shl33 (by omega) | exact pm_lt _ _ | exact rm_lt (by first | assumption | exact pm_lt _ _) | exact Nat.lt_of_le_of_lt (Nat.shiftRight_le _ _) (by assumption) | exact Nat.lt_of_le_of_lt Nat.and_le_right (by omega))) ml_X5_71 rfl ⟨Nat.le_of_ble_eq_true rfl, Nat.le_of_ble_eq_true rfl⟩ ⟨Nat.le_of_ble_eq_true rfl, Nat.le_of_ble_eq_true rfl⟩ hl (Nat.le_of_ble_eq_true rfl) rfl dX5_bezout_29 (fun H locs B => ?_)
      refine z_ifB_eq (tgt := 39) C dX5_bezout_32 (by decide) (fun h32 => ?_) (fun h32 => ?_)
      · exact absurd h32 (by decide)
      · refine z_iconst C dX5_bezout_35 ?_
        refine lv_goto (tgt := 69) C.1 C.2.1 dX5_bezout_36 (by decide) ?_
        exact zo_iret C B hr hk (Nat.le_of_ble_eq_true rfl) (Nat.le_of_ble_eq_true rfl) dX5_bezout_69 (by exact congrArg (fun z : Int => some (Value.int (iZ z))) (by rfl)) (by rfl) (by rfl)
    · have g12 := of_decide_eq_false h12
      refine lv_iload C.1 C.2.1 dX5_bezout_15 (lv_at hl 4 rfl) ?_
      refine z_call C (c_X5_isNo l (z) (by first | assumption | omega | rfl | exact decide_eq_false (by omega) | exact decide_eq_true (by assumption) | exact decide_eq_true (by omega) | exact one_shl33 (by omega) | exact pm_lt _ _ | exact rm_lt (by first | assumption | exact pm_lt _ _) | exact Nat.lt_of_le_of_lt (Nat.shiftRight_le _ _) (by assumption) | exact Nat.lt_of_le_of_lt Nat.and_le_right (by omega))) ml_X5_67 ⟨by decide, by decide⟩ ⟨Nat.le_of_ble_eq_true rfl, Nat.le_of_ble_eq_true rfl⟩ hl (Nat.le_of_ble_eq_true rfl) rfl dX5_bezout_17 ?_
      refine z_ifB_eq (tgt := 27) C dX5_bezout_20 (by decide) (fun h20 => ?_) (fun h20 => ?_)
      · have g20 := of_decide_eq_false h20
        refine z_iconst C dX5_bezout_27 ?_
        refine z_iconst C dX5_bezout_28 ?_
        exfalso; omega
      · have g20 := of_decide_eq_true h20
        refine z_iconst C dX5_bezout_23 ?_
        refine lv_goto (tgt := 28) C.1 C.2.1 dX5_bezout_24 (by decide) ?_
        refine z_iconst C dX5_bezout_28 ?_
        refine zo_callD C B (r := some (.int (iZ (zB (true))))) (c_X5_start_bad l D cJ o a (c) (th) (ac) (re) (kn) (true) (1 : Int) (by first | assumption | omega | rfl | exact decide_eq_false (by omega) | exact decide_eq_true (by assumption) | exact decide_eq_true (by omega) | exact one_shl33 (by omega) | exact pm_lt _ _ | exact rm_lt (by first | assumption | exact pm_lt _ _) | exact Nat.lt_of_le_of_lt (Nat.shiftRight_le _ _) (by assumption) | exact Nat.lt_of_le_of_lt Nat.and_le_right (by omega)) (by first | assumption | omega | rfl | exact decide_eq_false (by omega) | exact decide_eq_true (by assumption) | exact decide_eq_true (by omega) | exact one_shl33 (by omega) | exact pm_lt _ _ | exact rm_lt (by first | assumption | exact pm_lt _ _) | exact Nat.lt_of_le_of_lt (Nat.shiftRight_le _ _) (by assumption) | exact Nat.lt_of_le_of_lt Nat.and_le_right (by omega))) ml_X5_71 rfl ⟨Nat.le_of_ble_eq_true rfl, Nat.le_of_ble_eq_true rfl⟩ ⟨Nat.le_of_ble_eq_true rfl, Nat.le_of_ble_eq_true rfl⟩ hl (Nat.le_of_ble_eq_true rfl) rfl dX5_bezout_29 (fun H locs B => ?_)
        refine z_ifB_eq (tgt := 39) C dX5_bezout_32 (by decide) (fun h32 => ?_) (fun h32 => ?_)
        · exact absurd h32 (by decide)
        · refine z_iconst C dX5_bezout_35 ?_
          refine lv_goto (tgt := 69) C.1 C.2.1 dX5_bezout_36 (by decide) ?_
          exact zo_iret C B hr hk (Nat.le_of_ble_eq_true rfl) (Nat.le_of_ble_eq_true rfl) dX5_bezout_69 (by exact congrArg (fun z : Int => some (Value.int (iZ z))) (by rfl)) (by rfl) (by rfl)

set_option maxHeartbeats 4000000 in
set_option maxRecDepth 100000 in
theorem c_X5_derive_bad1 (l : Launch) (D : va_G) (cJ : ClassId) (o a : Nat) (c : Nat → Nat) (th : Int) (ac : Int32) (re : Int32) (kn : Int32) (f : Int) (z : Int) (r9f : -2147483648 ≤ f ∧ f ≤ 2147483647) (r9z : -2147483648 ≤ z ∧ z ≤ 2147483647) (hbad : ¬ ((0 ≤ f ∧ f ≤ 5) ∧ (0 ≤ z ∧ z ≤ 5))) : zA l yX5_derive 2 66 0 0 D 4 cJ o a [.int (iZ (f)), .int (iZ (z))] c [.int (iZ (th)), .int (ac), .int (re), .int (kn)] (fun v => v = some (.int (iZ (0)))) (c) [.int (iZ (1)), .int (ac), .int (re), .int (kn)] := by
  refine zA.intro (lo := 44) (nA := 2) (own := RX5) zi_X5_derive (by decide) rfl rfl (by decide +kernel) rfl (Nat.le_of_ble_eq_true rfl) ?_
  intro p e s m below meth c0 ls C hr hk B hl
  have hl : lv_has ls 3 [(0, .ref o), (1, .int (iZ (f))), (2, .int (iZ (z)))] := hl
  refine lv_aload_n C.1 C.2.1 dX5_derive_0 rfl (lv_at hl 0 rfl) ?_
  refine lv_iload_n C.1 C.2.1 dX5_derive_1 rfl (lv_at hl 1 rfl) ?_
  refine z_call C (c_X5_isNo l (f) (by first | assumption | omega | rfl | exact decide_eq_false (by omega) | exact decide_eq_true (by assumption) | exact decide_eq_true (by omega) | exact one_shl33 (by omega) | exact pm_lt _ _ | exact rm_lt (by first | assumption | exact pm_lt _ _) | exact Nat.lt_of_le_of_lt (Nat.shiftRight_le _ _) (by assumption) | exact Nat.lt_of_le_of_lt Nat.and_le_right (by omega))) ml_X5_67 ⟨by decide, by decide⟩ ⟨Nat.le_of_ble_eq_true rfl, Nat.le_of_ble_eq_true rfl⟩ hl (Nat.le_of_ble_eq_true rfl) rfl dX5_derive_2 ?_
  refine z_ifB_ne (tgt := 15) C dX5_derive_5 (by decide) (fun h5 => ?_) (fun h5 => ?_)
  · have g5 := of_decide_eq_true h5
    refine z_iconst C dX5_derive_15 ?_
    refine lv_goto (tgt := 20) C.1 C.2.1 dX5_derive_16 (by decide) ?_
    refine z_iconst C dX5_derive_20 ?_
    refine zo_callD C B (r := some (.int (iZ (zB (true))))) (c_X5_start_bad l D cJ o a (c) (th) (ac) (re) (kn) (true) (1 : Int) (by first | assumption | omega | rfl | exact decide_eq_false (by omega) | exact decide_eq_true (by assumption) | exact decide_eq_true (by omega) | exact one_shl33 (by omega) | exact pm_lt _ _ | exact rm_lt (by first | assumption | exact pm_lt _ _) | exact Nat.lt_of_le_of_lt (Nat.shiftRight_le _ _) (by assumption) | exact Nat.lt_of_le_of_lt Nat.and_le_right (by omega)) (by first | assumption | omega | rfl | exact decide_eq_false (by omega) | exact decide_eq_true (by assumption) | exact decide_eq_true (by omega) | exact one_shl33 (by omega) | exact pm_lt _ _ | exact rm_lt (by first | assumption | exact pm_lt _ _) | exact Nat.lt_of_le_of_lt (Nat.shiftRight_le _ _) (by assumption) | exact Nat.lt_of_le_of_lt Nat.and_le_right (by omega))) ml_X5_71 rfl ⟨Nat.le_of_ble_eq_true rfl, Nat.le_of_ble_eq_true rfl⟩ ⟨Nat.le_of_ble_eq_true rfl, Nat.le_of_ble_eq_true rfl⟩ hl (Nat.le_of_ble_eq_true rfl) rfl dX5_derive_21 (fun H locs B => ?_)
    refine z_ifB_eq (tgt := 31) C dX5_derive_24 (by decide) (fun h24 => ?_) (fun h24 => ?_)
    · exact absurd h24 (by decide)
    · refine z_iconst C dX5_derive_27 ?_
      refine lv_goto (tgt := 45) C.1 C.2.1 dX5_derive_28 (by decide) ?_
      exact zo_iret C B hr hk (Nat.le_of_ble_eq_true rfl) (Nat.le_of_ble_eq_true rfl) dX5_derive_45 (by exact congrArg (fun z : Int => some (Value.int (iZ z))) (by rfl)) (by rfl) (by rfl)
  · have g5 := of_decide_eq_false h5
    refine lv_iload_n C.1 C.2.1 dX5_derive_8 rfl (lv_at hl 2 rfl) ?_
    refine z_call C (c_X5_isNo l (z) (by first | assumption | omega | rfl | exact decide_eq_false (by omega) | exact decide_eq_true (by assumption) | exact decide_eq_true (by omega) | exact one_shl33 (by omega) | exact pm_lt _ _ | exact rm_lt (by first | assumption | exact pm_lt _ _) | exact Nat.lt_of_le_of_lt (Nat.shiftRight_le _ _) (by assumption) | exact Nat.lt_of_le_of_lt Nat.and_le_right (by omega))) ml_X5_67 ⟨by decide, by decide⟩ ⟨Nat.le_of_ble_eq_true rfl, Nat.le_of_ble_eq_true rfl⟩ hl (Nat.le_of_ble_eq_true rfl) rfl dX5_derive_9 ?_
    refine z_ifB_eq (tgt := 19) C dX5_derive_12 (by decide) (fun h12 => ?_) (fun h12 => ?_)
    · have g12 := of_decide_eq_false h12
      refine z_iconst C dX5_derive_19 ?_
      refine z_iconst C dX5_derive_20 ?_
      exfalso; omega
    · have g12 := of_decide_eq_true h12
      refine z_iconst C dX5_derive_15 ?_
      refine lv_goto (tgt := 20) C.1 C.2.1 dX5_derive_16 (by decide) ?_
      refine z_iconst C dX5_derive_20 ?_
      refine zo_callD C B (r := some (.int (iZ (zB (true))))) (c_X5_start_bad l D cJ o a (c) (th) (ac) (re) (kn) (true) (1 : Int) (by first | assumption | omega | rfl | exact decide_eq_false (by omega) | exact decide_eq_true (by assumption) | exact decide_eq_true (by omega) | exact one_shl33 (by omega) | exact pm_lt _ _ | exact rm_lt (by first | assumption | exact pm_lt _ _) | exact Nat.lt_of_le_of_lt (Nat.shiftRight_le _ _) (by assumption) | exact Nat.lt_of_le_of_lt Nat.and_le_right (by omega)) (by first | assumption | omega | rfl | exact decide_eq_false (by omega) | exact decide_eq_true (by assumption) | exact decide_eq_true (by omega) | exact one_shl33 (by omega) | exact pm_lt _ _ | exact rm_lt (by first | assumption | exact pm_lt _ _) | exact Nat.lt_of_le_of_lt (Nat.shiftRight_le _ _) (by assumption) | exact Nat.lt_of_le_of_lt Nat.and_le_right (by omega))) ml_X5_71 rfl ⟨Nat.le_of_ble_eq_true rfl, Nat.le_of_ble_eq_true rfl⟩ ⟨Nat.le_of_ble_eq_true rfl, Nat.le_of_ble_eq_true rfl⟩ hl (Nat.le_of_ble_eq_true rfl) rfl dX5_derive_21 (fun H locs B => ?_)
      refine z_ifB_eq (tgt := 31) C dX5_derive_24 (by decide) (fun h24 => ?_) (fun h24 => ?_)
      · exact absurd h24 (by decide)
      · refine z_iconst C dX5_derive_27 ?_
        refine lv_goto (tgt := 45) C.1 C.2.1 dX5_derive_28 (by decide) ?_
        exact zo_iret C B hr hk (Nat.le_of_ble_eq_true rfl) (Nat.le_of_ble_eq_true rfl) dX5_derive_45 (by exact congrArg (fun z : Int => some (Value.int (iZ z))) (by rfl)) (by rfl) (by rfl)

set_option maxHeartbeats 4000000 in
set_option maxRecDepth 100000 in
theorem c_X5_root_bad1 (l : Launch) (D : va_G) (cJ : ClassId) (o a : Nat) (c : Nat → Nat) (th : Int) (ac : Int32) (re : Int32) (kn : Int32) (f : Int) (z : Int) (r9f : -2147483648 ≤ f ∧ f ≤ 2147483647) (r9z : -2147483648 ≤ z ∧ z ≤ 2147483647) (hbad : ¬ ((0 ≤ f ∧ f ≤ 5) ∧ (0 ≤ z ∧ z ≤ 5))) : zA l yX5_root 2 66 0 0 D 4 cJ o a [.int (iZ (f)), .int (iZ (z))] c [.int (iZ (th)), .int (ac), .int (re), .int (kn)] (fun v => v = some (.int (iZ (0)))) (c) [.int (iZ (1)), .int (ac), .int (re), .int (kn)] := by
  refine zA.intro (lo := 44) (nA := 2) (own := RX5) zi_X5_root (by decide) rfl rfl (by decide +kernel) rfl (Nat.le_of_ble_eq_true rfl) ?_
  intro p e s m below meth c0 ls C hr hk B hl
  have hl : lv_has ls 3 [(0, .ref o), (1, .int (iZ (f))), (2, .int (iZ (z)))] := hl
  refine lv_aload_n C.1 C.2.1 dX5_root_0 rfl (lv_at hl 0 rfl) ?_
  refine lv_iload_n C.1 C.2.1 dX5_root_1 rfl (lv_at hl 1 rfl) ?_
  refine z_call C (c_X5_isNo l (f) (by first | assumption | omega | rfl | exact decide_eq_false (by omega) | exact decide_eq_true (by assumption) | exact decide_eq_true (by omega) | exact one_shl33 (by omega) | exact pm_lt _ _ | exact rm_lt (by first | assumption | exact pm_lt _ _) | exact Nat.lt_of_le_of_lt (Nat.shiftRight_le _ _) (by assumption) | exact Nat.lt_of_le_of_lt Nat.and_le_right (by omega))) ml_X5_67 ⟨by decide, by decide⟩ ⟨Nat.le_of_ble_eq_true rfl, Nat.le_of_ble_eq_true rfl⟩ hl (Nat.le_of_ble_eq_true rfl) rfl dX5_root_2 ?_
  refine z_ifB_ne (tgt := 15) C dX5_root_5 (by decide) (fun h5 => ?_) (fun h5 => ?_)
  · have g5 := of_decide_eq_true h5
    refine z_iconst C dX5_root_15 ?_
    refine lv_goto (tgt := 20) C.1 C.2.1 dX5_root_16 (by decide) ?_
    refine z_iconst C dX5_root_20 ?_
    refine zo_callD C B (r := some (.int (iZ (zB (true))))) (c_X5_start_bad l D cJ o a (c) (th) (ac) (re) (kn) (true) (1 : Int) (by first | assumption | omega | rfl | exact decide_eq_false (by omega) | exact decide_eq_true (by assumption) | exact decide_eq_true (by omega) | exact one_shl33 (by omega) | exact pm_lt _ _ | exact rm_lt (by first | assumption | exact pm_lt _ _) | exact Nat.lt_of_le_of_lt (Nat.shiftRight_le _ _) (by assumption) | exact Nat.lt_of_le_of_lt Nat.and_le_right (by omega)) (by first | assumption | omega | rfl | exact decide_eq_false (by omega) | exact decide_eq_true (by assumption) | exact decide_eq_true (by omega) | exact one_shl33 (by omega) | exact pm_lt _ _ | exact rm_lt (by first | assumption | exact pm_lt _ _) | exact Nat.lt_of_le_of_lt (Nat.shiftRight_le _ _) (by assumption) | exact Nat.lt_of_le_of_lt Nat.and_le_right (by omega))) ml_X5_71 rfl ⟨Nat.le_of_ble_eq_true rfl, Nat.le_of_ble_eq_true rfl⟩ ⟨Nat.le_of_ble_eq_true rfl, Nat.le_of_ble_eq_true rfl⟩ hl (Nat.le_of_ble_eq_true rfl) rfl dX5_root_21 (fun H locs B => ?_)
    refine z_ifB_eq (tgt := 31) C dX5_root_24 (by decide) (fun h24 => ?_) (fun h24 => ?_)
    · exact absurd h24 (by decide)
    · refine z_iconst C dX5_root_27 ?_
      refine lv_goto (tgt := 64) C.1 C.2.1 dX5_root_28 (by decide) ?_
      exact zo_iret C B hr hk (Nat.le_of_ble_eq_true rfl) (Nat.le_of_ble_eq_true rfl) dX5_root_64 (by exact congrArg (fun z : Int => some (Value.int (iZ z))) (by rfl)) (by rfl) (by rfl)
  · have g5 := of_decide_eq_false h5
    refine lv_iload_n C.1 C.2.1 dX5_root_8 rfl (lv_at hl 2 rfl) ?_
    refine z_call C (c_X5_isNo l (z) (by first | assumption | omega | rfl | exact decide_eq_false (by omega) | exact decide_eq_true (by assumption) | exact decide_eq_true (by omega) | exact one_shl33 (by omega) | exact pm_lt _ _ | exact rm_lt (by first | assumption | exact pm_lt _ _) | exact Nat.lt_of_le_of_lt (Nat.shiftRight_le _ _) (by assumption) | exact Nat.lt_of_le_of_lt Nat.and_le_right (by omega))) ml_X5_67 ⟨by decide, by decide⟩ ⟨Nat.le_of_ble_eq_true rfl, Nat.le_of_ble_eq_true rfl⟩ hl (Nat.le_of_ble_eq_true rfl) rfl dX5_root_9 ?_
    refine z_ifB_eq (tgt := 19) C dX5_root_12 (by decide) (fun h12 => ?_) (fun h12 => ?_)
    · have g12 := of_decide_eq_false h12
      refine z_iconst C dX5_root_19 ?_
      refine z_iconst C dX5_root_20 ?_
      exfalso; omega
    · have g12 := of_decide_eq_true h12
      refine z_iconst C dX5_root_15 ?_
      refine lv_goto (tgt := 20) C.1 C.2.1 dX5_root_16 (by decide) ?_
      refine z_iconst C dX5_root_20 ?_
      refine zo_callD C B (r := some (.int (iZ (zB (true))))) (c_X5_start_bad l D cJ o a (c) (th) (ac) (re) (kn) (true) (1 : Int) (by first | assumption | omega | rfl | exact decide_eq_false (by omega) | exact decide_eq_true (by assumption) | exact decide_eq_true (by omega) | exact one_shl33 (by omega) | exact pm_lt _ _ | exact rm_lt (by first | assumption | exact pm_lt _ _) | exact Nat.lt_of_le_of_lt (Nat.shiftRight_le _ _) (by assumption) | exact Nat.lt_of_le_of_lt Nat.and_le_right (by omega)) (by first | assumption | omega | rfl | exact decide_eq_false (by omega) | exact decide_eq_true (by assumption) | exact decide_eq_true (by omega) | exact one_shl33 (by omega) | exact pm_lt _ _ | exact rm_lt (by first | assumption | exact pm_lt _ _) | exact Nat.lt_of_le_of_lt (Nat.shiftRight_le _ _) (by assumption) | exact Nat.lt_of_le_of_lt Nat.and_le_right (by omega))) ml_X5_71 rfl ⟨Nat.le_of_ble_eq_true rfl, Nat.le_of_ble_eq_true rfl⟩ ⟨Nat.le_of_ble_eq_true rfl, Nat.le_of_ble_eq_true rfl⟩ hl (Nat.le_of_ble_eq_true rfl) rfl dX5_root_21 (fun H locs B => ?_)
      refine z_ifB_eq (tgt := 31) C dX5_root_24 (by decide) (fun h24 => ?_) (fun h24 => ?_)
      · exact absurd h24 (by decide)
      · refine z_iconst C dX5_root_27 ?_
        refine lv_goto (tgt := 64) C.1 C.2.1 dX5_root_28 (by decide) ?_
        exact zo_iret C B hr hk (Nat.le_of_ble_eq_true rfl) (Nat.le_of_ble_eq_true rfl) dX5_root_64 (by exact congrArg (fun z : Int => some (Value.int (iZ z))) (by rfl)) (by rfl) (by rfl)

set_option maxHeartbeats 4000000 in
set_option maxRecDepth 100000 in
theorem c_X5_turn_bad1 (l : Launch) (D : va_G) (cJ : ClassId) (o a : Nat) (c : Nat → Nat) (th : Int) (ac : Int32) (re : Int32) (kn : Int32) (f : Int) (z : Int) (r9f : -2147483648 ≤ f ∧ f ≤ 2147483647) (r9z : -2147483648 ≤ z ∧ z ≤ 2147483647) (hbad : ¬ ((0 ≤ f ∧ f ≤ 5) ∧ (0 ≤ z ∧ z ≤ 5))) : zA l yX5_turn 2 70 0 0 D 4 cJ o a [.int (iZ (f)), .int (iZ (z))] c [.int (iZ (th)), .int (ac), .int (re), .int (kn)] (fun v => v = some (.int (iZ (0)))) (c) [.int (iZ (1)), .int (ac), .int (re), .int (kn)] := by
  refine zA.intro (lo := 44) (nA := 2) (own := RX5) zi_X5_turn (by decide) rfl rfl (by decide +kernel) rfl (Nat.le_of_ble_eq_true rfl) ?_
  intro p e s m below meth c0 ls C hr hk B hl
  have hl : lv_has ls 7 [(0, .ref o), (1, .int (iZ (f))), (2, .int (iZ (z)))] := hl
  refine lv_aload_n C.1 C.2.1 dX5_turn_0 rfl (lv_at hl 0 rfl) ?_
  refine lv_iload_n C.1 C.2.1 dX5_turn_1 rfl (lv_at hl 1 rfl) ?_
  refine z_call C (c_X5_isNo l (f) (by first | assumption | omega | rfl | exact decide_eq_false (by omega) | exact decide_eq_true (by assumption) | exact decide_eq_true (by omega) | exact one_shl33 (by omega) | exact pm_lt _ _ | exact rm_lt (by first | assumption | exact pm_lt _ _) | exact Nat.lt_of_le_of_lt (Nat.shiftRight_le _ _) (by assumption) | exact Nat.lt_of_le_of_lt Nat.and_le_right (by omega))) ml_X5_67 ⟨by decide, by decide⟩ ⟨Nat.le_of_ble_eq_true rfl, Nat.le_of_ble_eq_true rfl⟩ hl (Nat.le_of_ble_eq_true rfl) rfl dX5_turn_2 ?_
  refine z_ifB_ne (tgt := 15) C dX5_turn_5 (by decide) (fun h5 => ?_) (fun h5 => ?_)
  · have g5 := of_decide_eq_true h5
    refine z_iconst C dX5_turn_15 ?_
    refine lv_goto (tgt := 20) C.1 C.2.1 dX5_turn_16 (by decide) ?_
    refine z_iconst C dX5_turn_20 ?_
    refine zo_callD C B (r := some (.int (iZ (zB (true))))) (c_X5_start_bad l D cJ o a (c) (th) (ac) (re) (kn) (true) (1 : Int) (by first | assumption | omega | rfl | exact decide_eq_false (by omega) | exact decide_eq_true (by assumption) | exact decide_eq_true (by omega) | exact one_shl33 (by omega) | exact pm_lt _ _ | exact rm_lt (by first | assumption | exact pm_lt _ _) | exact Nat.lt_of_le_of_lt (Nat.shiftRight_le _ _) (by assumption) | exact Nat.lt_of_le_of_lt Nat.and_le_right (by omega)) (by first | assumption | omega | rfl | exact decide_eq_false (by omega) | exact decide_eq_true (by assumption) | exact decide_eq_true (by omega) | exact one_shl33 (by omega) | exact pm_lt _ _ | exact rm_lt (by first | assumption | exact pm_lt _ _) | exact Nat.lt_of_le_of_lt (Nat.shiftRight_le _ _) (by assumption) | exact Nat.lt_of_le_of_lt Nat.and_le_right (by omega))) ml_X5_71 rfl ⟨Nat.le_of_ble_eq_true rfl, Nat.le_of_ble_eq_true rfl⟩ ⟨Nat.le_of_ble_eq_true rfl, Nat.le_of_ble_eq_true rfl⟩ hl (Nat.le_of_ble_eq_true rfl) rfl dX5_turn_21 (fun H locs B => ?_)
    refine z_ifB_eq (tgt := 29) C dX5_turn_24 (by decide) (fun h24 => ?_) (fun h24 => ?_)
    · exact absurd h24 (by decide)
    · refine z_iconst C dX5_turn_27 ?_
      exact zo_iret C B hr hk (Nat.le_of_ble_eq_true rfl) (Nat.le_of_ble_eq_true rfl) dX5_turn_28 (by exact congrArg (fun z : Int => some (Value.int (iZ z))) (by rfl)) (by rfl) (by rfl)
  · have g5 := of_decide_eq_false h5
    refine lv_iload_n C.1 C.2.1 dX5_turn_8 rfl (lv_at hl 2 rfl) ?_
    refine z_call C (c_X5_isNo l (z) (by first | assumption | omega | rfl | exact decide_eq_false (by omega) | exact decide_eq_true (by assumption) | exact decide_eq_true (by omega) | exact one_shl33 (by omega) | exact pm_lt _ _ | exact rm_lt (by first | assumption | exact pm_lt _ _) | exact Nat.lt_of_le_of_lt (Nat.shiftRight_le _ _) (by assumption) | exact Nat.lt_of_le_of_lt Nat.and_le_right (by omega))) ml_X5_67 ⟨by decide, by decide⟩ ⟨Nat.le_of_ble_eq_true rfl, Nat.le_of_ble_eq_true rfl⟩ hl (Nat.le_of_ble_eq_true rfl) rfl dX5_turn_9 ?_
    refine z_ifB_eq (tgt := 19) C dX5_turn_12 (by decide) (fun h12 => ?_) (fun h12 => ?_)
    · have g12 := of_decide_eq_false h12
      refine z_iconst C dX5_turn_19 ?_
      refine z_iconst C dX5_turn_20 ?_
      exfalso; omega
    · have g12 := of_decide_eq_true h12
      refine z_iconst C dX5_turn_15 ?_
      refine lv_goto (tgt := 20) C.1 C.2.1 dX5_turn_16 (by decide) ?_
      refine z_iconst C dX5_turn_20 ?_
      refine zo_callD C B (r := some (.int (iZ (zB (true))))) (c_X5_start_bad l D cJ o a (c) (th) (ac) (re) (kn) (true) (1 : Int) (by first | assumption | omega | rfl | exact decide_eq_false (by omega) | exact decide_eq_true (by assumption) | exact decide_eq_true (by omega) | exact one_shl33 (by omega) | exact pm_lt _ _ | exact rm_lt (by first | assumption | exact pm_lt _ _) | exact Nat.lt_of_le_of_lt (Nat.shiftRight_le _ _) (by assumption) | exact Nat.lt_of_le_of_lt Nat.and_le_right (by omega)) (by first | assumption | omega | rfl | exact decide_eq_false (by omega) | exact decide_eq_true (by assumption) | exact decide_eq_true (by omega) | exact one_shl33 (by omega) | exact pm_lt _ _ | exact rm_lt (by first | assumption | exact pm_lt _ _) | exact Nat.lt_of_le_of_lt (Nat.shiftRight_le _ _) (by assumption) | exact Nat.lt_of_le_of_lt Nat.and_le_right (by omega))) ml_X5_71 rfl ⟨Nat.le_of_ble_eq_true rfl, Nat.le_of_ble_eq_true rfl⟩ ⟨Nat.le_of_ble_eq_true rfl, Nat.le_of_ble_eq_true rfl⟩ hl (Nat.le_of_ble_eq_true rfl) rfl dX5_turn_21 (fun H locs B => ?_)
      refine z_ifB_eq (tgt := 29) C dX5_turn_24 (by decide) (fun h24 => ?_) (fun h24 => ?_)
      · exact absurd h24 (by decide)
      · refine z_iconst C dX5_turn_27 ?_
        exact zo_iret C B hr hk (Nat.le_of_ble_eq_true rfl) (Nat.le_of_ble_eq_true rfl) dX5_turn_28 (by exact congrArg (fun z : Int => some (Value.int (iZ z))) (by rfl)) (by rfl) (by rfl)

set_option maxHeartbeats 4000000 in
set_option maxRecDepth 100000 in
theorem c_X5_move_bad1 (l : Launch) (D : va_G) (cJ : ClassId) (o a : Nat) (c : Nat → Nat) (th : Int) (ac : Int32) (re : Int32) (kn : Int32) (f : Int) (z : Int) (r9f : -2147483648 ≤ f ∧ f ≤ 2147483647) (r9z : -2147483648 ≤ z ∧ z ≤ 2147483647) (hbad : ¬ ((0 ≤ f ∧ f ≤ 5) ∧ (0 ≤ z ∧ z ≤ 5))) : zA l yX5_move 2 69 0 0 D 4 cJ o a [.int (iZ (f)), .int (iZ (z))] c [.int (iZ (th)), .int (ac), .int (re), .int (kn)] (fun v => v = some (.int (iZ (0)))) (c) [.int (iZ (1)), .int (ac), .int (re), .int (kn)] := by
  refine zA.intro (lo := 44) (nA := 2) (own := RX5) zi_X5_move (by decide) rfl rfl (by decide +kernel) rfl (Nat.le_of_ble_eq_true rfl) ?_
  intro p e s m below meth c0 ls C hr hk B hl
  have hl : lv_has ls 6 [(0, .ref o), (1, .int (iZ (f))), (2, .int (iZ (z)))] := hl
  refine lv_aload_n C.1 C.2.1 dX5_move_0 rfl (lv_at hl 0 rfl) ?_
  refine lv_iload_n C.1 C.2.1 dX5_move_1 rfl (lv_at hl 1 rfl) ?_
  refine z_call C (c_X5_isNo l (f) (by first | assumption | omega | rfl | exact decide_eq_false (by omega) | exact decide_eq_true (by assumption) | exact decide_eq_true (by omega) | exact one_shl33 (by omega) | exact pm_lt _ _ | exact rm_lt (by first | assumption | exact pm_lt _ _) | exact Nat.lt_of_le_of_lt (Nat.shiftRight_le _ _) (by assumption) | exact Nat.lt_of_le_of_lt Nat.and_le_right (by omega))) ml_X5_67 ⟨by decide, by decide⟩ ⟨Nat.le_of_ble_eq_true rfl, Nat.le_of_ble_eq_true rfl⟩ hl (Nat.le_of_ble_eq_true rfl) rfl dX5_move_2 ?_
  refine z_ifB_ne (tgt := 15) C dX5_move_5 (by decide) (fun h5 => ?_) (fun h5 => ?_)
  · have g5 := of_decide_eq_true h5
    refine z_iconst C dX5_move_15 ?_
    refine lv_goto (tgt := 20) C.1 C.2.1 dX5_move_16 (by decide) ?_
    refine z_iconst C dX5_move_20 ?_
    refine zo_callD C B (r := some (.int (iZ (zB (true))))) (c_X5_start_bad l D cJ o a (c) (th) (ac) (re) (kn) (true) (1 : Int) (by first | assumption | omega | rfl | exact decide_eq_false (by omega) | exact decide_eq_true (by assumption) | exact decide_eq_true (by omega) | exact one_shl33 (by omega) | exact pm_lt _ _ | exact rm_lt (by first | assumption | exact pm_lt _ _) | exact Nat.lt_of_le_of_lt (Nat.shiftRight_le _ _) (by assumption) | exact Nat.lt_of_le_of_lt Nat.and_le_right (by omega)) (by first | assumption | omega | rfl | exact decide_eq_false (by omega) | exact decide_eq_true (by assumption) | exact decide_eq_true (by omega) | exact one_shl33 (by omega) | exact pm_lt _ _ | exact rm_lt (by first | assumption | exact pm_lt _ _) | exact Nat.lt_of_le_of_lt (Nat.shiftRight_le _ _) (by assumption) | exact Nat.lt_of_le_of_lt Nat.and_le_right (by omega))) ml_X5_71 rfl ⟨Nat.le_of_ble_eq_true rfl, Nat.le_of_ble_eq_true rfl⟩ ⟨Nat.le_of_ble_eq_true rfl, Nat.le_of_ble_eq_true rfl⟩ hl (Nat.le_of_ble_eq_true rfl) rfl dX5_move_21 (fun H locs B => ?_)
    refine z_ifB_eq (tgt := 29) C dX5_move_24 (by decide) (fun h24 => ?_) (fun h24 => ?_)
    · exact absurd h24 (by decide)
    · refine z_iconst C dX5_move_27 ?_
      exact zo_iret C B hr hk (Nat.le_of_ble_eq_true rfl) (Nat.le_of_ble_eq_true rfl) dX5_move_28 (by exact congrArg (fun z : Int => some (Value.int (iZ z))) (by rfl)) (by rfl) (by rfl)
  · have g5 := of_decide_eq_false h5
    refine lv_iload_n C.1 C.2.1 dX5_move_8 rfl (lv_at hl 2 rfl) ?_
    refine z_call C (c_X5_isNo l (z) (by first | assumption | omega | rfl | exact decide_eq_false (by omega) | exact decide_eq_true (by assumption) | exact decide_eq_true (by omega) | exact one_shl33 (by omega) | exact pm_lt _ _ | exact rm_lt (by first | assumption | exact pm_lt _ _) | exact Nat.lt_of_le_of_lt (Nat.shiftRight_le _ _) (by assumption) | exact Nat.lt_of_le_of_lt Nat.and_le_right (by omega))) ml_X5_67 ⟨by decide, by decide⟩ ⟨Nat.le_of_ble_eq_true rfl, Nat.le_of_ble_eq_true rfl⟩ hl (Nat.le_of_ble_eq_true rfl) rfl dX5_move_9 ?_
    refine z_ifB_eq (tgt := 19) C dX5_move_12 (by decide) (fun h12 => ?_) (fun h12 => ?_)
    · have g12 := of_decide_eq_false h12
      refine z_iconst C dX5_move_19 ?_
      refine z_iconst C dX5_move_20 ?_
      exfalso; omega
    · have g12 := of_decide_eq_true h12
      refine z_iconst C dX5_move_15 ?_
      refine lv_goto (tgt := 20) C.1 C.2.1 dX5_move_16 (by decide) ?_
      refine z_iconst C dX5_move_20 ?_
      refine zo_callD C B (r := some (.int (iZ (zB (true))))) (c_X5_start_bad l D cJ o a (c) (th) (ac) (re) (kn) (true) (1 : Int) (by first | assumption | omega | rfl | exact decide_eq_false (by omega) | exact decide_eq_true (by assumption) | exact decide_eq_true (by omega) | exact one_shl33 (by omega) | exact pm_lt _ _ | exact rm_lt (by first | assumption | exact pm_lt _ _) | exact Nat.lt_of_le_of_lt (Nat.shiftRight_le _ _) (by assumption) | exact Nat.lt_of_le_of_lt Nat.and_le_right (by omega)) (by first | assumption | omega | rfl | exact decide_eq_false (by omega) | exact decide_eq_true (by assumption) | exact decide_eq_true (by omega) | exact one_shl33 (by omega) | exact pm_lt _ _ | exact rm_lt (by first | assumption | exact pm_lt _ _) | exact Nat.lt_of_le_of_lt (Nat.shiftRight_le _ _) (by assumption) | exact Nat.lt_of_le_of_lt Nat.and_le_right (by omega))) ml_X5_71 rfl ⟨Nat.le_of_ble_eq_true rfl, Nat.le_of_ble_eq_true rfl⟩ ⟨Nat.le_of_ble_eq_true rfl, Nat.le_of_ble_eq_true rfl⟩ hl (Nat.le_of_ble_eq_true rfl) rfl dX5_move_21 (fun H locs B => ?_)
      refine z_ifB_eq (tgt := 29) C dX5_move_24 (by decide) (fun h24 => ?_) (fun h24 => ?_)
      · exact absurd h24 (by decide)
      · refine z_iconst C dX5_move_27 ?_
        exact zo_iret C B hr hk (Nat.le_of_ble_eq_true rfl) (Nat.le_of_ble_eq_true rfl) dX5_move_28 (by exact congrArg (fun z : Int => some (Value.int (iZ z))) (by rfl)) (by rfl) (by rfl)

set_option maxHeartbeats 4000000 in
set_option maxRecDepth 100000 in
theorem c_X5_power_bad1 (l : Launch) (D : va_G) (cJ : ClassId) (o a : Nat) (c : Nat → Nat) (th : Int) (ac : Int32) (re : Int32) (kn : Int32) (f : Int) (t : Int) (g : Int) (z : Int) (r9f : -2147483648 ≤ f ∧ f ≤ 2147483647) (r9t : -2147483648 ≤ t ∧ t ≤ 2147483647) (r9g : -2147483648 ≤ g ∧ g ≤ 2147483647) (r9z : -2147483648 ≤ z ∧ z ≤ 2147483647) (hbad : ¬ ((0 ≤ f ∧ f ≤ 5) ∧ (0 ≤ g ∧ g ≤ 5) ∧ (0 ≤ z ∧ z ≤ 5))) : zA l yX5_power 2 73 0 0 D 4 cJ o a [.int (iZ (f)), .int (iZ (t)), .int (iZ (g)), .int (iZ (z))] c [.int (iZ (th)), .int (ac), .int (re), .int (kn)] (fun v => v = some (.int (iZ (0)))) (c) [.int (iZ (1)), .int (ac), .int (re), .int (kn)] := by
  refine zA.intro (lo := 44) (nA := 4) (own := RX5) zi_X5_power (by decide) rfl rfl (by decide +kernel) rfl (Nat.le_of_ble_eq_true rfl) ?_
  intro p e s m below meth c0 ls C hr hk B hl
  have hl : lv_has ls 10 [(0, .ref o), (1, .int (iZ (f))), (2, .int (iZ (t))), (3, .int (iZ (g))), (4, .int (iZ (z)))] := hl
  refine lv_aload_n C.1 C.2.1 dX5_power_0 rfl (lv_at hl 0 rfl) ?_
  refine lv_iload_n C.1 C.2.1 dX5_power_1 rfl (lv_at hl 1 rfl) ?_
  refine z_call C (c_X5_isNo l (f) (by first | assumption | omega | rfl | exact decide_eq_false (by omega) | exact decide_eq_true (by assumption) | exact decide_eq_true (by omega) | exact one_shl33 (by omega) | exact pm_lt _ _ | exact rm_lt (by first | assumption | exact pm_lt _ _) | exact Nat.lt_of_le_of_lt (Nat.shiftRight_le _ _) (by assumption) | exact Nat.lt_of_le_of_lt Nat.and_le_right (by omega))) ml_X5_67 ⟨by decide, by decide⟩ ⟨Nat.le_of_ble_eq_true rfl, Nat.le_of_ble_eq_true rfl⟩ hl (Nat.le_of_ble_eq_true rfl) rfl dX5_power_2 ?_
  refine z_ifB_ne (tgt := 23) C dX5_power_5 (by decide) (fun h5 => ?_) (fun h5 => ?_)
  · have g5 := of_decide_eq_true h5
    refine z_iconst C dX5_power_23 ?_
    refine lv_goto (tgt := 28) C.1 C.2.1 dX5_power_24 (by decide) ?_
    refine z_iconst C dX5_power_28 ?_
    refine zo_callD C B (r := some (.int (iZ (zB (true))))) (c_X5_start_bad l D cJ o a (c) (th) (ac) (re) (kn) (true) (1 : Int) (by first | assumption | omega | rfl | exact decide_eq_false (by omega) | exact decide_eq_true (by assumption) | exact decide_eq_true (by omega) | exact one_shl33 (by omega) | exact pm_lt _ _ | exact rm_lt (by first | assumption | exact pm_lt _ _) | exact Nat.lt_of_le_of_lt (Nat.shiftRight_le _ _) (by assumption) | exact Nat.lt_of_le_of_lt Nat.and_le_right (by omega)) (by first | assumption | omega | rfl | exact decide_eq_false (by omega) | exact decide_eq_true (by assumption) | exact decide_eq_true (by omega) | exact one_shl33 (by omega) | exact pm_lt _ _ | exact rm_lt (by first | assumption | exact pm_lt _ _) | exact Nat.lt_of_le_of_lt (Nat.shiftRight_le _ _) (by assumption) | exact Nat.lt_of_le_of_lt Nat.and_le_right (by omega))) ml_X5_71 rfl ⟨Nat.le_of_ble_eq_true rfl, Nat.le_of_ble_eq_true rfl⟩ ⟨Nat.le_of_ble_eq_true rfl, Nat.le_of_ble_eq_true rfl⟩ hl (Nat.le_of_ble_eq_true rfl) rfl dX5_power_29 (fun H locs B => ?_)
    refine z_ifB_ne (tgt := 59) C dX5_power_32 (by decide) (fun h32 => ?_) (fun h32 => ?_)
    · refine z_iconst C dX5_power_59 ?_
      exact zo_iret C B hr hk (Nat.le_of_ble_eq_true rfl) (Nat.le_of_ble_eq_true rfl) dX5_power_60 (by exact congrArg (fun z : Int => some (Value.int (iZ z))) (by rfl)) (by rfl) (by rfl)
    · exact absurd h32 (by decide)
  · have g5 := of_decide_eq_false h5
    refine lv_iload_n C.1 C.2.1 dX5_power_8 rfl (lv_at hl 3 rfl) ?_
    refine z_call C (c_X5_isNo l (g) (by first | assumption | omega | rfl | exact decide_eq_false (by omega) | exact decide_eq_true (by assumption) | exact decide_eq_true (by omega) | exact one_shl33 (by omega) | exact pm_lt _ _ | exact rm_lt (by first | assumption | exact pm_lt _ _) | exact Nat.lt_of_le_of_lt (Nat.shiftRight_le _ _) (by assumption) | exact Nat.lt_of_le_of_lt Nat.and_le_right (by omega))) ml_X5_67 ⟨by decide, by decide⟩ ⟨Nat.le_of_ble_eq_true rfl, Nat.le_of_ble_eq_true rfl⟩ hl (Nat.le_of_ble_eq_true rfl) rfl dX5_power_9 ?_
    refine z_ifB_ne (tgt := 23) C dX5_power_12 (by decide) (fun h12 => ?_) (fun h12 => ?_)
    · have g12 := of_decide_eq_true h12
      refine z_iconst C dX5_power_23 ?_
      refine lv_goto (tgt := 28) C.1 C.2.1 dX5_power_24 (by decide) ?_
      refine z_iconst C dX5_power_28 ?_
      refine zo_callD C B (r := some (.int (iZ (zB (true))))) (c_X5_start_bad l D cJ o a (c) (th) (ac) (re) (kn) (true) (1 : Int) (by first | assumption | omega | rfl | exact decide_eq_false (by omega) | exact decide_eq_true (by assumption) | exact decide_eq_true (by omega) | exact one_shl33 (by omega) | exact pm_lt _ _ | exact rm_lt (by first | assumption | exact pm_lt _ _) | exact Nat.lt_of_le_of_lt (Nat.shiftRight_le _ _) (by assumption) | exact Nat.lt_of_le_of_lt Nat.and_le_right (by omega)) (by first | assumption | omega | rfl | exact decide_eq_false (by omega) | exact decide_eq_true (by assumption) | exact decide_eq_true (by omega) | exact one_shl33 (by omega) | exact pm_lt _ _ | exact rm_lt (by first | assumption | exact pm_lt _ _) | exact Nat.lt_of_le_of_lt (Nat.shiftRight_le _ _) (by assumption) | exact Nat.lt_of_le_of_lt Nat.and_le_right (by omega))) ml_X5_71 rfl ⟨Nat.le_of_ble_eq_true rfl, Nat.le_of_ble_eq_true rfl⟩ ⟨Nat.le_of_ble_eq_true rfl, Nat.le_of_ble_eq_true rfl⟩ hl (Nat.le_of_ble_eq_true rfl) rfl dX5_power_29 (fun H locs B => ?_)
      refine z_ifB_ne (tgt := 59) C dX5_power_32 (by decide) (fun h32 => ?_) (fun h32 => ?_)
      · refine z_iconst C dX5_power_59 ?_
        exact zo_iret C B hr hk (Nat.le_of_ble_eq_true rfl) (Nat.le_of_ble_eq_true rfl) dX5_power_60 (by exact congrArg (fun z : Int => some (Value.int (iZ z))) (by rfl)) (by rfl) (by rfl)
      · exact absurd h32 (by decide)
    · have g12 := of_decide_eq_false h12
      refine lv_iload C.1 C.2.1 dX5_power_15 (lv_at hl 4 rfl) ?_
      refine z_call C (c_X5_isNo l (z) (by first | assumption | omega | rfl | exact decide_eq_false (by omega) | exact decide_eq_true (by assumption) | exact decide_eq_true (by omega) | exact one_shl33 (by omega) | exact pm_lt _ _ | exact rm_lt (by first | assumption | exact pm_lt _ _) | exact Nat.lt_of_le_of_lt (Nat.shiftRight_le _ _) (by assumption) | exact Nat.lt_of_le_of_lt Nat.and_le_right (by omega))) ml_X5_67 ⟨by decide, by decide⟩ ⟨Nat.le_of_ble_eq_true rfl, Nat.le_of_ble_eq_true rfl⟩ hl (Nat.le_of_ble_eq_true rfl) rfl dX5_power_17 ?_
      refine z_ifB_eq (tgt := 27) C dX5_power_20 (by decide) (fun h20 => ?_) (fun h20 => ?_)
      · have g20 := of_decide_eq_false h20
        refine z_iconst C dX5_power_27 ?_
        refine z_iconst C dX5_power_28 ?_
        exfalso; omega
      · have g20 := of_decide_eq_true h20
        refine z_iconst C dX5_power_23 ?_
        refine lv_goto (tgt := 28) C.1 C.2.1 dX5_power_24 (by decide) ?_
        refine z_iconst C dX5_power_28 ?_
        refine zo_callD C B (r := some (.int (iZ (zB (true))))) (c_X5_start_bad l D cJ o a (c) (th) (ac) (re) (kn) (true) (1 : Int) (by first | assumption | omega | rfl | exact decide_eq_false (by omega) | exact decide_eq_true (by assumption) | exact decide_eq_true (by omega) | exact one_shl33 (by omega) | exact pm_lt _ _ | exact rm_lt (by first | assumption | exact pm_lt _ _) | exact Nat.lt_of_le_of_lt (Nat.shiftRight_le _ _) (by assumption) | exact Nat.lt_of_le_of_lt Nat.and_le_right (by omega)) (by first | assumption | omega | rfl | exact decide_eq_false (by omega) | exact decide_eq_true (by assumption) | exact decide_eq_true (by omega) | exact one_shl33 (by omega) | exact pm_lt _ _ | exact rm_lt (by first | assumption | exact pm_lt _ _) | exact Nat.lt_of_le_of_lt (Nat.shiftRight_le _ _) (by assumption) | exact Nat.lt_of_le_of_lt Nat.and_le_right (by omega))) ml_X5_71 rfl ⟨Nat.le_of_ble_eq_true rfl, Nat.le_of_ble_eq_true rfl⟩ ⟨Nat.le_of_ble_eq_true rfl, Nat.le_of_ble_eq_true rfl⟩ hl (Nat.le_of_ble_eq_true rfl) rfl dX5_power_29 (fun H locs B => ?_)
        refine z_ifB_ne (tgt := 59) C dX5_power_32 (by decide) (fun h32 => ?_) (fun h32 => ?_)
        · refine z_iconst C dX5_power_59 ?_
          exact zo_iret C B hr hk (Nat.le_of_ble_eq_true rfl) (Nat.le_of_ble_eq_true rfl) dX5_power_60 (by exact congrArg (fun z : Int => some (Value.int (iZ z))) (by rfl)) (by rfl) (by rfl)
        · exact absurd h32 (by decide)

set_option maxHeartbeats 4000000 in
set_option maxRecDepth 100000 in
theorem c_X5_power_bad2 (l : Launch) (D : va_G) (cJ : ClassId) (o a : Nat) (c : Nat → Nat) (th : Int) (ac : Int32) (re : Int32) (kn : Int32) (f : Int) (t : Int) (g : Int) (z : Int) (r9f : -2147483648 ≤ f ∧ f ≤ 2147483647) (r9t : -2147483648 ≤ t ∧ t ≤ 2147483647) (r9g : -2147483648 ≤ g ∧ g ≤ 2147483647) (r9z : -2147483648 ≤ z ∧ z ≤ 2147483647) (hcel : (0 ≤ f ∧ f ≤ 5) ∧ (0 ≤ g ∧ g ≤ 5) ∧ (0 ≤ z ∧ z ≤ 5)) (hbad : ¬ ((0 ≤ t ∧ t ≤ 255))) : zA l yX5_power 2 73 0 0 D 4 cJ o a [.int (iZ (f)), .int (iZ (t)), .int (iZ (g)), .int (iZ (z))] c [.int (iZ (th)), .int (ac), .int (re), .int (kn)] (fun v => v = some (.int (iZ (0)))) (c) [.int (iZ (2)), .int (ac), .int (re), .int (kn)] := by
  refine zA.intro (lo := 44) (nA := 4) (own := RX5) zi_X5_power (by decide) rfl rfl (by decide +kernel) rfl (Nat.le_of_ble_eq_true rfl) ?_
  intro p e s m below meth c0 ls C hr hk B hl
  have hl : lv_has ls 10 [(0, .ref o), (1, .int (iZ (f))), (2, .int (iZ (t))), (3, .int (iZ (g))), (4, .int (iZ (z)))] := hl
  refine lv_aload_n C.1 C.2.1 dX5_power_0 rfl (lv_at hl 0 rfl) ?_
  refine lv_iload_n C.1 C.2.1 dX5_power_1 rfl (lv_at hl 1 rfl) ?_
  refine z_call C (c_X5_isNo l (f) (by first | assumption | omega | rfl | exact decide_eq_false (by omega) | exact decide_eq_true (by assumption) | exact decide_eq_true (by omega) | exact one_shl33 (by omega) | exact pm_lt _ _ | exact rm_lt (by first | assumption | exact pm_lt _ _) | exact Nat.lt_of_le_of_lt (Nat.shiftRight_le _ _) (by assumption) | exact Nat.lt_of_le_of_lt Nat.and_le_right (by omega))) ml_X5_67 ⟨by decide, by decide⟩ ⟨Nat.le_of_ble_eq_true rfl, Nat.le_of_ble_eq_true rfl⟩ hl (Nat.le_of_ble_eq_true rfl) rfl dX5_power_2 ?_
  refine z_ifB_ne (tgt := 23) C dX5_power_5 (by decide) (fun h5 => ?_) (fun h5 => ?_)
  · exact absurd (of_decide_eq_true h5) (by omega)
  · refine lv_iload_n C.1 C.2.1 dX5_power_8 rfl (lv_at hl 3 rfl) ?_
    refine z_call C (c_X5_isNo l (g) (by first | assumption | omega | rfl | exact decide_eq_false (by omega) | exact decide_eq_true (by assumption) | exact decide_eq_true (by omega) | exact one_shl33 (by omega) | exact pm_lt _ _ | exact rm_lt (by first | assumption | exact pm_lt _ _) | exact Nat.lt_of_le_of_lt (Nat.shiftRight_le _ _) (by assumption) | exact Nat.lt_of_le_of_lt Nat.and_le_right (by omega))) ml_X5_67 ⟨by decide, by decide⟩ ⟨Nat.le_of_ble_eq_true rfl, Nat.le_of_ble_eq_true rfl⟩ hl (Nat.le_of_ble_eq_true rfl) rfl dX5_power_9 ?_
    refine z_ifB_ne (tgt := 23) C dX5_power_12 (by decide) (fun h12 => ?_) (fun h12 => ?_)
    · exact absurd (of_decide_eq_true h12) (by omega)
    · refine lv_iload C.1 C.2.1 dX5_power_15 (lv_at hl 4 rfl) ?_
      refine z_call C (c_X5_isNo l (z) (by first | assumption | omega | rfl | exact decide_eq_false (by omega) | exact decide_eq_true (by assumption) | exact decide_eq_true (by omega) | exact one_shl33 (by omega) | exact pm_lt _ _ | exact rm_lt (by first | assumption | exact pm_lt _ _) | exact Nat.lt_of_le_of_lt (Nat.shiftRight_le _ _) (by assumption) | exact Nat.lt_of_le_of_lt Nat.and_le_right (by omega))) ml_X5_67 ⟨by decide, by decide⟩ ⟨Nat.le_of_ble_eq_true rfl, Nat.le_of_ble_eq_true rfl⟩ hl (Nat.le_of_ble_eq_true rfl) rfl dX5_power_17 ?_
      refine z_ifB_eq (tgt := 27) C dX5_power_20 (by decide) (fun h20 => ?_) (fun h20 => ?_)
      · refine z_iconst C dX5_power_27 ?_
        refine z_iconst C dX5_power_28 ?_
        refine zo_callD C B (r := some (.int (iZ (zB (false))))) (c_X5_start_ok l D cJ o a (c) (th) (ac) (re) (kn) (false) (1 : Int) (by first | assumption | omega | rfl | exact decide_eq_false (by omega) | exact decide_eq_true (by assumption) | exact decide_eq_true (by omega) | exact one_shl33 (by omega) | exact pm_lt _ _ | exact rm_lt (by first | assumption | exact pm_lt _ _) | exact Nat.lt_of_le_of_lt (Nat.shiftRight_le _ _) (by assumption) | exact Nat.lt_of_le_of_lt Nat.and_le_right (by omega))) ml_X5_71 rfl ⟨Nat.le_of_ble_eq_true rfl, Nat.le_of_ble_eq_true rfl⟩ ⟨Nat.le_of_ble_eq_true rfl, Nat.le_of_ble_eq_true rfl⟩ hl (Nat.le_of_ble_eq_true rfl) rfl dX5_power_29 (fun H locs B => ?_)
        refine z_ifB_ne (tgt := 59) C dX5_power_32 (by decide) (fun h32 => ?_) (fun h32 => ?_)
        · exact absurd h32 (by decide)
        · refine lv_aload_n C.1 C.2.1 dX5_power_35 rfl (lv_at hl 0 rfl) ?_
          refine lv_iload_n C.1 C.2.1 dX5_power_36 rfl (lv_at hl 2 rfl) ?_
          refine z_iconst C dX5_power_37 ?_
          refine z_sipush C dX5_power_38 (by decide) ?_
          refine z_call C (c_X5_isIn l (t) (0 : Int) (255 : Int) (by first | assumption | omega | rfl | exact decide_eq_false (by omega) | exact decide_eq_true (by assumption) | exact decide_eq_true (by omega) | exact one_shl33 (by omega) | exact pm_lt _ _ | exact rm_lt (by first | assumption | exact pm_lt _ _) | exact Nat.lt_of_le_of_lt (Nat.shiftRight_le _ _) (by assumption) | exact Nat.lt_of_le_of_lt Nat.and_le_right (by omega)) (by first | assumption | omega | rfl | exact decide_eq_false (by omega) | exact decide_eq_true (by assumption) | exact decide_eq_true (by omega) | exact one_shl33 (by omega) | exact pm_lt _ _ | exact rm_lt (by first | assumption | exact pm_lt _ _) | exact Nat.lt_of_le_of_lt (Nat.shiftRight_le _ _) (by assumption) | exact Nat.lt_of_le_of_lt Nat.and_le_right (by omega)) (by first | assumption | omega | rfl | exact decide_eq_false (by omega) | exact decide_eq_true (by assumption) | exact decide_eq_true (by omega) | exact one_shl33 (by omega) | exact pm_lt _ _ | exact rm_lt (by first | assumption | exact pm_lt _ _) | exact Nat.lt_of_le_of_lt (Nat.shiftRight_le _ _) (by assumption) | exact Nat.lt_of_le_of_lt Nat.and_le_right (by omega))) ml_X5_21 ⟨by decide, by decide⟩ ⟨Nat.le_of_ble_eq_true rfl, Nat.le_of_ble_eq_true rfl⟩ hl (Nat.le_of_ble_eq_true rfl) rfl dX5_power_41 ?_
          refine z_ifB_ne (tgt := 51) C dX5_power_44 (by decide) (fun h44 => ?_) (fun h44 => ?_)
          · have g44 := of_decide_eq_true h44
            refine z_iconst C dX5_power_51 ?_
            refine z_iconst C dX5_power_52 ?_
            exfalso; omega
          · have g44 := of_decide_eq_false h44
            refine z_iconst C dX5_power_47 ?_
            refine lv_goto (tgt := 52) C.1 C.2.1 dX5_power_48 (by decide) ?_
            refine z_iconst C dX5_power_52 ?_
            refine zo_callD C B (r := some (.int (iZ (zB (true))))) (c_X5_refuse_bad l D cJ o a (c) (0) ((ac)) ((re)) ((kn)) (true) (2 : Int) (by first | assumption | omega | rfl | exact decide_eq_false (by omega) | exact decide_eq_true (by assumption) | exact decide_eq_true (by omega) | exact one_shl33 (by omega) | exact pm_lt _ _ | exact rm_lt (by first | assumption | exact pm_lt _ _) | exact Nat.lt_of_le_of_lt (Nat.shiftRight_le _ _) (by assumption) | exact Nat.lt_of_le_of_lt Nat.and_le_right (by omega)) (by first | assumption | omega | rfl | exact decide_eq_false (by omega) | exact decide_eq_true (by assumption) | exact decide_eq_true (by omega) | exact one_shl33 (by omega) | exact pm_lt _ _ | exact rm_lt (by first | assumption | exact pm_lt _ _) | exact Nat.lt_of_le_of_lt (Nat.shiftRight_le _ _) (by assumption) | exact Nat.lt_of_le_of_lt Nat.and_le_right (by omega)) (by first | assumption | omega | rfl | exact decide_eq_false (by omega) | exact decide_eq_true (by assumption) | exact decide_eq_true (by omega) | exact one_shl33 (by omega) | exact pm_lt _ _ | exact rm_lt (by first | assumption | exact pm_lt _ _) | exact Nat.lt_of_le_of_lt (Nat.shiftRight_le _ _) (by assumption) | exact Nat.lt_of_le_of_lt Nat.and_le_right (by omega))) ml_X5_17 rfl ⟨Nat.le_of_ble_eq_true rfl, Nat.le_of_ble_eq_true rfl⟩ ⟨Nat.le_of_ble_eq_true rfl, Nat.le_of_ble_eq_true rfl⟩ hl (Nat.le_of_ble_eq_true rfl) rfl dX5_power_53 (fun H locs B => ?_)
            refine z_ifB_eq (tgt := 61) C dX5_power_56 (by decide) (fun h56 => ?_) (fun h56 => ?_)
            · exact absurd h56 (by decide)
            · refine z_iconst C dX5_power_59 ?_
              exact zo_iret C B hr hk (Nat.le_of_ble_eq_true rfl) (Nat.le_of_ble_eq_true rfl) dX5_power_60 (by exact congrArg (fun z : Int => some (Value.int (iZ z))) (by rfl)) (by rfl) (by rfl)
      · exact absurd (of_decide_eq_true h20) (by omega)

set_option maxHeartbeats 4000000 in
set_option maxRecDepth 100000 in
theorem c_X5_nth_bad1 (l : Launch) (D : va_G) (cJ : ClassId) (o a : Nat) (c : Nat → Nat) (th : Int) (ac : Int32) (re : Int32) (kn : Int32) (d : Int) (r : Int) (z : Int) (r9d : -2147483648 ≤ d ∧ d ≤ 2147483647) (r9r : -2147483648 ≤ r ∧ r ≤ 2147483647) (r9z : -2147483648 ≤ z ∧ z ≤ 2147483647) (hbad : ¬ ((0 ≤ z ∧ z ≤ 5))) : zA l yX5_nth 2 70 0 0 D 4 cJ o a [.int (iZ (d)), .int (iZ (r)), .int (iZ (z))] c [.int (iZ (th)), .int (ac), .int (re), .int (kn)] (fun v => v = some (.int (iZ (0)))) (c) [.int (iZ (1)), .int (ac), .int (re), .int (kn)] := by
  refine zA.intro (lo := 44) (nA := 3) (own := RX5) zi_X5_nth (by decide) rfl rfl (by decide +kernel) rfl (Nat.le_of_ble_eq_true rfl) ?_
  intro p e s m below meth c0 ls C hr hk B hl
  have hl : lv_has ls 7 [(0, .ref o), (1, .int (iZ (d))), (2, .int (iZ (r))), (3, .int (iZ (z)))] := hl
  refine lv_aload_n C.1 C.2.1 dX5_nth_0 rfl (lv_at hl 0 rfl) ?_
  refine lv_iload_n C.1 C.2.1 dX5_nth_1 rfl (lv_at hl 3 rfl) ?_
  refine z_call C (c_X5_isNo l (z) (by first | assumption | omega | rfl | exact decide_eq_false (by omega) | exact decide_eq_true (by assumption) | exact decide_eq_true (by omega) | exact one_shl33 (by omega) | exact pm_lt _ _ | exact rm_lt (by first | assumption | exact pm_lt _ _) | exact Nat.lt_of_le_of_lt (Nat.shiftRight_le _ _) (by assumption) | exact Nat.lt_of_le_of_lt Nat.and_le_right (by omega))) ml_X5_67 ⟨by decide, by decide⟩ ⟨Nat.le_of_ble_eq_true rfl, Nat.le_of_ble_eq_true rfl⟩ hl (Nat.le_of_ble_eq_true rfl) rfl dX5_nth_2 ?_
  refine z_iconst C dX5_nth_5 ?_
  refine zo_callD C B (r := some (.int (iZ (zB (true))))) (c_X5_start_bad l D cJ o a (c) (th) (ac) (re) (kn) (decide (¬ (0 ≤ (z) ∧ (z) ≤ 5))) (1 : Int) (by first | assumption | omega | rfl | exact decide_eq_false (by omega) | exact decide_eq_true (by assumption) | exact decide_eq_true (by omega) | exact one_shl33 (by omega) | exact pm_lt _ _ | exact rm_lt (by first | assumption | exact pm_lt _ _) | exact Nat.lt_of_le_of_lt (Nat.shiftRight_le _ _) (by assumption) | exact Nat.lt_of_le_of_lt Nat.and_le_right (by omega)) (by first | assumption | omega | rfl | exact decide_eq_false (by omega) | exact decide_eq_true (by assumption) | exact decide_eq_true (by omega) | exact one_shl33 (by omega) | exact pm_lt _ _ | exact rm_lt (by first | assumption | exact pm_lt _ _) | exact Nat.lt_of_le_of_lt (Nat.shiftRight_le _ _) (by assumption) | exact Nat.lt_of_le_of_lt Nat.and_le_right (by omega))) ml_X5_71 rfl ⟨Nat.le_of_ble_eq_true rfl, Nat.le_of_ble_eq_true rfl⟩ ⟨Nat.le_of_ble_eq_true rfl, Nat.le_of_ble_eq_true rfl⟩ hl (Nat.le_of_ble_eq_true rfl) rfl dX5_nth_6 (fun H locs B => ?_)
  refine z_ifB_ne (tgt := 45) C dX5_nth_9 (by decide) (fun h9 => ?_) (fun h9 => ?_)
  · refine z_iconst C dX5_nth_45 ?_
    exact zo_iret C B hr hk (Nat.le_of_ble_eq_true rfl) (Nat.le_of_ble_eq_true rfl) dX5_nth_46 (by exact congrArg (fun z : Int => some (Value.int (iZ z))) (by rfl)) (by rfl) (by rfl)
  · exact absurd h9 (by decide)

set_option maxHeartbeats 4000000 in
set_option maxRecDepth 100000 in
theorem c_X5_nth_bad2 (l : Launch) (D : va_G) (cJ : ClassId) (o a : Nat) (c : Nat → Nat) (th : Int) (ac : Int32) (re : Int32) (kn : Int32) (d : Int) (r : Int) (z : Int) (r9d : -2147483648 ≤ d ∧ d ≤ 2147483647) (r9r : -2147483648 ≤ r ∧ r ≤ 2147483647) (r9z : -2147483648 ≤ z ∧ z ≤ 2147483647) (hcel : (0 ≤ z ∧ z ≤ 5)) (hbad : ¬ ((1 ≤ d ∧ d ≤ 8) ∧ (0 ≤ r ∧ r ≤ 40))) : zA l yX5_nth 2 70 0 0 D 4 cJ o a [.int (iZ (d)), .int (iZ (r)), .int (iZ (z))] c [.int (iZ (th)), .int (ac), .int (re), .int (kn)] (fun v => v = some (.int (iZ (0)))) (c) [.int (iZ (2)), .int (ac), .int (re), .int (kn)] := by
  refine zA.intro (lo := 44) (nA := 3) (own := RX5) zi_X5_nth (by decide) rfl rfl (by decide +kernel) rfl (Nat.le_of_ble_eq_true rfl) ?_
  intro p e s m below meth c0 ls C hr hk B hl
  have hl : lv_has ls 7 [(0, .ref o), (1, .int (iZ (d))), (2, .int (iZ (r))), (3, .int (iZ (z)))] := hl
  refine lv_aload_n C.1 C.2.1 dX5_nth_0 rfl (lv_at hl 0 rfl) ?_
  refine lv_iload_n C.1 C.2.1 dX5_nth_1 rfl (lv_at hl 3 rfl) ?_
  refine z_call C (c_X5_isNo l (z) (by first | assumption | omega | rfl | exact decide_eq_false (by omega) | exact decide_eq_true (by assumption) | exact decide_eq_true (by omega) | exact one_shl33 (by omega) | exact pm_lt _ _ | exact rm_lt (by first | assumption | exact pm_lt _ _) | exact Nat.lt_of_le_of_lt (Nat.shiftRight_le _ _) (by assumption) | exact Nat.lt_of_le_of_lt Nat.and_le_right (by omega))) ml_X5_67 ⟨by decide, by decide⟩ ⟨Nat.le_of_ble_eq_true rfl, Nat.le_of_ble_eq_true rfl⟩ hl (Nat.le_of_ble_eq_true rfl) rfl dX5_nth_2 ?_
  refine z_iconst C dX5_nth_5 ?_
  refine zo_callD C B (r := some (.int (iZ (zB (false))))) (c_X5_start_ok l D cJ o a (c) (th) (ac) (re) (kn) (decide (¬ (0 ≤ (z) ∧ (z) ≤ 5))) (1 : Int) (by first | assumption | omega | rfl | exact decide_eq_false (by omega) | exact decide_eq_true (by assumption) | exact decide_eq_true (by omega) | exact one_shl33 (by omega) | exact pm_lt _ _ | exact rm_lt (by first | assumption | exact pm_lt _ _) | exact Nat.lt_of_le_of_lt (Nat.shiftRight_le _ _) (by assumption) | exact Nat.lt_of_le_of_lt Nat.and_le_right (by omega))) ml_X5_71 rfl ⟨Nat.le_of_ble_eq_true rfl, Nat.le_of_ble_eq_true rfl⟩ ⟨Nat.le_of_ble_eq_true rfl, Nat.le_of_ble_eq_true rfl⟩ hl (Nat.le_of_ble_eq_true rfl) rfl dX5_nth_6 (fun H locs B => ?_)
  refine z_ifB_ne (tgt := 45) C dX5_nth_9 (by decide) (fun h9 => ?_) (fun h9 => ?_)
  · exact absurd h9 (by decide)
  · refine lv_aload_n C.1 C.2.1 dX5_nth_12 rfl (lv_at hl 0 rfl) ?_
    refine lv_iload_n C.1 C.2.1 dX5_nth_13 rfl (lv_at hl 1 rfl) ?_
    refine z_iconst C dX5_nth_14 ?_
    refine z_bipush C dX5_nth_15 (by decide) ?_
    refine z_call C (c_X5_isIn l (d) (1 : Int) (8 : Int) (by first | assumption | omega | rfl | exact decide_eq_false (by omega) | exact decide_eq_true (by assumption) | exact decide_eq_true (by omega) | exact one_shl33 (by omega) | exact pm_lt _ _ | exact rm_lt (by first | assumption | exact pm_lt _ _) | exact Nat.lt_of_le_of_lt (Nat.shiftRight_le _ _) (by assumption) | exact Nat.lt_of_le_of_lt Nat.and_le_right (by omega)) (by first | assumption | omega | rfl | exact decide_eq_false (by omega) | exact decide_eq_true (by assumption) | exact decide_eq_true (by omega) | exact one_shl33 (by omega) | exact pm_lt _ _ | exact rm_lt (by first | assumption | exact pm_lt _ _) | exact Nat.lt_of_le_of_lt (Nat.shiftRight_le _ _) (by assumption) | exact Nat.lt_of_le_of_lt Nat.and_le_right (by omega)) (by first | assumption | omega | rfl | exact decide_eq_false (by omega) | exact decide_eq_true (by assumption) | exact decide_eq_true (by omega) | exact one_shl33 (by omega) | exact pm_lt _ _ | exact rm_lt (by first | assumption | exact pm_lt _ _) | exact Nat.lt_of_le_of_lt (Nat.shiftRight_le _ _) (by assumption) | exact Nat.lt_of_le_of_lt Nat.and_le_right (by omega))) ml_X5_21 ⟨by decide, by decide⟩ ⟨Nat.le_of_ble_eq_true rfl, Nat.le_of_ble_eq_true rfl⟩ hl (Nat.le_of_ble_eq_true rfl) rfl dX5_nth_17 ?_
    refine z_ifB_eq (tgt := 33) C dX5_nth_20 (by decide) (fun h20 => ?_) (fun h20 => ?_)
    · have g20 := of_decide_eq_false h20
      refine z_iconst C dX5_nth_33 ?_
      refine lv_goto (tgt := 38) C.1 C.2.1 dX5_nth_34 (by decide) ?_
      refine z_iconst C dX5_nth_38 ?_
      refine zo_callD C B (r := some (.int (iZ (zB (true))))) (c_X5_refuse_bad l D cJ o a (c) (0) ((ac)) ((re)) ((kn)) (true) (2 : Int) (by first | assumption | omega | rfl | exact decide_eq_false (by omega) | exact decide_eq_true (by assumption) | exact decide_eq_true (by omega) | exact one_shl33 (by omega) | exact pm_lt _ _ | exact rm_lt (by first | assumption | exact pm_lt _ _) | exact Nat.lt_of_le_of_lt (Nat.shiftRight_le _ _) (by assumption) | exact Nat.lt_of_le_of_lt Nat.and_le_right (by omega)) (by first | assumption | omega | rfl | exact decide_eq_false (by omega) | exact decide_eq_true (by assumption) | exact decide_eq_true (by omega) | exact one_shl33 (by omega) | exact pm_lt _ _ | exact rm_lt (by first | assumption | exact pm_lt _ _) | exact Nat.lt_of_le_of_lt (Nat.shiftRight_le _ _) (by assumption) | exact Nat.lt_of_le_of_lt Nat.and_le_right (by omega)) (by first | assumption | omega | rfl | exact decide_eq_false (by omega) | exact decide_eq_true (by assumption) | exact decide_eq_true (by omega) | exact one_shl33 (by omega) | exact pm_lt _ _ | exact rm_lt (by first | assumption | exact pm_lt _ _) | exact Nat.lt_of_le_of_lt (Nat.shiftRight_le _ _) (by assumption) | exact Nat.lt_of_le_of_lt Nat.and_le_right (by omega))) ml_X5_17 rfl ⟨Nat.le_of_ble_eq_true rfl, Nat.le_of_ble_eq_true rfl⟩ ⟨Nat.le_of_ble_eq_true rfl, Nat.le_of_ble_eq_true rfl⟩ hl (Nat.le_of_ble_eq_true rfl) rfl dX5_nth_39 (fun H locs B => ?_)
      refine z_ifB_eq (tgt := 47) C dX5_nth_42 (by decide) (fun h42 => ?_) (fun h42 => ?_)
      · exact absurd h42 (by decide)
      · refine z_iconst C dX5_nth_45 ?_
        exact zo_iret C B hr hk (Nat.le_of_ble_eq_true rfl) (Nat.le_of_ble_eq_true rfl) dX5_nth_46 (by exact congrArg (fun z : Int => some (Value.int (iZ z))) (by rfl)) (by rfl) (by rfl)
    · have g20 := of_decide_eq_true h20
      refine lv_iload_n C.1 C.2.1 dX5_nth_23 rfl (lv_at hl 2 rfl) ?_
      refine z_iconst C dX5_nth_24 ?_
      refine z_bipush C dX5_nth_25 (by decide) ?_
      refine z_call C (c_X5_isIn l (r) (0 : Int) (40 : Int) (by first | assumption | omega | rfl | exact decide_eq_false (by omega) | exact decide_eq_true (by assumption) | exact decide_eq_true (by omega) | exact one_shl33 (by omega) | exact pm_lt _ _ | exact rm_lt (by first | assumption | exact pm_lt _ _) | exact Nat.lt_of_le_of_lt (Nat.shiftRight_le _ _) (by assumption) | exact Nat.lt_of_le_of_lt Nat.and_le_right (by omega)) (by first | assumption | omega | rfl | exact decide_eq_false (by omega) | exact decide_eq_true (by assumption) | exact decide_eq_true (by omega) | exact one_shl33 (by omega) | exact pm_lt _ _ | exact rm_lt (by first | assumption | exact pm_lt _ _) | exact Nat.lt_of_le_of_lt (Nat.shiftRight_le _ _) (by assumption) | exact Nat.lt_of_le_of_lt Nat.and_le_right (by omega)) (by first | assumption | omega | rfl | exact decide_eq_false (by omega) | exact decide_eq_true (by assumption) | exact decide_eq_true (by omega) | exact one_shl33 (by omega) | exact pm_lt _ _ | exact rm_lt (by first | assumption | exact pm_lt _ _) | exact Nat.lt_of_le_of_lt (Nat.shiftRight_le _ _) (by assumption) | exact Nat.lt_of_le_of_lt Nat.and_le_right (by omega))) ml_X5_21 ⟨by decide, by decide⟩ ⟨Nat.le_of_ble_eq_true rfl, Nat.le_of_ble_eq_true rfl⟩ hl (Nat.le_of_ble_eq_true rfl) rfl dX5_nth_27 ?_
      refine z_ifB_ne (tgt := 37) C dX5_nth_30 (by decide) (fun h30 => ?_) (fun h30 => ?_)
      · have g30 := of_decide_eq_true h30
        refine z_iconst C dX5_nth_37 ?_
        refine z_iconst C dX5_nth_38 ?_
        exfalso; omega
      · have g30 := of_decide_eq_false h30
        refine z_iconst C dX5_nth_33 ?_
        refine lv_goto (tgt := 38) C.1 C.2.1 dX5_nth_34 (by decide) ?_
        refine z_iconst C dX5_nth_38 ?_
        refine zo_callD C B (r := some (.int (iZ (zB (true))))) (c_X5_refuse_bad l D cJ o a (c) (0) ((ac)) ((re)) ((kn)) (true) (2 : Int) (by first | assumption | omega | rfl | exact decide_eq_false (by omega) | exact decide_eq_true (by assumption) | exact decide_eq_true (by omega) | exact one_shl33 (by omega) | exact pm_lt _ _ | exact rm_lt (by first | assumption | exact pm_lt _ _) | exact Nat.lt_of_le_of_lt (Nat.shiftRight_le _ _) (by assumption) | exact Nat.lt_of_le_of_lt Nat.and_le_right (by omega)) (by first | assumption | omega | rfl | exact decide_eq_false (by omega) | exact decide_eq_true (by assumption) | exact decide_eq_true (by omega) | exact one_shl33 (by omega) | exact pm_lt _ _ | exact rm_lt (by first | assumption | exact pm_lt _ _) | exact Nat.lt_of_le_of_lt (Nat.shiftRight_le _ _) (by assumption) | exact Nat.lt_of_le_of_lt Nat.and_le_right (by omega)) (by first | assumption | omega | rfl | exact decide_eq_false (by omega) | exact decide_eq_true (by assumption) | exact decide_eq_true (by omega) | exact one_shl33 (by omega) | exact pm_lt _ _ | exact rm_lt (by first | assumption | exact pm_lt _ _) | exact Nat.lt_of_le_of_lt (Nat.shiftRight_le _ _) (by assumption) | exact Nat.lt_of_le_of_lt Nat.and_le_right (by omega))) ml_X5_17 rfl ⟨Nat.le_of_ble_eq_true rfl, Nat.le_of_ble_eq_true rfl⟩ ⟨Nat.le_of_ble_eq_true rfl, Nat.le_of_ble_eq_true rfl⟩ hl (Nat.le_of_ble_eq_true rfl) rfl dX5_nth_39 (fun H locs B => ?_)
        refine z_ifB_eq (tgt := 47) C dX5_nth_42 (by decide) (fun h42 => ?_) (fun h42 => ?_)
        · exact absurd h42 (by decide)
        · refine z_iconst C dX5_nth_45 ?_
          exact zo_iret C B hr hk (Nat.le_of_ble_eq_true rfl) (Nat.le_of_ble_eq_true rfl) dX5_nth_46 (by exact congrArg (fun z : Int => some (Value.int (iZ z))) (by rfl)) (by rfl) (by rfl)

set_option maxHeartbeats 4000000 in
set_option maxRecDepth 100000 in
theorem c_X5_field_bad1 (l : Launch) (D : va_G) (cJ : ClassId) (o a : Nat) (c : Nat → Nat) (th : Int) (ac : Int32) (re : Int32) (kn : Int32) (n : Int) (z : Int) (r9n : -2147483648 ≤ n ∧ n ≤ 2147483647) (r9z : -2147483648 ≤ z ∧ z ≤ 2147483647) (hbad : ¬ ((0 ≤ z ∧ z ≤ 5))) : zA l yX5_field 2 70 0 0 D 4 cJ o a [.int (iZ (n)), .int (iZ (z))] c [.int (iZ (th)), .int (ac), .int (re), .int (kn)] (fun v => v = some (.int (iZ (0)))) (c) [.int (iZ (1)), .int (ac), .int (re), .int (kn)] := by
  refine zA.intro (lo := 44) (nA := 2) (own := RX5) zi_X5_field (by decide) rfl rfl (by decide +kernel) rfl (Nat.le_of_ble_eq_true rfl) ?_
  intro p e s m below meth c0 ls C hr hk B hl
  have hl : lv_has ls 7 [(0, .ref o), (1, .int (iZ (n))), (2, .int (iZ (z)))] := hl
  refine lv_aload_n C.1 C.2.1 dX5_field_0 rfl (lv_at hl 0 rfl) ?_
  refine lv_iload_n C.1 C.2.1 dX5_field_1 rfl (lv_at hl 2 rfl) ?_
  refine z_call C (c_X5_isNo l (z) (by first | assumption | omega | rfl | exact decide_eq_false (by omega) | exact decide_eq_true (by assumption) | exact decide_eq_true (by omega) | exact one_shl33 (by omega) | exact pm_lt _ _ | exact rm_lt (by first | assumption | exact pm_lt _ _) | exact Nat.lt_of_le_of_lt (Nat.shiftRight_le _ _) (by assumption) | exact Nat.lt_of_le_of_lt Nat.and_le_right (by omega))) ml_X5_67 ⟨by decide, by decide⟩ ⟨Nat.le_of_ble_eq_true rfl, Nat.le_of_ble_eq_true rfl⟩ hl (Nat.le_of_ble_eq_true rfl) rfl dX5_field_2 ?_
  refine z_iconst C dX5_field_5 ?_
  refine zo_callD C B (r := some (.int (iZ (zB (true))))) (c_X5_start_bad l D cJ o a (c) (th) (ac) (re) (kn) (decide (¬ (0 ≤ (z) ∧ (z) ≤ 5))) (1 : Int) (by first | assumption | omega | rfl | exact decide_eq_false (by omega) | exact decide_eq_true (by assumption) | exact decide_eq_true (by omega) | exact one_shl33 (by omega) | exact pm_lt _ _ | exact rm_lt (by first | assumption | exact pm_lt _ _) | exact Nat.lt_of_le_of_lt (Nat.shiftRight_le _ _) (by assumption) | exact Nat.lt_of_le_of_lt Nat.and_le_right (by omega)) (by first | assumption | omega | rfl | exact decide_eq_false (by omega) | exact decide_eq_true (by assumption) | exact decide_eq_true (by omega) | exact one_shl33 (by omega) | exact pm_lt _ _ | exact rm_lt (by first | assumption | exact pm_lt _ _) | exact Nat.lt_of_le_of_lt (Nat.shiftRight_le _ _) (by assumption) | exact Nat.lt_of_le_of_lt Nat.and_le_right (by omega))) ml_X5_71 rfl ⟨Nat.le_of_ble_eq_true rfl, Nat.le_of_ble_eq_true rfl⟩ ⟨Nat.le_of_ble_eq_true rfl, Nat.le_of_ble_eq_true rfl⟩ hl (Nat.le_of_ble_eq_true rfl) rfl dX5_field_6 (fun H locs B => ?_)
  refine z_ifB_ne (tgt := 34) C dX5_field_9 (by decide) (fun h9 => ?_) (fun h9 => ?_)
  · refine z_iconst C dX5_field_34 ?_
    exact zo_iret C B hr hk (Nat.le_of_ble_eq_true rfl) (Nat.le_of_ble_eq_true rfl) dX5_field_35 (by exact congrArg (fun z : Int => some (Value.int (iZ z))) (by rfl)) (by rfl) (by rfl)
  · exact absurd h9 (by decide)

set_option maxHeartbeats 4000000 in
set_option maxRecDepth 100000 in
theorem c_X5_field_bad2 (l : Launch) (D : va_G) (cJ : ClassId) (o a : Nat) (c : Nat → Nat) (th : Int) (ac : Int32) (re : Int32) (kn : Int32) (n : Int) (z : Int) (r9n : -2147483648 ≤ n ∧ n ≤ 2147483647) (r9z : -2147483648 ≤ z ∧ z ≤ 2147483647) (hcel : (0 ≤ z ∧ z ≤ 5)) (hbad : ¬ ((1 ≤ n ∧ n ≤ 5))) : zA l yX5_field 2 70 0 0 D 4 cJ o a [.int (iZ (n)), .int (iZ (z))] c [.int (iZ (th)), .int (ac), .int (re), .int (kn)] (fun v => v = some (.int (iZ (0)))) (c) [.int (iZ (2)), .int (ac), .int (re), .int (kn)] := by
  refine zA.intro (lo := 44) (nA := 2) (own := RX5) zi_X5_field (by decide) rfl rfl (by decide +kernel) rfl (Nat.le_of_ble_eq_true rfl) ?_
  intro p e s m below meth c0 ls C hr hk B hl
  have hl : lv_has ls 7 [(0, .ref o), (1, .int (iZ (n))), (2, .int (iZ (z)))] := hl
  refine lv_aload_n C.1 C.2.1 dX5_field_0 rfl (lv_at hl 0 rfl) ?_
  refine lv_iload_n C.1 C.2.1 dX5_field_1 rfl (lv_at hl 2 rfl) ?_
  refine z_call C (c_X5_isNo l (z) (by first | assumption | omega | rfl | exact decide_eq_false (by omega) | exact decide_eq_true (by assumption) | exact decide_eq_true (by omega) | exact one_shl33 (by omega) | exact pm_lt _ _ | exact rm_lt (by first | assumption | exact pm_lt _ _) | exact Nat.lt_of_le_of_lt (Nat.shiftRight_le _ _) (by assumption) | exact Nat.lt_of_le_of_lt Nat.and_le_right (by omega))) ml_X5_67 ⟨by decide, by decide⟩ ⟨Nat.le_of_ble_eq_true rfl, Nat.le_of_ble_eq_true rfl⟩ hl (Nat.le_of_ble_eq_true rfl) rfl dX5_field_2 ?_
  refine z_iconst C dX5_field_5 ?_
  refine zo_callD C B (r := some (.int (iZ (zB (false))))) (c_X5_start_ok l D cJ o a (c) (th) (ac) (re) (kn) (decide (¬ (0 ≤ (z) ∧ (z) ≤ 5))) (1 : Int) (by first | assumption | omega | rfl | exact decide_eq_false (by omega) | exact decide_eq_true (by assumption) | exact decide_eq_true (by omega) | exact one_shl33 (by omega) | exact pm_lt _ _ | exact rm_lt (by first | assumption | exact pm_lt _ _) | exact Nat.lt_of_le_of_lt (Nat.shiftRight_le _ _) (by assumption) | exact Nat.lt_of_le_of_lt Nat.and_le_right (by omega))) ml_X5_71 rfl ⟨Nat.le_of_ble_eq_true rfl, Nat.le_of_ble_eq_true rfl⟩ ⟨Nat.le_of_ble_eq_true rfl, Nat.le_of_ble_eq_true rfl⟩ hl (Nat.le_of_ble_eq_true rfl) rfl dX5_field_6 (fun H locs B => ?_)
  refine z_ifB_ne (tgt := 34) C dX5_field_9 (by decide) (fun h9 => ?_) (fun h9 => ?_)
  · exact absurd h9 (by decide)
  · refine lv_aload_n C.1 C.2.1 dX5_field_12 rfl (lv_at hl 0 rfl) ?_
    refine lv_iload_n C.1 C.2.1 dX5_field_13 rfl (lv_at hl 1 rfl) ?_
    refine z_iconst C dX5_field_14 ?_
    refine z_iconst C dX5_field_15 ?_
    refine z_call C (c_X5_isIn l (n) (1 : Int) (5 : Int) (by first | assumption | omega | rfl | exact decide_eq_false (by omega) | exact decide_eq_true (by assumption) | exact decide_eq_true (by omega) | exact one_shl33 (by omega) | exact pm_lt _ _ | exact rm_lt (by first | assumption | exact pm_lt _ _) | exact Nat.lt_of_le_of_lt (Nat.shiftRight_le _ _) (by assumption) | exact Nat.lt_of_le_of_lt Nat.and_le_right (by omega)) (by first | assumption | omega | rfl | exact decide_eq_false (by omega) | exact decide_eq_true (by assumption) | exact decide_eq_true (by omega) | exact one_shl33 (by omega) | exact pm_lt _ _ | exact rm_lt (by first | assumption | exact pm_lt _ _) | exact Nat.lt_of_le_of_lt (Nat.shiftRight_le _ _) (by assumption) | exact Nat.lt_of_le_of_lt Nat.and_le_right (by omega)) (by first | assumption | omega | rfl | exact decide_eq_false (by omega) | exact decide_eq_true (by assumption) | exact decide_eq_true (by omega) | exact one_shl33 (by omega) | exact pm_lt _ _ | exact rm_lt (by first | assumption | exact pm_lt _ _) | exact Nat.lt_of_le_of_lt (Nat.shiftRight_le _ _) (by assumption) | exact Nat.lt_of_le_of_lt Nat.and_le_right (by omega))) ml_X5_21 ⟨by decide, by decide⟩ ⟨Nat.le_of_ble_eq_true rfl, Nat.le_of_ble_eq_true rfl⟩ hl (Nat.le_of_ble_eq_true rfl) rfl dX5_field_16 ?_
    refine z_ifB_ne (tgt := 26) C dX5_field_19 (by decide) (fun h19 => ?_) (fun h19 => ?_)
    · have g19 := of_decide_eq_true h19
      refine z_iconst C dX5_field_26 ?_
      refine z_iconst C dX5_field_27 ?_
      exfalso; omega
    · have g19 := of_decide_eq_false h19
      refine z_iconst C dX5_field_22 ?_
      refine lv_goto (tgt := 27) C.1 C.2.1 dX5_field_23 (by decide) ?_
      refine z_iconst C dX5_field_27 ?_
      refine zo_callD C B (r := some (.int (iZ (zB (true))))) (c_X5_refuse_bad l D cJ o a (c) (0) ((ac)) ((re)) ((kn)) (true) (2 : Int) (by first | assumption | omega | rfl | exact decide_eq_false (by omega) | exact decide_eq_true (by assumption) | exact decide_eq_true (by omega) | exact one_shl33 (by omega) | exact pm_lt _ _ | exact rm_lt (by first | assumption | exact pm_lt _ _) | exact Nat.lt_of_le_of_lt (Nat.shiftRight_le _ _) (by assumption) | exact Nat.lt_of_le_of_lt Nat.and_le_right (by omega)) (by first | assumption | omega | rfl | exact decide_eq_false (by omega) | exact decide_eq_true (by assumption) | exact decide_eq_true (by omega) | exact one_shl33 (by omega) | exact pm_lt _ _ | exact rm_lt (by first | assumption | exact pm_lt _ _) | exact Nat.lt_of_le_of_lt (Nat.shiftRight_le _ _) (by assumption) | exact Nat.lt_of_le_of_lt Nat.and_le_right (by omega)) (by first | assumption | omega | rfl | exact decide_eq_false (by omega) | exact decide_eq_true (by assumption) | exact decide_eq_true (by omega) | exact one_shl33 (by omega) | exact pm_lt _ _ | exact rm_lt (by first | assumption | exact pm_lt _ _) | exact Nat.lt_of_le_of_lt (Nat.shiftRight_le _ _) (by assumption) | exact Nat.lt_of_le_of_lt Nat.and_le_right (by omega))) ml_X5_17 rfl ⟨Nat.le_of_ble_eq_true rfl, Nat.le_of_ble_eq_true rfl⟩ ⟨Nat.le_of_ble_eq_true rfl, Nat.le_of_ble_eq_true rfl⟩ hl (Nat.le_of_ble_eq_true rfl) rfl dX5_field_28 (fun H locs B => ?_)
      refine z_ifB_eq (tgt := 36) C dX5_field_31 (by decide) (fun h31 => ?_) (fun h31 => ?_)
      · exact absurd h31 (by decide)
      · refine z_iconst C dX5_field_34 ?_
        exact zo_iret C B hr hk (Nat.le_of_ble_eq_true rfl) (Nat.le_of_ble_eq_true rfl) dX5_field_35 (by exact congrArg (fun z : Int => some (Value.int (iZ z))) (by rfl)) (by rfl) (by rfl)

set_option maxHeartbeats 4000000 in
set_option maxRecDepth 100000 in
theorem c_X5_again_bad1 (l : Launch) (D : va_G) (cJ : ClassId) (o a : Nat) (c : Nat → Nat) (th : Int) (ac : Int32) (re : Int32) (kn : Int32) (f : Int) (r : Int) (z : Int) (r9f : -2147483648 ≤ f ∧ f ≤ 2147483647) (r9r : -2147483648 ≤ r ∧ r ≤ 2147483647) (r9z : -2147483648 ≤ z ∧ z ≤ 2147483647) (hbad : ¬ ((0 ≤ f ∧ f ≤ 5) ∧ (0 ≤ z ∧ z ≤ 5))) : zA l yX5_again 2 67 0 0 D 4 cJ o a [.int (iZ (f)), .int (iZ (r)), .int (iZ (z))] c [.int (iZ (th)), .int (ac), .int (re), .int (kn)] (fun v => v = some (.int (iZ (0)))) (c) [.int (iZ (1)), .int (ac), .int (re), .int (kn)] := by
  refine zA.intro (lo := 44) (nA := 3) (own := RX5) zi_X5_again (by decide) rfl rfl (by decide +kernel) rfl (Nat.le_of_ble_eq_true rfl) ?_
  intro p e s m below meth c0 ls C hr hk B hl
  have hl : lv_has ls 4 [(0, .ref o), (1, .int (iZ (f))), (2, .int (iZ (r))), (3, .int (iZ (z)))] := hl
  refine lv_aload_n C.1 C.2.1 dX5_again_0 rfl (lv_at hl 0 rfl) ?_
  refine lv_iload_n C.1 C.2.1 dX5_again_1 rfl (lv_at hl 1 rfl) ?_
  refine z_call C (c_X5_isNo l (f) (by first | assumption | omega | rfl | exact decide_eq_false (by omega) | exact decide_eq_true (by assumption) | exact decide_eq_true (by omega) | exact one_shl33 (by omega) | exact pm_lt _ _ | exact rm_lt (by first | assumption | exact pm_lt _ _) | exact Nat.lt_of_le_of_lt (Nat.shiftRight_le _ _) (by assumption) | exact Nat.lt_of_le_of_lt Nat.and_le_right (by omega))) ml_X5_67 ⟨by decide, by decide⟩ ⟨Nat.le_of_ble_eq_true rfl, Nat.le_of_ble_eq_true rfl⟩ hl (Nat.le_of_ble_eq_true rfl) rfl dX5_again_2 ?_
  refine z_ifB_ne (tgt := 15) C dX5_again_5 (by decide) (fun h5 => ?_) (fun h5 => ?_)
  · have g5 := of_decide_eq_true h5
    refine z_iconst C dX5_again_15 ?_
    refine lv_goto (tgt := 20) C.1 C.2.1 dX5_again_16 (by decide) ?_
    refine z_iconst C dX5_again_20 ?_
    refine zo_callD C B (r := some (.int (iZ (zB (true))))) (c_X5_start_bad l D cJ o a (c) (th) (ac) (re) (kn) (true) (1 : Int) (by first | assumption | omega | rfl | exact decide_eq_false (by omega) | exact decide_eq_true (by assumption) | exact decide_eq_true (by omega) | exact one_shl33 (by omega) | exact pm_lt _ _ | exact rm_lt (by first | assumption | exact pm_lt _ _) | exact Nat.lt_of_le_of_lt (Nat.shiftRight_le _ _) (by assumption) | exact Nat.lt_of_le_of_lt Nat.and_le_right (by omega)) (by first | assumption | omega | rfl | exact decide_eq_false (by omega) | exact decide_eq_true (by assumption) | exact decide_eq_true (by omega) | exact one_shl33 (by omega) | exact pm_lt _ _ | exact rm_lt (by first | assumption | exact pm_lt _ _) | exact Nat.lt_of_le_of_lt (Nat.shiftRight_le _ _) (by assumption) | exact Nat.lt_of_le_of_lt Nat.and_le_right (by omega))) ml_X5_71 rfl ⟨Nat.le_of_ble_eq_true rfl, Nat.le_of_ble_eq_true rfl⟩ ⟨Nat.le_of_ble_eq_true rfl, Nat.le_of_ble_eq_true rfl⟩ hl (Nat.le_of_ble_eq_true rfl) rfl dX5_again_21 (fun H locs B => ?_)
    refine z_ifB_ne (tgt := 50) C dX5_again_24 (by decide) (fun h24 => ?_) (fun h24 => ?_)
    · refine z_iconst C dX5_again_50 ?_
      refine lv_goto (tgt := 65) C.1 C.2.1 dX5_again_51 (by decide) ?_
      exact zo_iret C B hr hk (Nat.le_of_ble_eq_true rfl) (Nat.le_of_ble_eq_true rfl) dX5_again_65 (by exact congrArg (fun z : Int => some (Value.int (iZ z))) (by rfl)) (by rfl) (by rfl)
    · exact absurd h24 (by decide)
  · have g5 := of_decide_eq_false h5
    refine lv_iload_n C.1 C.2.1 dX5_again_8 rfl (lv_at hl 3 rfl) ?_
    refine z_call C (c_X5_isNo l (z) (by first | assumption | omega | rfl | exact decide_eq_false (by omega) | exact decide_eq_true (by assumption) | exact decide_eq_true (by omega) | exact one_shl33 (by omega) | exact pm_lt _ _ | exact rm_lt (by first | assumption | exact pm_lt _ _) | exact Nat.lt_of_le_of_lt (Nat.shiftRight_le _ _) (by assumption) | exact Nat.lt_of_le_of_lt Nat.and_le_right (by omega))) ml_X5_67 ⟨by decide, by decide⟩ ⟨Nat.le_of_ble_eq_true rfl, Nat.le_of_ble_eq_true rfl⟩ hl (Nat.le_of_ble_eq_true rfl) rfl dX5_again_9 ?_
    refine z_ifB_eq (tgt := 19) C dX5_again_12 (by decide) (fun h12 => ?_) (fun h12 => ?_)
    · have g12 := of_decide_eq_false h12
      refine z_iconst C dX5_again_19 ?_
      refine z_iconst C dX5_again_20 ?_
      exfalso; omega
    · have g12 := of_decide_eq_true h12
      refine z_iconst C dX5_again_15 ?_
      refine lv_goto (tgt := 20) C.1 C.2.1 dX5_again_16 (by decide) ?_
      refine z_iconst C dX5_again_20 ?_
      refine zo_callD C B (r := some (.int (iZ (zB (true))))) (c_X5_start_bad l D cJ o a (c) (th) (ac) (re) (kn) (true) (1 : Int) (by first | assumption | omega | rfl | exact decide_eq_false (by omega) | exact decide_eq_true (by assumption) | exact decide_eq_true (by omega) | exact one_shl33 (by omega) | exact pm_lt _ _ | exact rm_lt (by first | assumption | exact pm_lt _ _) | exact Nat.lt_of_le_of_lt (Nat.shiftRight_le _ _) (by assumption) | exact Nat.lt_of_le_of_lt Nat.and_le_right (by omega)) (by first | assumption | omega | rfl | exact decide_eq_false (by omega) | exact decide_eq_true (by assumption) | exact decide_eq_true (by omega) | exact one_shl33 (by omega) | exact pm_lt _ _ | exact rm_lt (by first | assumption | exact pm_lt _ _) | exact Nat.lt_of_le_of_lt (Nat.shiftRight_le _ _) (by assumption) | exact Nat.lt_of_le_of_lt Nat.and_le_right (by omega))) ml_X5_71 rfl ⟨Nat.le_of_ble_eq_true rfl, Nat.le_of_ble_eq_true rfl⟩ ⟨Nat.le_of_ble_eq_true rfl, Nat.le_of_ble_eq_true rfl⟩ hl (Nat.le_of_ble_eq_true rfl) rfl dX5_again_21 (fun H locs B => ?_)
      refine z_ifB_ne (tgt := 50) C dX5_again_24 (by decide) (fun h24 => ?_) (fun h24 => ?_)
      · refine z_iconst C dX5_again_50 ?_
        refine lv_goto (tgt := 65) C.1 C.2.1 dX5_again_51 (by decide) ?_
        exact zo_iret C B hr hk (Nat.le_of_ble_eq_true rfl) (Nat.le_of_ble_eq_true rfl) dX5_again_65 (by exact congrArg (fun z : Int => some (Value.int (iZ z))) (by rfl)) (by rfl) (by rfl)
      · exact absurd h24 (by decide)

set_option maxHeartbeats 4000000 in
set_option maxRecDepth 100000 in
theorem c_X5_again_bad2 (l : Launch) (D : va_G) (cJ : ClassId) (o a : Nat) (c : Nat → Nat) (th : Int) (ac : Int32) (re : Int32) (kn : Int32) (f : Int) (r : Int) (z : Int) (r9f : -2147483648 ≤ f ∧ f ≤ 2147483647) (r9r : -2147483648 ≤ r ∧ r ≤ 2147483647) (r9z : -2147483648 ≤ z ∧ z ≤ 2147483647) (hcel : (0 ≤ f ∧ f ≤ 5) ∧ (0 ≤ z ∧ z ≤ 5)) (hbad : ¬ ((2 ≤ r ∧ r ≤ 36))) : zA l yX5_again 2 67 0 0 D 4 cJ o a [.int (iZ (f)), .int (iZ (r)), .int (iZ (z))] c [.int (iZ (th)), .int (ac), .int (re), .int (kn)] (fun v => v = some (.int (iZ (0)))) (c) [.int (iZ (2)), .int (ac), .int (re), .int (kn)] := by
  refine zA.intro (lo := 44) (nA := 3) (own := RX5) zi_X5_again (by decide) rfl rfl (by decide +kernel) rfl (Nat.le_of_ble_eq_true rfl) ?_
  intro p e s m below meth c0 ls C hr hk B hl
  have hl : lv_has ls 4 [(0, .ref o), (1, .int (iZ (f))), (2, .int (iZ (r))), (3, .int (iZ (z)))] := hl
  refine lv_aload_n C.1 C.2.1 dX5_again_0 rfl (lv_at hl 0 rfl) ?_
  refine lv_iload_n C.1 C.2.1 dX5_again_1 rfl (lv_at hl 1 rfl) ?_
  refine z_call C (c_X5_isNo l (f) (by first | assumption | omega | rfl | exact decide_eq_false (by omega) | exact decide_eq_true (by assumption) | exact decide_eq_true (by omega) | exact one_shl33 (by omega) | exact pm_lt _ _ | exact rm_lt (by first | assumption | exact pm_lt _ _) | exact Nat.lt_of_le_of_lt (Nat.shiftRight_le _ _) (by assumption) | exact Nat.lt_of_le_of_lt Nat.and_le_right (by omega))) ml_X5_67 ⟨by decide, by decide⟩ ⟨Nat.le_of_ble_eq_true rfl, Nat.le_of_ble_eq_true rfl⟩ hl (Nat.le_of_ble_eq_true rfl) rfl dX5_again_2 ?_
  refine z_ifB_ne (tgt := 15) C dX5_again_5 (by decide) (fun h5 => ?_) (fun h5 => ?_)
  · exact absurd (of_decide_eq_true h5) (by omega)
  · refine lv_iload_n C.1 C.2.1 dX5_again_8 rfl (lv_at hl 3 rfl) ?_
    refine z_call C (c_X5_isNo l (z) (by first | assumption | omega | rfl | exact decide_eq_false (by omega) | exact decide_eq_true (by assumption) | exact decide_eq_true (by omega) | exact one_shl33 (by omega) | exact pm_lt _ _ | exact rm_lt (by first | assumption | exact pm_lt _ _) | exact Nat.lt_of_le_of_lt (Nat.shiftRight_le _ _) (by assumption) | exact Nat.lt_of_le_of_lt Nat.and_le_right (by omega))) ml_X5_67 ⟨by decide, by decide⟩ ⟨Nat.le_of_ble_eq_true rfl, Nat.le_of_ble_eq_true rfl⟩ hl (Nat.le_of_ble_eq_true rfl) rfl dX5_again_9 ?_
    refine z_ifB_eq (tgt := 19) C dX5_again_12 (by decide) (fun h12 => ?_) (fun h12 => ?_)
    · refine z_iconst C dX5_again_19 ?_
      refine z_iconst C dX5_again_20 ?_
      refine zo_callD C B (r := some (.int (iZ (zB (false))))) (c_X5_start_ok l D cJ o a (c) (th) (ac) (re) (kn) (false) (1 : Int) (by first | assumption | omega | rfl | exact decide_eq_false (by omega) | exact decide_eq_true (by assumption) | exact decide_eq_true (by omega) | exact one_shl33 (by omega) | exact pm_lt _ _ | exact rm_lt (by first | assumption | exact pm_lt _ _) | exact Nat.lt_of_le_of_lt (Nat.shiftRight_le _ _) (by assumption) | exact Nat.lt_of_le_of_lt Nat.and_le_right (by omega))) ml_X5_71 rfl ⟨Nat.le_of_ble_eq_true rfl, Nat.le_of_ble_eq_true rfl⟩ ⟨Nat.le_of_ble_eq_true rfl, Nat.le_of_ble_eq_true rfl⟩ hl (Nat.le_of_ble_eq_true rfl) rfl dX5_again_21 (fun H locs B => ?_)
      refine z_ifB_ne (tgt := 50) C dX5_again_24 (by decide) (fun h24 => ?_) (fun h24 => ?_)
      · exact absurd h24 (by decide)
      · refine lv_aload_n C.1 C.2.1 dX5_again_27 rfl (lv_at hl 0 rfl) ?_
        refine lv_iload_n C.1 C.2.1 dX5_again_28 rfl (lv_at hl 2 rfl) ?_
        refine z_iconst C dX5_again_29 ?_
        refine z_bipush C dX5_again_30 (by decide) ?_
        refine z_call C (c_X5_isIn l (r) (2 : Int) (36 : Int) (by first | assumption | omega | rfl | exact decide_eq_false (by omega) | exact decide_eq_true (by assumption) | exact decide_eq_true (by omega) | exact one_shl33 (by omega) | exact pm_lt _ _ | exact rm_lt (by first | assumption | exact pm_lt _ _) | exact Nat.lt_of_le_of_lt (Nat.shiftRight_le _ _) (by assumption) | exact Nat.lt_of_le_of_lt Nat.and_le_right (by omega)) (by first | assumption | omega | rfl | exact decide_eq_false (by omega) | exact decide_eq_true (by assumption) | exact decide_eq_true (by omega) | exact one_shl33 (by omega) | exact pm_lt _ _ | exact rm_lt (by first | assumption | exact pm_lt _ _) | exact Nat.lt_of_le_of_lt (Nat.shiftRight_le _ _) (by assumption) | exact Nat.lt_of_le_of_lt Nat.and_le_right (by omega)) (by first | assumption | omega | rfl | exact decide_eq_false (by omega) | exact decide_eq_true (by assumption) | exact decide_eq_true (by omega) | exact one_shl33 (by omega) | exact pm_lt _ _ | exact rm_lt (by first | assumption | exact pm_lt _ _) | exact Nat.lt_of_le_of_lt (Nat.shiftRight_le _ _) (by assumption) | exact Nat.lt_of_le_of_lt Nat.and_le_right (by omega))) ml_X5_21 ⟨by decide, by decide⟩ ⟨Nat.le_of_ble_eq_true rfl, Nat.le_of_ble_eq_true rfl⟩ hl (Nat.le_of_ble_eq_true rfl) rfl dX5_again_32 ?_
        refine z_ifB_ne (tgt := 42) C dX5_again_35 (by decide) (fun h35 => ?_) (fun h35 => ?_)
        · have g35 := of_decide_eq_true h35
          refine z_iconst C dX5_again_42 ?_
          refine z_iconst C dX5_again_43 ?_
          exfalso; omega
        · have g35 := of_decide_eq_false h35
          refine z_iconst C dX5_again_38 ?_
          refine lv_goto (tgt := 43) C.1 C.2.1 dX5_again_39 (by decide) ?_
          refine z_iconst C dX5_again_43 ?_
          refine zo_callD C B (r := some (.int (iZ (zB (true))))) (c_X5_refuse_bad l D cJ o a (c) (0) ((ac)) ((re)) ((kn)) (true) (2 : Int) (by first | assumption | omega | rfl | exact decide_eq_false (by omega) | exact decide_eq_true (by assumption) | exact decide_eq_true (by omega) | exact one_shl33 (by omega) | exact pm_lt _ _ | exact rm_lt (by first | assumption | exact pm_lt _ _) | exact Nat.lt_of_le_of_lt (Nat.shiftRight_le _ _) (by assumption) | exact Nat.lt_of_le_of_lt Nat.and_le_right (by omega)) (by first | assumption | omega | rfl | exact decide_eq_false (by omega) | exact decide_eq_true (by assumption) | exact decide_eq_true (by omega) | exact one_shl33 (by omega) | exact pm_lt _ _ | exact rm_lt (by first | assumption | exact pm_lt _ _) | exact Nat.lt_of_le_of_lt (Nat.shiftRight_le _ _) (by assumption) | exact Nat.lt_of_le_of_lt Nat.and_le_right (by omega)) (by first | assumption | omega | rfl | exact decide_eq_false (by omega) | exact decide_eq_true (by assumption) | exact decide_eq_true (by omega) | exact one_shl33 (by omega) | exact pm_lt _ _ | exact rm_lt (by first | assumption | exact pm_lt _ _) | exact Nat.lt_of_le_of_lt (Nat.shiftRight_le _ _) (by assumption) | exact Nat.lt_of_le_of_lt Nat.and_le_right (by omega))) ml_X5_17 rfl ⟨Nat.le_of_ble_eq_true rfl, Nat.le_of_ble_eq_true rfl⟩ ⟨Nat.le_of_ble_eq_true rfl, Nat.le_of_ble_eq_true rfl⟩ hl (Nat.le_of_ble_eq_true rfl) rfl dX5_again_44 (fun H locs B => ?_)
          refine z_ifB_eq (tgt := 54) C dX5_again_47 (by decide) (fun h47 => ?_) (fun h47 => ?_)
          · exact absurd h47 (by decide)
          · refine z_iconst C dX5_again_50 ?_
            refine lv_goto (tgt := 65) C.1 C.2.1 dX5_again_51 (by decide) ?_
            exact zo_iret C B hr hk (Nat.le_of_ble_eq_true rfl) (Nat.le_of_ble_eq_true rfl) dX5_again_65 (by exact congrArg (fun z : Int => some (Value.int (iZ z))) (by rfl)) (by rfl) (by rfl)
    · exact absurd (of_decide_eq_true h12) (by omega)

set_option maxHeartbeats 4000000 in
set_option maxRecDepth 100000 in
theorem c_X5_degree_bad1 (l : Launch) (D : va_G) (cJ : ClassId) (o a : Nat) (c : Nat → Nat) (th : Int) (ac : Int32) (re : Int32) (kn : Int32) (z : Int) (r9z : -2147483648 ≤ z ∧ z ≤ 2147483647) (hbad : ¬ ((0 ≤ z ∧ z ≤ 5))) : zA l yX5_degree 2 65 0 0 D 4 cJ o a [.int (iZ (z))] c [.int (iZ (th)), .int (ac), .int (re), .int (kn)] (fun v => v = some (.int (iZ (0)))) (c) [.int (iZ (1)), .int (ac), .int (re), .int (kn)] := by
  refine zA.intro (lo := 44) (nA := 1) (own := RX5) zi_X5_degree (by decide) rfl rfl (by decide +kernel) rfl (Nat.le_of_ble_eq_true rfl) ?_
  intro p e s m below meth c0 ls C hr hk B hl
  have hl : lv_has ls 2 [(0, .ref o), (1, .int (iZ (z)))] := hl
  refine lv_aload_n C.1 C.2.1 dX5_degree_0 rfl (lv_at hl 0 rfl) ?_
  refine lv_iload_n C.1 C.2.1 dX5_degree_1 rfl (lv_at hl 1 rfl) ?_
  refine z_call C (c_X5_isNo l (z) (by first | assumption | omega | rfl | exact decide_eq_false (by omega) | exact decide_eq_true (by assumption) | exact decide_eq_true (by omega) | exact one_shl33 (by omega) | exact pm_lt _ _ | exact rm_lt (by first | assumption | exact pm_lt _ _) | exact Nat.lt_of_le_of_lt (Nat.shiftRight_le _ _) (by assumption) | exact Nat.lt_of_le_of_lt Nat.and_le_right (by omega))) ml_X5_67 ⟨by decide, by decide⟩ ⟨Nat.le_of_ble_eq_true rfl, Nat.le_of_ble_eq_true rfl⟩ hl (Nat.le_of_ble_eq_true rfl) rfl dX5_degree_2 ?_
  refine z_iconst C dX5_degree_5 ?_
  refine zo_callD C B (r := some (.int (iZ (zB (true))))) (c_X5_start_bad l D cJ o a (c) (th) (ac) (re) (kn) (decide (¬ (0 ≤ (z) ∧ (z) ≤ 5))) (1 : Int) (by first | assumption | omega | rfl | exact decide_eq_false (by omega) | exact decide_eq_true (by assumption) | exact decide_eq_true (by omega) | exact one_shl33 (by omega) | exact pm_lt _ _ | exact rm_lt (by first | assumption | exact pm_lt _ _) | exact Nat.lt_of_le_of_lt (Nat.shiftRight_le _ _) (by assumption) | exact Nat.lt_of_le_of_lt Nat.and_le_right (by omega)) (by first | assumption | omega | rfl | exact decide_eq_false (by omega) | exact decide_eq_true (by assumption) | exact decide_eq_true (by omega) | exact one_shl33 (by omega) | exact pm_lt _ _ | exact rm_lt (by first | assumption | exact pm_lt _ _) | exact Nat.lt_of_le_of_lt (Nat.shiftRight_le _ _) (by assumption) | exact Nat.lt_of_le_of_lt Nat.and_le_right (by omega))) ml_X5_71 rfl ⟨Nat.le_of_ble_eq_true rfl, Nat.le_of_ble_eq_true rfl⟩ ⟨Nat.le_of_ble_eq_true rfl, Nat.le_of_ble_eq_true rfl⟩ hl (Nat.le_of_ble_eq_true rfl) rfl dX5_degree_6 (fun H locs B => ?_)
  refine z_ifB_eq (tgt := 16) C dX5_degree_9 (by decide) (fun h9 => ?_) (fun h9 => ?_)
  · exact absurd h9 (by decide)
  · refine z_iconst C dX5_degree_12 ?_
    refine lv_goto (tgt := 25) C.1 C.2.1 dX5_degree_13 (by decide) ?_
    exact zo_iret C B hr hk (Nat.le_of_ble_eq_true rfl) (Nat.le_of_ble_eq_true rfl) dX5_degree_25 (by exact congrArg (fun z : Int => some (Value.int (iZ z))) (by rfl)) (by rfl) (by rfl)

set_option maxHeartbeats 4000000 in
set_option maxRecDepth 100000 in
theorem c_X5_low_bad1 (l : Launch) (D : va_G) (cJ : ClassId) (o a : Nat) (c : Nat → Nat) (th : Int) (ac : Int32) (re : Int32) (kn : Int32) (z : Int) (r9z : -2147483648 ≤ z ∧ z ≤ 2147483647) (hbad : ¬ ((0 ≤ z ∧ z ≤ 5))) : zA l yX5_low 2 65 0 0 D 4 cJ o a [.int (iZ (z))] c [.int (iZ (th)), .int (ac), .int (re), .int (kn)] (fun v => v = some (.int (iZ (0)))) (c) [.int (iZ (1)), .int (ac), .int (re), .int (kn)] := by
  refine zA.intro (lo := 44) (nA := 1) (own := RX5) zi_X5_low (by decide) rfl rfl (by decide +kernel) rfl (Nat.le_of_ble_eq_true rfl) ?_
  intro p e s m below meth c0 ls C hr hk B hl
  have hl : lv_has ls 2 [(0, .ref o), (1, .int (iZ (z)))] := hl
  refine lv_aload_n C.1 C.2.1 dX5_low_0 rfl (lv_at hl 0 rfl) ?_
  refine lv_iload_n C.1 C.2.1 dX5_low_1 rfl (lv_at hl 1 rfl) ?_
  refine z_call C (c_X5_isNo l (z) (by first | assumption | omega | rfl | exact decide_eq_false (by omega) | exact decide_eq_true (by assumption) | exact decide_eq_true (by omega) | exact one_shl33 (by omega) | exact pm_lt _ _ | exact rm_lt (by first | assumption | exact pm_lt _ _) | exact Nat.lt_of_le_of_lt (Nat.shiftRight_le _ _) (by assumption) | exact Nat.lt_of_le_of_lt Nat.and_le_right (by omega))) ml_X5_67 ⟨by decide, by decide⟩ ⟨Nat.le_of_ble_eq_true rfl, Nat.le_of_ble_eq_true rfl⟩ hl (Nat.le_of_ble_eq_true rfl) rfl dX5_low_2 ?_
  refine z_iconst C dX5_low_5 ?_
  refine zo_callD C B (r := some (.int (iZ (zB (true))))) (c_X5_start_bad l D cJ o a (c) (th) (ac) (re) (kn) (decide (¬ (0 ≤ (z) ∧ (z) ≤ 5))) (1 : Int) (by first | assumption | omega | rfl | exact decide_eq_false (by omega) | exact decide_eq_true (by assumption) | exact decide_eq_true (by omega) | exact one_shl33 (by omega) | exact pm_lt _ _ | exact rm_lt (by first | assumption | exact pm_lt _ _) | exact Nat.lt_of_le_of_lt (Nat.shiftRight_le _ _) (by assumption) | exact Nat.lt_of_le_of_lt Nat.and_le_right (by omega)) (by first | assumption | omega | rfl | exact decide_eq_false (by omega) | exact decide_eq_true (by assumption) | exact decide_eq_true (by omega) | exact one_shl33 (by omega) | exact pm_lt _ _ | exact rm_lt (by first | assumption | exact pm_lt _ _) | exact Nat.lt_of_le_of_lt (Nat.shiftRight_le _ _) (by assumption) | exact Nat.lt_of_le_of_lt Nat.and_le_right (by omega))) ml_X5_71 rfl ⟨Nat.le_of_ble_eq_true rfl, Nat.le_of_ble_eq_true rfl⟩ ⟨Nat.le_of_ble_eq_true rfl, Nat.le_of_ble_eq_true rfl⟩ hl (Nat.le_of_ble_eq_true rfl) rfl dX5_low_6 (fun H locs B => ?_)
  refine z_ifB_eq (tgt := 16) C dX5_low_9 (by decide) (fun h9 => ?_) (fun h9 => ?_)
  · exact absurd h9 (by decide)
  · refine z_iconst C dX5_low_12 ?_
    refine lv_goto (tgt := 25) C.1 C.2.1 dX5_low_13 (by decide) ?_
    exact zo_iret C B hr hk (Nat.le_of_ble_eq_true rfl) (Nat.le_of_ble_eq_true rfl) dX5_low_25 (by exact congrArg (fun z : Int => some (Value.int (iZ z))) (by rfl)) (by rfl) (by rfl)

set_option maxHeartbeats 4000000 in
set_option maxRecDepth 100000 in
theorem c_X5_weight_bad1 (l : Launch) (D : va_G) (cJ : ClassId) (o a : Nat) (c : Nat → Nat) (th : Int) (ac : Int32) (re : Int32) (kn : Int32) (z : Int) (r9z : -2147483648 ≤ z ∧ z ≤ 2147483647) (hbad : ¬ ((0 ≤ z ∧ z ≤ 5))) : zA l yX5_weight 2 65 0 0 D 4 cJ o a [.int (iZ (z))] c [.int (iZ (th)), .int (ac), .int (re), .int (kn)] (fun v => v = some (.int (iZ (0)))) (c) [.int (iZ (1)), .int (ac), .int (re), .int (kn)] := by
  refine zA.intro (lo := 44) (nA := 1) (own := RX5) zi_X5_weight (by decide) rfl rfl (by decide +kernel) rfl (Nat.le_of_ble_eq_true rfl) ?_
  intro p e s m below meth c0 ls C hr hk B hl
  have hl : lv_has ls 2 [(0, .ref o), (1, .int (iZ (z)))] := hl
  refine lv_aload_n C.1 C.2.1 dX5_weight_0 rfl (lv_at hl 0 rfl) ?_
  refine lv_iload_n C.1 C.2.1 dX5_weight_1 rfl (lv_at hl 1 rfl) ?_
  refine z_call C (c_X5_isNo l (z) (by first | assumption | omega | rfl | exact decide_eq_false (by omega) | exact decide_eq_true (by assumption) | exact decide_eq_true (by omega) | exact one_shl33 (by omega) | exact pm_lt _ _ | exact rm_lt (by first | assumption | exact pm_lt _ _) | exact Nat.lt_of_le_of_lt (Nat.shiftRight_le _ _) (by assumption) | exact Nat.lt_of_le_of_lt Nat.and_le_right (by omega))) ml_X5_67 ⟨by decide, by decide⟩ ⟨Nat.le_of_ble_eq_true rfl, Nat.le_of_ble_eq_true rfl⟩ hl (Nat.le_of_ble_eq_true rfl) rfl dX5_weight_2 ?_
  refine z_iconst C dX5_weight_5 ?_
  refine zo_callD C B (r := some (.int (iZ (zB (true))))) (c_X5_start_bad l D cJ o a (c) (th) (ac) (re) (kn) (decide (¬ (0 ≤ (z) ∧ (z) ≤ 5))) (1 : Int) (by first | assumption | omega | rfl | exact decide_eq_false (by omega) | exact decide_eq_true (by assumption) | exact decide_eq_true (by omega) | exact one_shl33 (by omega) | exact pm_lt _ _ | exact rm_lt (by first | assumption | exact pm_lt _ _) | exact Nat.lt_of_le_of_lt (Nat.shiftRight_le _ _) (by assumption) | exact Nat.lt_of_le_of_lt Nat.and_le_right (by omega)) (by first | assumption | omega | rfl | exact decide_eq_false (by omega) | exact decide_eq_true (by assumption) | exact decide_eq_true (by omega) | exact one_shl33 (by omega) | exact pm_lt _ _ | exact rm_lt (by first | assumption | exact pm_lt _ _) | exact Nat.lt_of_le_of_lt (Nat.shiftRight_le _ _) (by assumption) | exact Nat.lt_of_le_of_lt Nat.and_le_right (by omega))) ml_X5_71 rfl ⟨Nat.le_of_ble_eq_true rfl, Nat.le_of_ble_eq_true rfl⟩ ⟨Nat.le_of_ble_eq_true rfl, Nat.le_of_ble_eq_true rfl⟩ hl (Nat.le_of_ble_eq_true rfl) rfl dX5_weight_6 (fun H locs B => ?_)
  refine z_ifB_eq (tgt := 16) C dX5_weight_9 (by decide) (fun h9 => ?_) (fun h9 => ?_)
  · exact absurd h9 (by decide)
  · refine z_iconst C dX5_weight_12 ?_
    refine lv_goto (tgt := 25) C.1 C.2.1 dX5_weight_13 (by decide) ?_
    exact zo_iret C B hr hk (Nat.le_of_ble_eq_true rfl) (Nat.le_of_ble_eq_true rfl) dX5_weight_25 (by exact congrArg (fun z : Int => some (Value.int (iZ z))) (by rfl)) (by rfl) (by rfl)

set_option maxHeartbeats 4000000 in
set_option maxRecDepth 100000 in
theorem c_X5_digits_bad1 (l : Launch) (D : va_G) (cJ : ClassId) (o a : Nat) (c : Nat → Nat) (th : Int) (ac : Int32) (re : Int32) (kn : Int32) (z : Int) (r9z : -2147483648 ≤ z ∧ z ≤ 2147483647) (hbad : ¬ ((0 ≤ z ∧ z ≤ 5))) : zA l yX5_digits 2 65 0 0 D 4 cJ o a [.int (iZ (z))] c [.int (iZ (th)), .int (ac), .int (re), .int (kn)] (fun v => v = some (.int (iZ (0)))) (c) [.int (iZ (1)), .int (ac), .int (re), .int (kn)] := by
  refine zA.intro (lo := 44) (nA := 1) (own := RX5) zi_X5_digits (by decide) rfl rfl (by decide +kernel) rfl (Nat.le_of_ble_eq_true rfl) ?_
  intro p e s m below meth c0 ls C hr hk B hl
  have hl : lv_has ls 2 [(0, .ref o), (1, .int (iZ (z)))] := hl
  refine lv_aload_n C.1 C.2.1 dX5_digits_0 rfl (lv_at hl 0 rfl) ?_
  refine lv_iload_n C.1 C.2.1 dX5_digits_1 rfl (lv_at hl 1 rfl) ?_
  refine z_call C (c_X5_isNo l (z) (by first | assumption | omega | rfl | exact decide_eq_false (by omega) | exact decide_eq_true (by assumption) | exact decide_eq_true (by omega) | exact one_shl33 (by omega) | exact pm_lt _ _ | exact rm_lt (by first | assumption | exact pm_lt _ _) | exact Nat.lt_of_le_of_lt (Nat.shiftRight_le _ _) (by assumption) | exact Nat.lt_of_le_of_lt Nat.and_le_right (by omega))) ml_X5_67 ⟨by decide, by decide⟩ ⟨Nat.le_of_ble_eq_true rfl, Nat.le_of_ble_eq_true rfl⟩ hl (Nat.le_of_ble_eq_true rfl) rfl dX5_digits_2 ?_
  refine z_iconst C dX5_digits_5 ?_
  refine zo_callD C B (r := some (.int (iZ (zB (true))))) (c_X5_start_bad l D cJ o a (c) (th) (ac) (re) (kn) (decide (¬ (0 ≤ (z) ∧ (z) ≤ 5))) (1 : Int) (by first | assumption | omega | rfl | exact decide_eq_false (by omega) | exact decide_eq_true (by assumption) | exact decide_eq_true (by omega) | exact one_shl33 (by omega) | exact pm_lt _ _ | exact rm_lt (by first | assumption | exact pm_lt _ _) | exact Nat.lt_of_le_of_lt (Nat.shiftRight_le _ _) (by assumption) | exact Nat.lt_of_le_of_lt Nat.and_le_right (by omega)) (by first | assumption | omega | rfl | exact decide_eq_false (by omega) | exact decide_eq_true (by assumption) | exact decide_eq_true (by omega) | exact one_shl33 (by omega) | exact pm_lt _ _ | exact rm_lt (by first | assumption | exact pm_lt _ _) | exact Nat.lt_of_le_of_lt (Nat.shiftRight_le _ _) (by assumption) | exact Nat.lt_of_le_of_lt Nat.and_le_right (by omega))) ml_X5_71 rfl ⟨Nat.le_of_ble_eq_true rfl, Nat.le_of_ble_eq_true rfl⟩ ⟨Nat.le_of_ble_eq_true rfl, Nat.le_of_ble_eq_true rfl⟩ hl (Nat.le_of_ble_eq_true rfl) rfl dX5_digits_6 (fun H locs B => ?_)
  refine z_ifB_eq (tgt := 16) C dX5_digits_9 (by decide) (fun h9 => ?_) (fun h9 => ?_)
  · exact absurd h9 (by decide)
  · refine z_iconst C dX5_digits_12 ?_
    refine lv_goto (tgt := 23) C.1 C.2.1 dX5_digits_13 (by decide) ?_
    exact zo_iret C B hr hk (Nat.le_of_ble_eq_true rfl) (Nat.le_of_ble_eq_true rfl) dX5_digits_23 (by exact congrArg (fun z : Int => some (Value.int (iZ z))) (by rfl)) (by rfl) (by rfl)

set_option maxHeartbeats 4000000 in
set_option maxRecDepth 100000 in
theorem c_X5_at_bad1 (l : Launch) (D : va_G) (cJ : ClassId) (o a : Nat) (c : Nat → Nat) (th : Int) (ac : Int32) (re : Int32) (kn : Int32) (z : Int) (g : Int) (r9z : -2147483648 ≤ z ∧ z ≤ 2147483647) (r9g : -2147483648 ≤ g ∧ g ≤ 2147483647) (hbad : ¬ ((0 ≤ z ∧ z ≤ 5))) : zA l yX5_at 2 66 0 0 D 4 cJ o a [.int (iZ (z)), .int (iZ (g))] c [.int (iZ (th)), .int (ac), .int (re), .int (kn)] (fun v => v = some (.int (iZ (0)))) (c) [.int (iZ (1)), .int (ac), .int (re), .int (kn)] := by
  refine zA.intro (lo := 44) (nA := 2) (own := RX5) zi_X5_at (by decide) rfl rfl (by decide +kernel) rfl (Nat.le_of_ble_eq_true rfl) ?_
  intro p e s m below meth c0 ls C hr hk B hl
  have hl : lv_has ls 3 [(0, .ref o), (1, .int (iZ (z))), (2, .int (iZ (g)))] := hl
  refine lv_aload_n C.1 C.2.1 dX5_at_0 rfl (lv_at hl 0 rfl) ?_
  refine lv_iload_n C.1 C.2.1 dX5_at_1 rfl (lv_at hl 1 rfl) ?_
  refine z_call C (c_X5_isNo l (z) (by first | assumption | omega | rfl | exact decide_eq_false (by omega) | exact decide_eq_true (by assumption) | exact decide_eq_true (by omega) | exact one_shl33 (by omega) | exact pm_lt _ _ | exact rm_lt (by first | assumption | exact pm_lt _ _) | exact Nat.lt_of_le_of_lt (Nat.shiftRight_le _ _) (by assumption) | exact Nat.lt_of_le_of_lt Nat.and_le_right (by omega))) ml_X5_67 ⟨by decide, by decide⟩ ⟨Nat.le_of_ble_eq_true rfl, Nat.le_of_ble_eq_true rfl⟩ hl (Nat.le_of_ble_eq_true rfl) rfl dX5_at_2 ?_
  refine z_iconst C dX5_at_5 ?_
  refine zo_callD C B (r := some (.int (iZ (zB (true))))) (c_X5_start_bad l D cJ o a (c) (th) (ac) (re) (kn) (decide (¬ (0 ≤ (z) ∧ (z) ≤ 5))) (1 : Int) (by first | assumption | omega | rfl | exact decide_eq_false (by omega) | exact decide_eq_true (by assumption) | exact decide_eq_true (by omega) | exact one_shl33 (by omega) | exact pm_lt _ _ | exact rm_lt (by first | assumption | exact pm_lt _ _) | exact Nat.lt_of_le_of_lt (Nat.shiftRight_le _ _) (by assumption) | exact Nat.lt_of_le_of_lt Nat.and_le_right (by omega)) (by first | assumption | omega | rfl | exact decide_eq_false (by omega) | exact decide_eq_true (by assumption) | exact decide_eq_true (by omega) | exact one_shl33 (by omega) | exact pm_lt _ _ | exact rm_lt (by first | assumption | exact pm_lt _ _) | exact Nat.lt_of_le_of_lt (Nat.shiftRight_le _ _) (by assumption) | exact Nat.lt_of_le_of_lt Nat.and_le_right (by omega))) ml_X5_71 rfl ⟨Nat.le_of_ble_eq_true rfl, Nat.le_of_ble_eq_true rfl⟩ ⟨Nat.le_of_ble_eq_true rfl, Nat.le_of_ble_eq_true rfl⟩ hl (Nat.le_of_ble_eq_true rfl) rfl dX5_at_6 (fun H locs B => ?_)
  refine z_ifB_ne (tgt := 52) C dX5_at_9 (by decide) (fun h9 => ?_) (fun h9 => ?_)
  · refine z_iconst C dX5_at_52 ?_
    exact zo_zret C B hr hk (Nat.le_of_ble_eq_true rfl) (Nat.le_of_ble_eq_true rfl) dX5_at_53 (by decide) (by exact congrArg (fun z : Int => some (Value.int (iZ z))) (by rfl)) (by rfl) (by rfl)
  · exact absurd h9 (by decide)

set_option maxHeartbeats 4000000 in
set_option maxRecDepth 100000 in
theorem c_X5_at_bad2 (l : Launch) (D : va_G) (cJ : ClassId) (o a : Nat) (c : Nat → Nat) (th : Int) (ac : Int32) (re : Int32) (kn : Int32) (z : Int) (g : Int) (r9z : -2147483648 ≤ z ∧ z ≤ 2147483647) (r9g : -2147483648 ≤ g ∧ g ≤ 2147483647) (hcel : (0 ≤ z ∧ z ≤ 5)) (hbad : ¬ ((0 ≤ g ∧ g ≤ 99))) : zA l yX5_at 2 66 0 0 D 4 cJ o a [.int (iZ (z)), .int (iZ (g))] c [.int (iZ (th)), .int (ac), .int (re), .int (kn)] (fun v => v = some (.int (iZ (0)))) (c) [.int (iZ (2)), .int (ac), .int (re), .int (kn)] := by
  refine zA.intro (lo := 44) (nA := 2) (own := RX5) zi_X5_at (by decide) rfl rfl (by decide +kernel) rfl (Nat.le_of_ble_eq_true rfl) ?_
  intro p e s m below meth c0 ls C hr hk B hl
  have hl : lv_has ls 3 [(0, .ref o), (1, .int (iZ (z))), (2, .int (iZ (g)))] := hl
  refine lv_aload_n C.1 C.2.1 dX5_at_0 rfl (lv_at hl 0 rfl) ?_
  refine lv_iload_n C.1 C.2.1 dX5_at_1 rfl (lv_at hl 1 rfl) ?_
  refine z_call C (c_X5_isNo l (z) (by first | assumption | omega | rfl | exact decide_eq_false (by omega) | exact decide_eq_true (by assumption) | exact decide_eq_true (by omega) | exact one_shl33 (by omega) | exact pm_lt _ _ | exact rm_lt (by first | assumption | exact pm_lt _ _) | exact Nat.lt_of_le_of_lt (Nat.shiftRight_le _ _) (by assumption) | exact Nat.lt_of_le_of_lt Nat.and_le_right (by omega))) ml_X5_67 ⟨by decide, by decide⟩ ⟨Nat.le_of_ble_eq_true rfl, Nat.le_of_ble_eq_true rfl⟩ hl (Nat.le_of_ble_eq_true rfl) rfl dX5_at_2 ?_
  refine z_iconst C dX5_at_5 ?_
  refine zo_callD C B (r := some (.int (iZ (zB (false))))) (c_X5_start_ok l D cJ o a (c) (th) (ac) (re) (kn) (decide (¬ (0 ≤ (z) ∧ (z) ≤ 5))) (1 : Int) (by first | assumption | omega | rfl | exact decide_eq_false (by omega) | exact decide_eq_true (by assumption) | exact decide_eq_true (by omega) | exact one_shl33 (by omega) | exact pm_lt _ _ | exact rm_lt (by first | assumption | exact pm_lt _ _) | exact Nat.lt_of_le_of_lt (Nat.shiftRight_le _ _) (by assumption) | exact Nat.lt_of_le_of_lt Nat.and_le_right (by omega))) ml_X5_71 rfl ⟨Nat.le_of_ble_eq_true rfl, Nat.le_of_ble_eq_true rfl⟩ ⟨Nat.le_of_ble_eq_true rfl, Nat.le_of_ble_eq_true rfl⟩ hl (Nat.le_of_ble_eq_true rfl) rfl dX5_at_6 (fun H locs B => ?_)
  refine z_ifB_ne (tgt := 52) C dX5_at_9 (by decide) (fun h9 => ?_) (fun h9 => ?_)
  · exact absurd h9 (by decide)
  · refine lv_aload_n C.1 C.2.1 dX5_at_12 rfl (lv_at hl 0 rfl) ?_
    refine lv_iload_n C.1 C.2.1 dX5_at_13 rfl (lv_at hl 2 rfl) ?_
    refine z_iconst C dX5_at_14 ?_
    refine z_bipush C dX5_at_15 (by decide) ?_
    refine z_call C (c_X5_isIn l (g) (0 : Int) (99 : Int) (by first | assumption | omega | rfl | exact decide_eq_false (by omega) | exact decide_eq_true (by assumption) | exact decide_eq_true (by omega) | exact one_shl33 (by omega) | exact pm_lt _ _ | exact rm_lt (by first | assumption | exact pm_lt _ _) | exact Nat.lt_of_le_of_lt (Nat.shiftRight_le _ _) (by assumption) | exact Nat.lt_of_le_of_lt Nat.and_le_right (by omega)) (by first | assumption | omega | rfl | exact decide_eq_false (by omega) | exact decide_eq_true (by assumption) | exact decide_eq_true (by omega) | exact one_shl33 (by omega) | exact pm_lt _ _ | exact rm_lt (by first | assumption | exact pm_lt _ _) | exact Nat.lt_of_le_of_lt (Nat.shiftRight_le _ _) (by assumption) | exact Nat.lt_of_le_of_lt Nat.and_le_right (by omega)) (by first | assumption | omega | rfl | exact decide_eq_false (by omega) | exact decide_eq_true (by assumption) | exact decide_eq_true (by omega) | exact one_shl33 (by omega) | exact pm_lt _ _ | exact rm_lt (by first | assumption | exact pm_lt _ _) | exact Nat.lt_of_le_of_lt (Nat.shiftRight_le _ _) (by assumption) | exact Nat.lt_of_le_of_lt Nat.and_le_right (by omega))) ml_X5_21 ⟨by decide, by decide⟩ ⟨Nat.le_of_ble_eq_true rfl, Nat.le_of_ble_eq_true rfl⟩ hl (Nat.le_of_ble_eq_true rfl) rfl dX5_at_17 ?_
    refine z_ifB_ne (tgt := 27) C dX5_at_20 (by decide) (fun h20 => ?_) (fun h20 => ?_)
    · have g20 := of_decide_eq_true h20
      refine z_iconst C dX5_at_27 ?_
      refine z_iconst C dX5_at_28 ?_
      exfalso; omega
    · have g20 := of_decide_eq_false h20
      refine z_iconst C dX5_at_23 ?_
      refine lv_goto (tgt := 28) C.1 C.2.1 dX5_at_24 (by decide) ?_
      refine z_iconst C dX5_at_28 ?_
      refine zo_callD C B (r := some (.int (iZ (zB (true))))) (c_X5_refuse_bad l D cJ o a (c) (0) ((ac)) ((re)) ((kn)) (true) (2 : Int) (by first | assumption | omega | rfl | exact decide_eq_false (by omega) | exact decide_eq_true (by assumption) | exact decide_eq_true (by omega) | exact one_shl33 (by omega) | exact pm_lt _ _ | exact rm_lt (by first | assumption | exact pm_lt _ _) | exact Nat.lt_of_le_of_lt (Nat.shiftRight_le _ _) (by assumption) | exact Nat.lt_of_le_of_lt Nat.and_le_right (by omega)) (by first | assumption | omega | rfl | exact decide_eq_false (by omega) | exact decide_eq_true (by assumption) | exact decide_eq_true (by omega) | exact one_shl33 (by omega) | exact pm_lt _ _ | exact rm_lt (by first | assumption | exact pm_lt _ _) | exact Nat.lt_of_le_of_lt (Nat.shiftRight_le _ _) (by assumption) | exact Nat.lt_of_le_of_lt Nat.and_le_right (by omega)) (by first | assumption | omega | rfl | exact decide_eq_false (by omega) | exact decide_eq_true (by assumption) | exact decide_eq_true (by omega) | exact one_shl33 (by omega) | exact pm_lt _ _ | exact rm_lt (by first | assumption | exact pm_lt _ _) | exact Nat.lt_of_le_of_lt (Nat.shiftRight_le _ _) (by assumption) | exact Nat.lt_of_le_of_lt Nat.and_le_right (by omega))) ml_X5_17 rfl ⟨Nat.le_of_ble_eq_true rfl, Nat.le_of_ble_eq_true rfl⟩ ⟨Nat.le_of_ble_eq_true rfl, Nat.le_of_ble_eq_true rfl⟩ hl (Nat.le_of_ble_eq_true rfl) rfl dX5_at_29 (fun H locs B => ?_)
      refine z_ifB_ne (tgt := 52) C dX5_at_32 (by decide) (fun h32 => ?_) (fun h32 => ?_)
      · refine z_iconst C dX5_at_52 ?_
        exact zo_zret C B hr hk (Nat.le_of_ble_eq_true rfl) (Nat.le_of_ble_eq_true rfl) dX5_at_53 (by decide) (by exact congrArg (fun z : Int => some (Value.int (iZ z))) (by rfl)) (by rfl) (by rfl)
      · exact absurd h32 (by decide)

set_option maxHeartbeats 4000000 in
set_option maxRecDepth 100000 in
theorem c_X5_order_bad1 (l : Launch) (D : va_G) (cJ : ClassId) (o a : Nat) (c : Nat → Nat) (th : Int) (ac : Int32) (re : Int32) (kn : Int32) (f : Int) (z : Int) (r9f : -2147483648 ≤ f ∧ f ≤ 2147483647) (r9z : -2147483648 ≤ z ∧ z ≤ 2147483647) (hbad : ¬ ((0 ≤ f ∧ f ≤ 5) ∧ (0 ≤ z ∧ z ≤ 5))) : zA l yX5_order 2 66 0 0 D 4 cJ o a [.int (iZ (f)), .int (iZ (z))] c [.int (iZ (th)), .int (ac), .int (re), .int (kn)] (fun v => v = some (.int (iZ (0)))) (c) [.int (iZ (1)), .int (ac), .int (re), .int (kn)] := by
  refine zA.intro (lo := 44) (nA := 2) (own := RX5) zi_X5_order (by decide) rfl rfl (by decide +kernel) rfl (Nat.le_of_ble_eq_true rfl) ?_
  intro p e s m below meth c0 ls C hr hk B hl
  have hl : lv_has ls 3 [(0, .ref o), (1, .int (iZ (f))), (2, .int (iZ (z)))] := hl
  refine lv_aload_n C.1 C.2.1 dX5_order_0 rfl (lv_at hl 0 rfl) ?_
  refine lv_iload_n C.1 C.2.1 dX5_order_1 rfl (lv_at hl 1 rfl) ?_
  refine z_call C (c_X5_isNo l (f) (by first | assumption | omega | rfl | exact decide_eq_false (by omega) | exact decide_eq_true (by assumption) | exact decide_eq_true (by omega) | exact one_shl33 (by omega) | exact pm_lt _ _ | exact rm_lt (by first | assumption | exact pm_lt _ _) | exact Nat.lt_of_le_of_lt (Nat.shiftRight_le _ _) (by assumption) | exact Nat.lt_of_le_of_lt Nat.and_le_right (by omega))) ml_X5_67 ⟨by decide, by decide⟩ ⟨Nat.le_of_ble_eq_true rfl, Nat.le_of_ble_eq_true rfl⟩ hl (Nat.le_of_ble_eq_true rfl) rfl dX5_order_2 ?_
  refine z_ifB_ne (tgt := 15) C dX5_order_5 (by decide) (fun h5 => ?_) (fun h5 => ?_)
  · have g5 := of_decide_eq_true h5
    refine z_iconst C dX5_order_15 ?_
    refine lv_goto (tgt := 20) C.1 C.2.1 dX5_order_16 (by decide) ?_
    refine z_iconst C dX5_order_20 ?_
    refine zo_callD C B (r := some (.int (iZ (zB (true))))) (c_X5_start_bad l D cJ o a (c) (th) (ac) (re) (kn) (true) (1 : Int) (by first | assumption | omega | rfl | exact decide_eq_false (by omega) | exact decide_eq_true (by assumption) | exact decide_eq_true (by omega) | exact one_shl33 (by omega) | exact pm_lt _ _ | exact rm_lt (by first | assumption | exact pm_lt _ _) | exact Nat.lt_of_le_of_lt (Nat.shiftRight_le _ _) (by assumption) | exact Nat.lt_of_le_of_lt Nat.and_le_right (by omega)) (by first | assumption | omega | rfl | exact decide_eq_false (by omega) | exact decide_eq_true (by assumption) | exact decide_eq_true (by omega) | exact one_shl33 (by omega) | exact pm_lt _ _ | exact rm_lt (by first | assumption | exact pm_lt _ _) | exact Nat.lt_of_le_of_lt (Nat.shiftRight_le _ _) (by assumption) | exact Nat.lt_of_le_of_lt Nat.and_le_right (by omega))) ml_X5_71 rfl ⟨Nat.le_of_ble_eq_true rfl, Nat.le_of_ble_eq_true rfl⟩ ⟨Nat.le_of_ble_eq_true rfl, Nat.le_of_ble_eq_true rfl⟩ hl (Nat.le_of_ble_eq_true rfl) rfl dX5_order_21 (fun H locs B => ?_)
    refine z_ifB_eq (tgt := 31) C dX5_order_24 (by decide) (fun h24 => ?_) (fun h24 => ?_)
    · exact absurd h24 (by decide)
    · refine z_iconst C dX5_order_27 ?_
      refine lv_goto (tgt := 37) C.1 C.2.1 dX5_order_28 (by decide) ?_
      exact zo_iret C B hr hk (Nat.le_of_ble_eq_true rfl) (Nat.le_of_ble_eq_true rfl) dX5_order_37 (by exact congrArg (fun z : Int => some (Value.int (iZ z))) (by rfl)) (by rfl) (by rfl)
  · have g5 := of_decide_eq_false h5
    refine lv_iload_n C.1 C.2.1 dX5_order_8 rfl (lv_at hl 2 rfl) ?_
    refine z_call C (c_X5_isNo l (z) (by first | assumption | omega | rfl | exact decide_eq_false (by omega) | exact decide_eq_true (by assumption) | exact decide_eq_true (by omega) | exact one_shl33 (by omega) | exact pm_lt _ _ | exact rm_lt (by first | assumption | exact pm_lt _ _) | exact Nat.lt_of_le_of_lt (Nat.shiftRight_le _ _) (by assumption) | exact Nat.lt_of_le_of_lt Nat.and_le_right (by omega))) ml_X5_67 ⟨by decide, by decide⟩ ⟨Nat.le_of_ble_eq_true rfl, Nat.le_of_ble_eq_true rfl⟩ hl (Nat.le_of_ble_eq_true rfl) rfl dX5_order_9 ?_
    refine z_ifB_eq (tgt := 19) C dX5_order_12 (by decide) (fun h12 => ?_) (fun h12 => ?_)
    · have g12 := of_decide_eq_false h12
      refine z_iconst C dX5_order_19 ?_
      refine z_iconst C dX5_order_20 ?_
      exfalso; omega
    · have g12 := of_decide_eq_true h12
      refine z_iconst C dX5_order_15 ?_
      refine lv_goto (tgt := 20) C.1 C.2.1 dX5_order_16 (by decide) ?_
      refine z_iconst C dX5_order_20 ?_
      refine zo_callD C B (r := some (.int (iZ (zB (true))))) (c_X5_start_bad l D cJ o a (c) (th) (ac) (re) (kn) (true) (1 : Int) (by first | assumption | omega | rfl | exact decide_eq_false (by omega) | exact decide_eq_true (by assumption) | exact decide_eq_true (by omega) | exact one_shl33 (by omega) | exact pm_lt _ _ | exact rm_lt (by first | assumption | exact pm_lt _ _) | exact Nat.lt_of_le_of_lt (Nat.shiftRight_le _ _) (by assumption) | exact Nat.lt_of_le_of_lt Nat.and_le_right (by omega)) (by first | assumption | omega | rfl | exact decide_eq_false (by omega) | exact decide_eq_true (by assumption) | exact decide_eq_true (by omega) | exact one_shl33 (by omega) | exact pm_lt _ _ | exact rm_lt (by first | assumption | exact pm_lt _ _) | exact Nat.lt_of_le_of_lt (Nat.shiftRight_le _ _) (by assumption) | exact Nat.lt_of_le_of_lt Nat.and_le_right (by omega))) ml_X5_71 rfl ⟨Nat.le_of_ble_eq_true rfl, Nat.le_of_ble_eq_true rfl⟩ ⟨Nat.le_of_ble_eq_true rfl, Nat.le_of_ble_eq_true rfl⟩ hl (Nat.le_of_ble_eq_true rfl) rfl dX5_order_21 (fun H locs B => ?_)
      refine z_ifB_eq (tgt := 31) C dX5_order_24 (by decide) (fun h24 => ?_) (fun h24 => ?_)
      · exact absurd h24 (by decide)
      · refine z_iconst C dX5_order_27 ?_
        refine lv_goto (tgt := 37) C.1 C.2.1 dX5_order_28 (by decide) ?_
        exact zo_iret C B hr hk (Nat.le_of_ble_eq_true rfl) (Nat.le_of_ble_eq_true rfl) dX5_order_37 (by exact congrArg (fun z : Int => some (Value.int (iZ z))) (by rfl)) (by rfl) (by rfl)

set_option maxHeartbeats 4000000 in
set_option maxRecDepth 100000 in
theorem c_X5_isSame_bad1 (l : Launch) (D : va_G) (cJ : ClassId) (o a : Nat) (c : Nat → Nat) (th : Int) (ac : Int32) (re : Int32) (kn : Int32) (f : Int) (z : Int) (r9f : -2147483648 ≤ f ∧ f ≤ 2147483647) (r9z : -2147483648 ≤ z ∧ z ≤ 2147483647) (hbad : ¬ ((0 ≤ f ∧ f ≤ 5) ∧ (0 ≤ z ∧ z ≤ 5))) : zA l yX5_isSame 2 66 0 0 D 4 cJ o a [.int (iZ (f)), .int (iZ (z))] c [.int (iZ (th)), .int (ac), .int (re), .int (kn)] (fun v => v = some (.int (iZ (0)))) (c) [.int (iZ (1)), .int (ac), .int (re), .int (kn)] := by
  refine zA.intro (lo := 44) (nA := 2) (own := RX5) zi_X5_isSame (by decide) rfl rfl (by decide +kernel) rfl (Nat.le_of_ble_eq_true rfl) ?_
  intro p e s m below meth c0 ls C hr hk B hl
  have hl : lv_has ls 3 [(0, .ref o), (1, .int (iZ (f))), (2, .int (iZ (z)))] := hl
  refine lv_aload_n C.1 C.2.1 dX5_isSame_0 rfl (lv_at hl 0 rfl) ?_
  refine lv_iload_n C.1 C.2.1 dX5_isSame_1 rfl (lv_at hl 1 rfl) ?_
  refine z_call C (c_X5_isNo l (f) (by first | assumption | omega | rfl | exact decide_eq_false (by omega) | exact decide_eq_true (by assumption) | exact decide_eq_true (by omega) | exact one_shl33 (by omega) | exact pm_lt _ _ | exact rm_lt (by first | assumption | exact pm_lt _ _) | exact Nat.lt_of_le_of_lt (Nat.shiftRight_le _ _) (by assumption) | exact Nat.lt_of_le_of_lt Nat.and_le_right (by omega))) ml_X5_67 ⟨by decide, by decide⟩ ⟨Nat.le_of_ble_eq_true rfl, Nat.le_of_ble_eq_true rfl⟩ hl (Nat.le_of_ble_eq_true rfl) rfl dX5_isSame_2 ?_
  refine z_ifB_ne (tgt := 15) C dX5_isSame_5 (by decide) (fun h5 => ?_) (fun h5 => ?_)
  · have g5 := of_decide_eq_true h5
    refine z_iconst C dX5_isSame_15 ?_
    refine lv_goto (tgt := 20) C.1 C.2.1 dX5_isSame_16 (by decide) ?_
    refine z_iconst C dX5_isSame_20 ?_
    refine zo_callD C B (r := some (.int (iZ (zB (true))))) (c_X5_start_bad l D cJ o a (c) (th) (ac) (re) (kn) (true) (1 : Int) (by first | assumption | omega | rfl | exact decide_eq_false (by omega) | exact decide_eq_true (by assumption) | exact decide_eq_true (by omega) | exact one_shl33 (by omega) | exact pm_lt _ _ | exact rm_lt (by first | assumption | exact pm_lt _ _) | exact Nat.lt_of_le_of_lt (Nat.shiftRight_le _ _) (by assumption) | exact Nat.lt_of_le_of_lt Nat.and_le_right (by omega)) (by first | assumption | omega | rfl | exact decide_eq_false (by omega) | exact decide_eq_true (by assumption) | exact decide_eq_true (by omega) | exact one_shl33 (by omega) | exact pm_lt _ _ | exact rm_lt (by first | assumption | exact pm_lt _ _) | exact Nat.lt_of_le_of_lt (Nat.shiftRight_le _ _) (by assumption) | exact Nat.lt_of_le_of_lt Nat.and_le_right (by omega))) ml_X5_71 rfl ⟨Nat.le_of_ble_eq_true rfl, Nat.le_of_ble_eq_true rfl⟩ ⟨Nat.le_of_ble_eq_true rfl, Nat.le_of_ble_eq_true rfl⟩ hl (Nat.le_of_ble_eq_true rfl) rfl dX5_isSame_21 (fun H locs B => ?_)
    refine z_ifB_ne (tgt := 47) C dX5_isSame_24 (by decide) (fun h24 => ?_) (fun h24 => ?_)
    · refine z_iconst C dX5_isSame_47 ?_
      exact zo_zret C B hr hk (Nat.le_of_ble_eq_true rfl) (Nat.le_of_ble_eq_true rfl) dX5_isSame_48 (by decide) (by exact congrArg (fun z : Int => some (Value.int (iZ z))) (by rfl)) (by rfl) (by rfl)
    · exact absurd h24 (by decide)
  · have g5 := of_decide_eq_false h5
    refine lv_iload_n C.1 C.2.1 dX5_isSame_8 rfl (lv_at hl 2 rfl) ?_
    refine z_call C (c_X5_isNo l (z) (by first | assumption | omega | rfl | exact decide_eq_false (by omega) | exact decide_eq_true (by assumption) | exact decide_eq_true (by omega) | exact one_shl33 (by omega) | exact pm_lt _ _ | exact rm_lt (by first | assumption | exact pm_lt _ _) | exact Nat.lt_of_le_of_lt (Nat.shiftRight_le _ _) (by assumption) | exact Nat.lt_of_le_of_lt Nat.and_le_right (by omega))) ml_X5_67 ⟨by decide, by decide⟩ ⟨Nat.le_of_ble_eq_true rfl, Nat.le_of_ble_eq_true rfl⟩ hl (Nat.le_of_ble_eq_true rfl) rfl dX5_isSame_9 ?_
    refine z_ifB_eq (tgt := 19) C dX5_isSame_12 (by decide) (fun h12 => ?_) (fun h12 => ?_)
    · have g12 := of_decide_eq_false h12
      refine z_iconst C dX5_isSame_19 ?_
      refine z_iconst C dX5_isSame_20 ?_
      exfalso; omega
    · have g12 := of_decide_eq_true h12
      refine z_iconst C dX5_isSame_15 ?_
      refine lv_goto (tgt := 20) C.1 C.2.1 dX5_isSame_16 (by decide) ?_
      refine z_iconst C dX5_isSame_20 ?_
      refine zo_callD C B (r := some (.int (iZ (zB (true))))) (c_X5_start_bad l D cJ o a (c) (th) (ac) (re) (kn) (true) (1 : Int) (by first | assumption | omega | rfl | exact decide_eq_false (by omega) | exact decide_eq_true (by assumption) | exact decide_eq_true (by omega) | exact one_shl33 (by omega) | exact pm_lt _ _ | exact rm_lt (by first | assumption | exact pm_lt _ _) | exact Nat.lt_of_le_of_lt (Nat.shiftRight_le _ _) (by assumption) | exact Nat.lt_of_le_of_lt Nat.and_le_right (by omega)) (by first | assumption | omega | rfl | exact decide_eq_false (by omega) | exact decide_eq_true (by assumption) | exact decide_eq_true (by omega) | exact one_shl33 (by omega) | exact pm_lt _ _ | exact rm_lt (by first | assumption | exact pm_lt _ _) | exact Nat.lt_of_le_of_lt (Nat.shiftRight_le _ _) (by assumption) | exact Nat.lt_of_le_of_lt Nat.and_le_right (by omega))) ml_X5_71 rfl ⟨Nat.le_of_ble_eq_true rfl, Nat.le_of_ble_eq_true rfl⟩ ⟨Nat.le_of_ble_eq_true rfl, Nat.le_of_ble_eq_true rfl⟩ hl (Nat.le_of_ble_eq_true rfl) rfl dX5_isSame_21 (fun H locs B => ?_)
      refine z_ifB_ne (tgt := 47) C dX5_isSame_24 (by decide) (fun h24 => ?_) (fun h24 => ?_)
      · refine z_iconst C dX5_isSame_47 ?_
        exact zo_zret C B hr hk (Nat.le_of_ble_eq_true rfl) (Nat.le_of_ble_eq_true rfl) dX5_isSame_48 (by decide) (by exact congrArg (fun z : Int => some (Value.int (iZ z))) (by rfl)) (by rfl) (by rfl)
      · exact absurd h24 (by decide)

set_option maxHeartbeats 4000000 in
set_option maxRecDepth 100000 in
theorem c_X5_value_bad1 (l : Launch) (D : va_G) (cJ : ClassId) (o a : Nat) (c : Nat → Nat) (th : Int) (ac : Int32) (re : Int32) (kn : Int32) (z : Int) (b : Bool) (r9z : -2147483648 ≤ z ∧ z ≤ 2147483647) (hbad : ¬ ((0 ≤ z ∧ z ≤ 5))) : zA l yX5_value 2 66 0 0 D 4 cJ o a [.int (iZ (z)), .int (iZ (zB (b)))] c [.int (iZ (th)), .int (ac), .int (re), .int (kn)] (fun v => v = some (.int (iZ (0)))) (c) [.int (iZ (1)), .int (ac), .int (re), .int (kn)] := by
  refine zA.intro (lo := 44) (nA := 2) (own := RX5) zi_X5_value (by decide) rfl rfl (by decide +kernel) rfl (Nat.le_of_ble_eq_true rfl) ?_
  intro p e s m below meth c0 ls C hr hk B hl
  have hl : lv_has ls 3 [(0, .ref o), (1, .int (iZ (z))), (2, .int (iZ (zB (b))))] := hl
  refine lv_aload_n C.1 C.2.1 dX5_value_0 rfl (lv_at hl 0 rfl) ?_
  refine lv_iload_n C.1 C.2.1 dX5_value_1 rfl (lv_at hl 1 rfl) ?_
  refine z_call C (c_X5_isNo l (z) (by first | assumption | omega | rfl | exact decide_eq_false (by omega) | exact decide_eq_true (by assumption) | exact decide_eq_true (by omega) | exact one_shl33 (by omega) | exact pm_lt _ _ | exact rm_lt (by first | assumption | exact pm_lt _ _) | exact Nat.lt_of_le_of_lt (Nat.shiftRight_le _ _) (by assumption) | exact Nat.lt_of_le_of_lt Nat.and_le_right (by omega))) ml_X5_67 ⟨by decide, by decide⟩ ⟨Nat.le_of_ble_eq_true rfl, Nat.le_of_ble_eq_true rfl⟩ hl (Nat.le_of_ble_eq_true rfl) rfl dX5_value_2 ?_
  refine z_iconst C dX5_value_5 ?_
  refine zo_callD C B (r := some (.int (iZ (zB (true))))) (c_X5_start_bad l D cJ o a (c) (th) (ac) (re) (kn) (decide (¬ (0 ≤ (z) ∧ (z) ≤ 5))) (1 : Int) (by first | assumption | omega | rfl | exact decide_eq_false (by omega) | exact decide_eq_true (by assumption) | exact decide_eq_true (by omega) | exact one_shl33 (by omega) | exact pm_lt _ _ | exact rm_lt (by first | assumption | exact pm_lt _ _) | exact Nat.lt_of_le_of_lt (Nat.shiftRight_le _ _) (by assumption) | exact Nat.lt_of_le_of_lt Nat.and_le_right (by omega)) (by first | assumption | omega | rfl | exact decide_eq_false (by omega) | exact decide_eq_true (by assumption) | exact decide_eq_true (by omega) | exact one_shl33 (by omega) | exact pm_lt _ _ | exact rm_lt (by first | assumption | exact pm_lt _ _) | exact Nat.lt_of_le_of_lt (Nat.shiftRight_le _ _) (by assumption) | exact Nat.lt_of_le_of_lt Nat.and_le_right (by omega))) ml_X5_71 rfl ⟨Nat.le_of_ble_eq_true rfl, Nat.le_of_ble_eq_true rfl⟩ ⟨Nat.le_of_ble_eq_true rfl, Nat.le_of_ble_eq_true rfl⟩ hl (Nat.le_of_ble_eq_true rfl) rfl dX5_value_6 (fun H locs B => ?_)
  refine z_ifB_eq (tgt := 16) C dX5_value_9 (by decide) (fun h9 => ?_) (fun h9 => ?_)
  · exact absurd h9 (by decide)
  · refine z_iconst C dX5_value_12 ?_
    refine lv_goto (tgt := 47) C.1 C.2.1 dX5_value_13 (by decide) ?_
    exact zo_iret C B hr hk (Nat.le_of_ble_eq_true rfl) (Nat.le_of_ble_eq_true rfl) dX5_value_47 (by exact congrArg (fun z : Int => some (Value.int (iZ z))) (by rfl)) (by rfl) (by rfl)

set_option maxHeartbeats 4000000 in
set_option maxRecDepth 100000 in
theorem c_X5_divides_bad1 (l : Launch) (D : va_G) (cJ : ClassId) (o a : Nat) (c : Nat → Nat) (th : Int) (ac : Int32) (re : Int32) (kn : Int32) (f : Int) (z : Int) (r9f : -2147483648 ≤ f ∧ f ≤ 2147483647) (r9z : -2147483648 ≤ z ∧ z ≤ 2147483647) (hbad : ¬ ((0 ≤ f ∧ f ≤ 5) ∧ (0 ≤ z ∧ z ≤ 5))) : zA l yX5_divides 2 66 0 0 D 4 cJ o a [.int (iZ (f)), .int (iZ (z))] c [.int (iZ (th)), .int (ac), .int (re), .int (kn)] (fun v => v = some (.int (iZ (0)))) (c) [.int (iZ (1)), .int (ac), .int (re), .int (kn)] := by
  refine zA.intro (lo := 44) (nA := 2) (own := RX5) zi_X5_divides (by decide) rfl rfl (by decide +kernel) rfl (Nat.le_of_ble_eq_true rfl) ?_
  intro p e s m below meth c0 ls C hr hk B hl
  have hl : lv_has ls 3 [(0, .ref o), (1, .int (iZ (f))), (2, .int (iZ (z)))] := hl
  refine lv_aload_n C.1 C.2.1 dX5_divides_0 rfl (lv_at hl 0 rfl) ?_
  refine lv_iload_n C.1 C.2.1 dX5_divides_1 rfl (lv_at hl 1 rfl) ?_
  refine z_call C (c_X5_isNo l (f) (by first | assumption | omega | rfl | exact decide_eq_false (by omega) | exact decide_eq_true (by assumption) | exact decide_eq_true (by omega) | exact one_shl33 (by omega) | exact pm_lt _ _ | exact rm_lt (by first | assumption | exact pm_lt _ _) | exact Nat.lt_of_le_of_lt (Nat.shiftRight_le _ _) (by assumption) | exact Nat.lt_of_le_of_lt Nat.and_le_right (by omega))) ml_X5_67 ⟨by decide, by decide⟩ ⟨Nat.le_of_ble_eq_true rfl, Nat.le_of_ble_eq_true rfl⟩ hl (Nat.le_of_ble_eq_true rfl) rfl dX5_divides_2 ?_
  refine z_ifB_ne (tgt := 15) C dX5_divides_5 (by decide) (fun h5 => ?_) (fun h5 => ?_)
  · have g5 := of_decide_eq_true h5
    refine z_iconst C dX5_divides_15 ?_
    refine lv_goto (tgt := 20) C.1 C.2.1 dX5_divides_16 (by decide) ?_
    refine z_iconst C dX5_divides_20 ?_
    refine zo_callD C B (r := some (.int (iZ (zB (true))))) (c_X5_start_bad l D cJ o a (c) (th) (ac) (re) (kn) (true) (1 : Int) (by first | assumption | omega | rfl | exact decide_eq_false (by omega) | exact decide_eq_true (by assumption) | exact decide_eq_true (by omega) | exact one_shl33 (by omega) | exact pm_lt _ _ | exact rm_lt (by first | assumption | exact pm_lt _ _) | exact Nat.lt_of_le_of_lt (Nat.shiftRight_le _ _) (by assumption) | exact Nat.lt_of_le_of_lt Nat.and_le_right (by omega)) (by first | assumption | omega | rfl | exact decide_eq_false (by omega) | exact decide_eq_true (by assumption) | exact decide_eq_true (by omega) | exact one_shl33 (by omega) | exact pm_lt _ _ | exact rm_lt (by first | assumption | exact pm_lt _ _) | exact Nat.lt_of_le_of_lt (Nat.shiftRight_le _ _) (by assumption) | exact Nat.lt_of_le_of_lt Nat.and_le_right (by omega))) ml_X5_71 rfl ⟨Nat.le_of_ble_eq_true rfl, Nat.le_of_ble_eq_true rfl⟩ ⟨Nat.le_of_ble_eq_true rfl, Nat.le_of_ble_eq_true rfl⟩ hl (Nat.le_of_ble_eq_true rfl) rfl dX5_divides_21 (fun H locs B => ?_)
    refine z_ifB_eq (tgt := 29) C dX5_divides_24 (by decide) (fun h24 => ?_) (fun h24 => ?_)
    · exact absurd h24 (by decide)
    · refine z_iconst C dX5_divides_27 ?_
      exact zo_zret C B hr hk (Nat.le_of_ble_eq_true rfl) (Nat.le_of_ble_eq_true rfl) dX5_divides_28 (by decide) (by exact congrArg (fun z : Int => some (Value.int (iZ z))) (by rfl)) (by rfl) (by rfl)
  · have g5 := of_decide_eq_false h5
    refine lv_iload_n C.1 C.2.1 dX5_divides_8 rfl (lv_at hl 2 rfl) ?_
    refine z_call C (c_X5_isNo l (z) (by first | assumption | omega | rfl | exact decide_eq_false (by omega) | exact decide_eq_true (by assumption) | exact decide_eq_true (by omega) | exact one_shl33 (by omega) | exact pm_lt _ _ | exact rm_lt (by first | assumption | exact pm_lt _ _) | exact Nat.lt_of_le_of_lt (Nat.shiftRight_le _ _) (by assumption) | exact Nat.lt_of_le_of_lt Nat.and_le_right (by omega))) ml_X5_67 ⟨by decide, by decide⟩ ⟨Nat.le_of_ble_eq_true rfl, Nat.le_of_ble_eq_true rfl⟩ hl (Nat.le_of_ble_eq_true rfl) rfl dX5_divides_9 ?_
    refine z_ifB_eq (tgt := 19) C dX5_divides_12 (by decide) (fun h12 => ?_) (fun h12 => ?_)
    · have g12 := of_decide_eq_false h12
      refine z_iconst C dX5_divides_19 ?_
      refine z_iconst C dX5_divides_20 ?_
      exfalso; omega
    · have g12 := of_decide_eq_true h12
      refine z_iconst C dX5_divides_15 ?_
      refine lv_goto (tgt := 20) C.1 C.2.1 dX5_divides_16 (by decide) ?_
      refine z_iconst C dX5_divides_20 ?_
      refine zo_callD C B (r := some (.int (iZ (zB (true))))) (c_X5_start_bad l D cJ o a (c) (th) (ac) (re) (kn) (true) (1 : Int) (by first | assumption | omega | rfl | exact decide_eq_false (by omega) | exact decide_eq_true (by assumption) | exact decide_eq_true (by omega) | exact one_shl33 (by omega) | exact pm_lt _ _ | exact rm_lt (by first | assumption | exact pm_lt _ _) | exact Nat.lt_of_le_of_lt (Nat.shiftRight_le _ _) (by assumption) | exact Nat.lt_of_le_of_lt Nat.and_le_right (by omega)) (by first | assumption | omega | rfl | exact decide_eq_false (by omega) | exact decide_eq_true (by assumption) | exact decide_eq_true (by omega) | exact one_shl33 (by omega) | exact pm_lt _ _ | exact rm_lt (by first | assumption | exact pm_lt _ _) | exact Nat.lt_of_le_of_lt (Nat.shiftRight_le _ _) (by assumption) | exact Nat.lt_of_le_of_lt Nat.and_le_right (by omega))) ml_X5_71 rfl ⟨Nat.le_of_ble_eq_true rfl, Nat.le_of_ble_eq_true rfl⟩ ⟨Nat.le_of_ble_eq_true rfl, Nat.le_of_ble_eq_true rfl⟩ hl (Nat.le_of_ble_eq_true rfl) rfl dX5_divides_21 (fun H locs B => ?_)
      refine z_ifB_eq (tgt := 29) C dX5_divides_24 (by decide) (fun h24 => ?_) (fun h24 => ?_)
      · exact absurd h24 (by decide)
      · refine z_iconst C dX5_divides_27 ?_
        exact zo_zret C B hr hk (Nat.le_of_ble_eq_true rfl) (Nat.le_of_ble_eq_true rfl) dX5_divides_28 (by decide) (by exact congrArg (fun z : Int => some (Value.int (iZ z))) (by rfl)) (by rfl) (by rfl)

set_option maxHeartbeats 4000000 in
set_option maxRecDepth 100000 in
theorem c_X5_isFree_bad1 (l : Launch) (D : va_G) (cJ : ClassId) (o a : Nat) (c : Nat → Nat) (th : Int) (ac : Int32) (re : Int32) (kn : Int32) (z : Int) (r9z : -2147483648 ≤ z ∧ z ≤ 2147483647) (hbad : ¬ ((0 ≤ z ∧ z ≤ 5))) : zA l yX5_isFree 2 65 0 0 D 4 cJ o a [.int (iZ (z))] c [.int (iZ (th)), .int (ac), .int (re), .int (kn)] (fun v => v = some (.int (iZ (0)))) (c) [.int (iZ (1)), .int (ac), .int (re), .int (kn)] := by
  refine zA.intro (lo := 44) (nA := 1) (own := RX5) zi_X5_isFree (by decide) rfl rfl (by decide +kernel) rfl (Nat.le_of_ble_eq_true rfl) ?_
  intro p e s m below meth c0 ls C hr hk B hl
  have hl : lv_has ls 2 [(0, .ref o), (1, .int (iZ (z)))] := hl
  refine lv_aload_n C.1 C.2.1 dX5_isFree_0 rfl (lv_at hl 0 rfl) ?_
  refine lv_iload_n C.1 C.2.1 dX5_isFree_1 rfl (lv_at hl 1 rfl) ?_
  refine z_call C (c_X5_isNo l (z) (by first | assumption | omega | rfl | exact decide_eq_false (by omega) | exact decide_eq_true (by assumption) | exact decide_eq_true (by omega) | exact one_shl33 (by omega) | exact pm_lt _ _ | exact rm_lt (by first | assumption | exact pm_lt _ _) | exact Nat.lt_of_le_of_lt (Nat.shiftRight_le _ _) (by assumption) | exact Nat.lt_of_le_of_lt Nat.and_le_right (by omega))) ml_X5_67 ⟨by decide, by decide⟩ ⟨Nat.le_of_ble_eq_true rfl, Nat.le_of_ble_eq_true rfl⟩ hl (Nat.le_of_ble_eq_true rfl) rfl dX5_isFree_2 ?_
  refine z_iconst C dX5_isFree_5 ?_
  refine zo_callD C B (r := some (.int (iZ (zB (true))))) (c_X5_start_bad l D cJ o a (c) (th) (ac) (re) (kn) (decide (¬ (0 ≤ (z) ∧ (z) ≤ 5))) (1 : Int) (by first | assumption | omega | rfl | exact decide_eq_false (by omega) | exact decide_eq_true (by assumption) | exact decide_eq_true (by omega) | exact one_shl33 (by omega) | exact pm_lt _ _ | exact rm_lt (by first | assumption | exact pm_lt _ _) | exact Nat.lt_of_le_of_lt (Nat.shiftRight_le _ _) (by assumption) | exact Nat.lt_of_le_of_lt Nat.and_le_right (by omega)) (by first | assumption | omega | rfl | exact decide_eq_false (by omega) | exact decide_eq_true (by assumption) | exact decide_eq_true (by omega) | exact one_shl33 (by omega) | exact pm_lt _ _ | exact rm_lt (by first | assumption | exact pm_lt _ _) | exact Nat.lt_of_le_of_lt (Nat.shiftRight_le _ _) (by assumption) | exact Nat.lt_of_le_of_lt Nat.and_le_right (by omega))) ml_X5_71 rfl ⟨Nat.le_of_ble_eq_true rfl, Nat.le_of_ble_eq_true rfl⟩ ⟨Nat.le_of_ble_eq_true rfl, Nat.le_of_ble_eq_true rfl⟩ hl (Nat.le_of_ble_eq_true rfl) rfl dX5_isFree_6 (fun H locs B => ?_)
  refine z_ifB_ne (tgt := 45) C dX5_isFree_9 (by decide) (fun h9 => ?_) (fun h9 => ?_)
  · refine z_iconst C dX5_isFree_45 ?_
    exact zo_zret C B hr hk (Nat.le_of_ble_eq_true rfl) (Nat.le_of_ble_eq_true rfl) dX5_isFree_46 (by decide) (by exact congrArg (fun z : Int => some (Value.int (iZ z))) (by rfl)) (by rfl) (by rfl)
  · exact absurd h9 (by decide)

set_option maxHeartbeats 4000000 in
set_option maxRecDepth 100000 in
theorem c_X5_irreducible_bad1 (l : Launch) (D : va_G) (cJ : ClassId) (o a : Nat) (c : Nat → Nat) (th : Int) (ac : Int32) (re : Int32) (kn : Int32) (z : Int) (r9z : -2147483648 ≤ z ∧ z ≤ 2147483647) (hbad : ¬ ((0 ≤ z ∧ z ≤ 5))) : zA l yX5_irreducible 2 65 0 0 D 4 cJ o a [.int (iZ (z))] c [.int (iZ (th)), .int (ac), .int (re), .int (kn)] (fun v => v = some (.int (iZ (0)))) (c) [.int (iZ (1)), .int (ac), .int (re), .int (kn)] := by
  refine zA.intro (lo := 44) (nA := 1) (own := RX5) zi_X5_irreducible (by decide) rfl rfl (by decide +kernel) rfl (Nat.le_of_ble_eq_true rfl) ?_
  intro p e s m below meth c0 ls C hr hk B hl
  have hl : lv_has ls 2 [(0, .ref o), (1, .int (iZ (z)))] := hl
  refine lv_aload_n C.1 C.2.1 dX5_irreducible_0 rfl (lv_at hl 0 rfl) ?_
  refine lv_iload_n C.1 C.2.1 dX5_irreducible_1 rfl (lv_at hl 1 rfl) ?_
  refine z_call C (c_X5_isNo l (z) (by first | assumption | omega | rfl | exact decide_eq_false (by omega) | exact decide_eq_true (by assumption) | exact decide_eq_true (by omega) | exact one_shl33 (by omega) | exact pm_lt _ _ | exact rm_lt (by first | assumption | exact pm_lt _ _) | exact Nat.lt_of_le_of_lt (Nat.shiftRight_le _ _) (by assumption) | exact Nat.lt_of_le_of_lt Nat.and_le_right (by omega))) ml_X5_67 ⟨by decide, by decide⟩ ⟨Nat.le_of_ble_eq_true rfl, Nat.le_of_ble_eq_true rfl⟩ hl (Nat.le_of_ble_eq_true rfl) rfl dX5_irreducible_2 ?_
  refine z_iconst C dX5_irreducible_5 ?_
  refine zo_callD C B (r := some (.int (iZ (zB (true))))) (c_X5_start_bad l D cJ o a (c) (th) (ac) (re) (kn) (decide (¬ (0 ≤ (z) ∧ (z) ≤ 5))) (1 : Int) (by first | assumption | omega | rfl | exact decide_eq_false (by omega) | exact decide_eq_true (by assumption) | exact decide_eq_true (by omega) | exact one_shl33 (by omega) | exact pm_lt _ _ | exact rm_lt (by first | assumption | exact pm_lt _ _) | exact Nat.lt_of_le_of_lt (Nat.shiftRight_le _ _) (by assumption) | exact Nat.lt_of_le_of_lt Nat.and_le_right (by omega)) (by first | assumption | omega | rfl | exact decide_eq_false (by omega) | exact decide_eq_true (by assumption) | exact decide_eq_true (by omega) | exact one_shl33 (by omega) | exact pm_lt _ _ | exact rm_lt (by first | assumption | exact pm_lt _ _) | exact Nat.lt_of_le_of_lt (Nat.shiftRight_le _ _) (by assumption) | exact Nat.lt_of_le_of_lt Nat.and_le_right (by omega))) ml_X5_71 rfl ⟨Nat.le_of_ble_eq_true rfl, Nat.le_of_ble_eq_true rfl⟩ ⟨Nat.le_of_ble_eq_true rfl, Nat.le_of_ble_eq_true rfl⟩ hl (Nat.le_of_ble_eq_true rfl) rfl dX5_irreducible_6 (fun H locs B => ?_)
  refine z_ifB_eq (tgt := 14) C dX5_irreducible_9 (by decide) (fun h9 => ?_) (fun h9 => ?_)
  · exact absurd h9 (by decide)
  · refine z_iconst C dX5_irreducible_12 ?_
    exact zo_iret C B hr hk (Nat.le_of_ble_eq_true rfl) (Nat.le_of_ble_eq_true rfl) dX5_irreducible_13 (by exact congrArg (fun z : Int => some (Value.int (iZ z))) (by rfl)) (by rfl) (by rfl)

set_option maxHeartbeats 4000000 in
set_option maxRecDepth 100000 in
theorem c_X5_rank_bad1 (l : Launch) (D : va_G) (cJ : ClassId) (o a : Nat) (c : Nat → Nat) (th : Int) (ac : Int32) (re : Int32) (kn : Int32) (z : Int) (r9z : -2147483648 ≤ z ∧ z ≤ 2147483647) (hbad : ¬ ((0 ≤ z ∧ z ≤ 5))) : zA l yX5_rank 2 65 0 0 D 4 cJ o a [.int (iZ (z))] c [.int (iZ (th)), .int (ac), .int (re), .int (kn)] (fun v => v = some (.int (iZ (0)))) (c) [.int (iZ (1)), .int (ac), .int (re), .int (kn)] := by
  refine zA.intro (lo := 44) (nA := 1) (own := RX5) zi_X5_rank (by decide) rfl rfl (by decide +kernel) rfl (Nat.le_of_ble_eq_true rfl) ?_
  intro p e s m below meth c0 ls C hr hk B hl
  have hl : lv_has ls 2 [(0, .ref o), (1, .int (iZ (z)))] := hl
  refine lv_aload_n C.1 C.2.1 dX5_rank_0 rfl (lv_at hl 0 rfl) ?_
  refine lv_iload_n C.1 C.2.1 dX5_rank_1 rfl (lv_at hl 1 rfl) ?_
  refine z_call C (c_X5_isNo l (z) (by first | assumption | omega | rfl | exact decide_eq_false (by omega) | exact decide_eq_true (by assumption) | exact decide_eq_true (by omega) | exact one_shl33 (by omega) | exact pm_lt _ _ | exact rm_lt (by first | assumption | exact pm_lt _ _) | exact Nat.lt_of_le_of_lt (Nat.shiftRight_le _ _) (by assumption) | exact Nat.lt_of_le_of_lt Nat.and_le_right (by omega))) ml_X5_67 ⟨by decide, by decide⟩ ⟨Nat.le_of_ble_eq_true rfl, Nat.le_of_ble_eq_true rfl⟩ hl (Nat.le_of_ble_eq_true rfl) rfl dX5_rank_2 ?_
  refine z_iconst C dX5_rank_5 ?_
  refine zo_callD C B (r := some (.int (iZ (zB (true))))) (c_X5_start_bad l D cJ o a (c) (th) (ac) (re) (kn) (decide (¬ (0 ≤ (z) ∧ (z) ≤ 5))) (1 : Int) (by first | assumption | omega | rfl | exact decide_eq_false (by omega) | exact decide_eq_true (by assumption) | exact decide_eq_true (by omega) | exact one_shl33 (by omega) | exact pm_lt _ _ | exact rm_lt (by first | assumption | exact pm_lt _ _) | exact Nat.lt_of_le_of_lt (Nat.shiftRight_le _ _) (by assumption) | exact Nat.lt_of_le_of_lt Nat.and_le_right (by omega)) (by first | assumption | omega | rfl | exact decide_eq_false (by omega) | exact decide_eq_true (by assumption) | exact decide_eq_true (by omega) | exact one_shl33 (by omega) | exact pm_lt _ _ | exact rm_lt (by first | assumption | exact pm_lt _ _) | exact Nat.lt_of_le_of_lt (Nat.shiftRight_le _ _) (by assumption) | exact Nat.lt_of_le_of_lt Nat.and_le_right (by omega))) ml_X5_71 rfl ⟨Nat.le_of_ble_eq_true rfl, Nat.le_of_ble_eq_true rfl⟩ ⟨Nat.le_of_ble_eq_true rfl, Nat.le_of_ble_eq_true rfl⟩ hl (Nat.le_of_ble_eq_true rfl) rfl dX5_rank_6 (fun H locs B => ?_)
  refine z_ifB_eq (tgt := 14) C dX5_rank_9 (by decide) (fun h9 => ?_) (fun h9 => ?_)
  · exact absurd h9 (by decide)
  · refine z_iconst C dX5_rank_12 ?_
    exact zo_iret C B hr hk (Nat.le_of_ble_eq_true rfl) (Nat.le_of_ble_eq_true rfl) dX5_rank_13 (by exact congrArg (fun z : Int => some (Value.int (iZ z))) (by rfl)) (by rfl) (by rfl)

set_option maxHeartbeats 4000000 in
set_option maxRecDepth 100000 in
theorem c_X5_period_bad1 (l : Launch) (D : va_G) (cJ : ClassId) (o a : Nat) (c : Nat → Nat) (th : Int) (ac : Int32) (re : Int32) (kn : Int32) (z : Int) (r9z : -2147483648 ≤ z ∧ z ≤ 2147483647) (hbad : ¬ ((0 ≤ z ∧ z ≤ 5))) : zA l yX5_period 2 68 0 0 D 4 cJ o a [.int (iZ (z))] c [.int (iZ (th)), .int (ac), .int (re), .int (kn)] (fun v => v = some (.int (iZ (0)))) (c) [.int (iZ (1)), .int (ac), .int (re), .int (kn)] := by
  refine zA.intro (lo := 44) (nA := 1) (own := RX5) zi_X5_period (by decide) rfl rfl (by decide +kernel) rfl (Nat.le_of_ble_eq_true rfl) ?_
  intro p e s m below meth c0 ls C hr hk B hl
  have hl : lv_has ls 5 [(0, .ref o), (1, .int (iZ (z)))] := hl
  refine lv_aload_n C.1 C.2.1 dX5_period_0 rfl (lv_at hl 0 rfl) ?_
  refine lv_iload_n C.1 C.2.1 dX5_period_1 rfl (lv_at hl 1 rfl) ?_
  refine z_call C (c_X5_isNo l (z) (by first | assumption | omega | rfl | exact decide_eq_false (by omega) | exact decide_eq_true (by assumption) | exact decide_eq_true (by omega) | exact one_shl33 (by omega) | exact pm_lt _ _ | exact rm_lt (by first | assumption | exact pm_lt _ _) | exact Nat.lt_of_le_of_lt (Nat.shiftRight_le _ _) (by assumption) | exact Nat.lt_of_le_of_lt Nat.and_le_right (by omega))) ml_X5_67 ⟨by decide, by decide⟩ ⟨Nat.le_of_ble_eq_true rfl, Nat.le_of_ble_eq_true rfl⟩ hl (Nat.le_of_ble_eq_true rfl) rfl dX5_period_2 ?_
  refine z_iconst C dX5_period_5 ?_
  refine zo_callD C B (r := some (.int (iZ (zB (true))))) (c_X5_start_bad l D cJ o a (c) (th) (ac) (re) (kn) (decide (¬ (0 ≤ (z) ∧ (z) ≤ 5))) (1 : Int) (by first | assumption | omega | rfl | exact decide_eq_false (by omega) | exact decide_eq_true (by assumption) | exact decide_eq_true (by omega) | exact one_shl33 (by omega) | exact pm_lt _ _ | exact rm_lt (by first | assumption | exact pm_lt _ _) | exact Nat.lt_of_le_of_lt (Nat.shiftRight_le _ _) (by assumption) | exact Nat.lt_of_le_of_lt Nat.and_le_right (by omega)) (by first | assumption | omega | rfl | exact decide_eq_false (by omega) | exact decide_eq_true (by assumption) | exact decide_eq_true (by omega) | exact one_shl33 (by omega) | exact pm_lt _ _ | exact rm_lt (by first | assumption | exact pm_lt _ _) | exact Nat.lt_of_le_of_lt (Nat.shiftRight_le _ _) (by assumption) | exact Nat.lt_of_le_of_lt Nat.and_le_right (by omega))) ml_X5_71 rfl ⟨Nat.le_of_ble_eq_true rfl, Nat.le_of_ble_eq_true rfl⟩ ⟨Nat.le_of_ble_eq_true rfl, Nat.le_of_ble_eq_true rfl⟩ hl (Nat.le_of_ble_eq_true rfl) rfl dX5_period_6 (fun H locs B => ?_)
  refine z_ifB_eq (tgt := 14) C dX5_period_9 (by decide) (fun h9 => ?_) (fun h9 => ?_)
  · exact absurd h9 (by decide)
  · refine z_iconst C dX5_period_12 ?_
    exact zo_iret C B hr hk (Nat.le_of_ble_eq_true rfl) (Nat.le_of_ble_eq_true rfl) dX5_period_13 (by exact congrArg (fun z : Int => some (Value.int (iZ z))) (by rfl)) (by rfl) (by rfl)

set_option maxHeartbeats 4000000 in
set_option maxRecDepth 100000 in
theorem c_X5_find_bad1 (l : Launch) (D : va_G) (cJ : ClassId) (o a : Nat) (c : Nat → Nat) (th : Int) (ac : Int32) (re : Int32) (kn : Int32) (z : Int) (b : Bool) (r9z : -2147483648 ≤ z ∧ z ≤ 2147483647) (hbad : ¬ ((0 ≤ z ∧ z ≤ 5))) : zA l yX5_find 2 66 0 0 D 4 cJ o a [.int (iZ (z)), .int (iZ (zB (b)))] c [.int (iZ (th)), .int (ac), .int (re), .int (kn)] (fun v => v = some (.int (iZ (0)))) (c) [.int (iZ (1)), .int (ac), .int (re), .int (kn)] := by
  refine zA.intro (lo := 44) (nA := 2) (own := RX5) zi_X5_find (by decide) rfl rfl (by decide +kernel) rfl (Nat.le_of_ble_eq_true rfl) ?_
  intro p e s m below meth c0 ls C hr hk B hl
  have hl : lv_has ls 3 [(0, .ref o), (1, .int (iZ (z))), (2, .int (iZ (zB (b))))] := hl
  refine lv_aload_n C.1 C.2.1 dX5_find_0 rfl (lv_at hl 0 rfl) ?_
  refine lv_iload_n C.1 C.2.1 dX5_find_1 rfl (lv_at hl 1 rfl) ?_
  refine z_call C (c_X5_isNo l (z) (by first | assumption | omega | rfl | exact decide_eq_false (by omega) | exact decide_eq_true (by assumption) | exact decide_eq_true (by omega) | exact one_shl33 (by omega) | exact pm_lt _ _ | exact rm_lt (by first | assumption | exact pm_lt _ _) | exact Nat.lt_of_le_of_lt (Nat.shiftRight_le _ _) (by assumption) | exact Nat.lt_of_le_of_lt Nat.and_le_right (by omega))) ml_X5_67 ⟨by decide, by decide⟩ ⟨Nat.le_of_ble_eq_true rfl, Nat.le_of_ble_eq_true rfl⟩ hl (Nat.le_of_ble_eq_true rfl) rfl dX5_find_2 ?_
  refine z_iconst C dX5_find_5 ?_
  refine zo_callD C B (r := some (.int (iZ (zB (true))))) (c_X5_start_bad l D cJ o a (c) (th) (ac) (re) (kn) (decide (¬ (0 ≤ (z) ∧ (z) ≤ 5))) (1 : Int) (by first | assumption | omega | rfl | exact decide_eq_false (by omega) | exact decide_eq_true (by assumption) | exact decide_eq_true (by omega) | exact one_shl33 (by omega) | exact pm_lt _ _ | exact rm_lt (by first | assumption | exact pm_lt _ _) | exact Nat.lt_of_le_of_lt (Nat.shiftRight_le _ _) (by assumption) | exact Nat.lt_of_le_of_lt Nat.and_le_right (by omega)) (by first | assumption | omega | rfl | exact decide_eq_false (by omega) | exact decide_eq_true (by assumption) | exact decide_eq_true (by omega) | exact one_shl33 (by omega) | exact pm_lt _ _ | exact rm_lt (by first | assumption | exact pm_lt _ _) | exact Nat.lt_of_le_of_lt (Nat.shiftRight_le _ _) (by assumption) | exact Nat.lt_of_le_of_lt Nat.and_le_right (by omega))) ml_X5_71 rfl ⟨Nat.le_of_ble_eq_true rfl, Nat.le_of_ble_eq_true rfl⟩ ⟨Nat.le_of_ble_eq_true rfl, Nat.le_of_ble_eq_true rfl⟩ hl (Nat.le_of_ble_eq_true rfl) rfl dX5_find_6 (fun H locs B => ?_)
  refine z_ifB_eq (tgt := 16) C dX5_find_9 (by decide) (fun h9 => ?_) (fun h9 => ?_)
  · exact absurd h9 (by decide)
  · refine z_iconst C dX5_find_12 ?_
    refine lv_goto (tgt := 22) C.1 C.2.1 dX5_find_13 (by decide) ?_
    exact zo_iret C B hr hk (Nat.le_of_ble_eq_true rfl) (Nat.le_of_ble_eq_true rfl) dX5_find_22 (by exact congrArg (fun z : Int => some (Value.int (iZ z))) (by rfl)) (by rfl) (by rfl)

set_option maxHeartbeats 4000000 in
set_option maxRecDepth 100000 in
theorem c_X5_many_bad1 (l : Launch) (D : va_G) (cJ : ClassId) (o a : Nat) (c : Nat → Nat) (th : Int) (ac : Int32) (re : Int32) (kn : Int32) (z : Int) (r9z : -2147483648 ≤ z ∧ z ≤ 2147483647) (hbad : ¬ (1 ≤ z ∧ z ≤ 8)) : zA l yX5_many 2 65 0 0 D 4 cJ o a [.int (iZ (z))] c [.int (iZ (th)), .int (ac), .int (re), .int (kn)] (fun v => v = some (.int (iZ (0)))) (c) [.int (iZ (1)), .int (ac), .int (re), .int (kn)] := by
  refine zA.intro (lo := 44) (nA := 1) (own := RX5) zi_X5_many (by decide) rfl rfl (by decide +kernel) rfl (Nat.le_of_ble_eq_true rfl) ?_
  intro p e s m below meth c0 ls C hr hk B hl
  have hl : lv_has ls 2 [(0, .ref o), (1, .int (iZ (z)))] := hl
  refine lv_aload_n C.1 C.2.1 dX5_many_0 rfl (lv_at hl 0 rfl) ?_
  refine lv_iload_n C.1 C.2.1 dX5_many_1 rfl (lv_at hl 1 rfl) ?_
  refine z_iconst C dX5_many_2 ?_
  refine z_bipush C dX5_many_3 (by decide) ?_
  refine z_call C (c_X5_isIn l (z) (1 : Int) (8 : Int) (by first | assumption | omega | rfl | exact decide_eq_false (by omega) | exact decide_eq_true (by assumption) | exact decide_eq_true (by omega) | exact one_shl33 (by omega) | exact pm_lt _ _ | exact rm_lt (by first | assumption | exact pm_lt _ _) | exact Nat.lt_of_le_of_lt (Nat.shiftRight_le _ _) (by assumption) | exact Nat.lt_of_le_of_lt Nat.and_le_right (by omega)) (by first | assumption | omega | rfl | exact decide_eq_false (by omega) | exact decide_eq_true (by assumption) | exact decide_eq_true (by omega) | exact one_shl33 (by omega) | exact pm_lt _ _ | exact rm_lt (by first | assumption | exact pm_lt _ _) | exact Nat.lt_of_le_of_lt (Nat.shiftRight_le _ _) (by assumption) | exact Nat.lt_of_le_of_lt Nat.and_le_right (by omega)) (by first | assumption | omega | rfl | exact decide_eq_false (by omega) | exact decide_eq_true (by assumption) | exact decide_eq_true (by omega) | exact one_shl33 (by omega) | exact pm_lt _ _ | exact rm_lt (by first | assumption | exact pm_lt _ _) | exact Nat.lt_of_le_of_lt (Nat.shiftRight_le _ _) (by assumption) | exact Nat.lt_of_le_of_lt Nat.and_le_right (by omega))) ml_X5_21 ⟨by decide, by decide⟩ ⟨Nat.le_of_ble_eq_true rfl, Nat.le_of_ble_eq_true rfl⟩ hl (Nat.le_of_ble_eq_true rfl) rfl dX5_many_5 ?_
  refine z_ifB_ne (tgt := 15) C dX5_many_8 (by decide) (fun h8 => ?_) (fun h8 => ?_)
  · have g8 := of_decide_eq_true h8
    refine z_iconst C dX5_many_15 ?_
    refine z_iconst C dX5_many_16 ?_
    exfalso; omega
  · have g8 := of_decide_eq_false h8
    refine z_iconst C dX5_many_11 ?_
    refine lv_goto (tgt := 16) C.1 C.2.1 dX5_many_12 (by decide) ?_
    refine z_iconst C dX5_many_16 ?_
    refine zo_callD C B (r := some (.int (iZ (zB (true))))) (c_X5_start_bad l D cJ o a (c) (th) (ac) (re) (kn) (true) (1 : Int) (by first | assumption | omega | rfl | exact decide_eq_false (by omega) | exact decide_eq_true (by assumption) | exact decide_eq_true (by omega) | exact one_shl33 (by omega) | exact pm_lt _ _ | exact rm_lt (by first | assumption | exact pm_lt _ _) | exact Nat.lt_of_le_of_lt (Nat.shiftRight_le _ _) (by assumption) | exact Nat.lt_of_le_of_lt Nat.and_le_right (by omega)) (by first | assumption | omega | rfl | exact decide_eq_false (by omega) | exact decide_eq_true (by assumption) | exact decide_eq_true (by omega) | exact one_shl33 (by omega) | exact pm_lt _ _ | exact rm_lt (by first | assumption | exact pm_lt _ _) | exact Nat.lt_of_le_of_lt (Nat.shiftRight_le _ _) (by assumption) | exact Nat.lt_of_le_of_lt Nat.and_le_right (by omega))) ml_X5_71 rfl ⟨Nat.le_of_ble_eq_true rfl, Nat.le_of_ble_eq_true rfl⟩ ⟨Nat.le_of_ble_eq_true rfl, Nat.le_of_ble_eq_true rfl⟩ hl (Nat.le_of_ble_eq_true rfl) rfl dX5_many_17 (fun H locs B => ?_)
    refine z_ifB_eq (tgt := 27) C dX5_many_20 (by decide) (fun h20 => ?_) (fun h20 => ?_)
    · exact absurd h20 (by decide)
    · refine z_iconst C dX5_many_23 ?_
      refine lv_goto (tgt := 31) C.1 C.2.1 dX5_many_24 (by decide) ?_
      exact zo_iret C B hr hk (Nat.le_of_ble_eq_true rfl) (Nat.le_of_ble_eq_true rfl) dX5_many_31 (by exact congrArg (fun z : Int => some (Value.int (iZ z))) (by rfl)) (by rfl) (by rfl)

set_option maxHeartbeats 4000000 in
set_option maxRecDepth 100000 in
theorem c_X5_house_bad1 (l : Launch) (D : va_G) (cJ : ClassId) (o a : Nat) (c : Nat → Nat) (th : Int) (ac : Int32) (re : Int32) (kn : Int32) (z : Int) (r9z : -2147483648 ≤ z ∧ z ≤ 2147483647) (hbad : ¬ (0 ≤ z ∧ z ≤ 4)) : zA l yX5_house 2 65 0 0 D 4 cJ o a [.int (iZ (z))] c [.int (iZ (th)), .int (ac), .int (re), .int (kn)] (fun v => v = some (.int (iZ (0)))) (c) [.int (iZ (1)), .int (ac), .int (re), .int (kn)] := by
  refine zA.intro (lo := 44) (nA := 1) (own := RX5) zi_X5_house (by decide) rfl rfl (by decide +kernel) rfl (Nat.le_of_ble_eq_true rfl) ?_
  intro p e s m below meth c0 ls C hr hk B hl
  have hl : lv_has ls 2 [(0, .ref o), (1, .int (iZ (z)))] := hl
  refine lv_aload_n C.1 C.2.1 dX5_house_0 rfl (lv_at hl 0 rfl) ?_
  refine lv_iload_n C.1 C.2.1 dX5_house_1 rfl (lv_at hl 1 rfl) ?_
  refine z_iconst C dX5_house_2 ?_
  refine z_iconst C dX5_house_3 ?_
  refine z_call C (c_X5_isIn l (z) (0 : Int) (4 : Int) (by first | assumption | omega | rfl | exact decide_eq_false (by omega) | exact decide_eq_true (by assumption) | exact decide_eq_true (by omega) | exact one_shl33 (by omega) | exact pm_lt _ _ | exact rm_lt (by first | assumption | exact pm_lt _ _) | exact Nat.lt_of_le_of_lt (Nat.shiftRight_le _ _) (by assumption) | exact Nat.lt_of_le_of_lt Nat.and_le_right (by omega)) (by first | assumption | omega | rfl | exact decide_eq_false (by omega) | exact decide_eq_true (by assumption) | exact decide_eq_true (by omega) | exact one_shl33 (by omega) | exact pm_lt _ _ | exact rm_lt (by first | assumption | exact pm_lt _ _) | exact Nat.lt_of_le_of_lt (Nat.shiftRight_le _ _) (by assumption) | exact Nat.lt_of_le_of_lt Nat.and_le_right (by omega)) (by first | assumption | omega | rfl | exact decide_eq_false (by omega) | exact decide_eq_true (by assumption) | exact decide_eq_true (by omega) | exact one_shl33 (by omega) | exact pm_lt _ _ | exact rm_lt (by first | assumption | exact pm_lt _ _) | exact Nat.lt_of_le_of_lt (Nat.shiftRight_le _ _) (by assumption) | exact Nat.lt_of_le_of_lt Nat.and_le_right (by omega))) ml_X5_21 ⟨by decide, by decide⟩ ⟨Nat.le_of_ble_eq_true rfl, Nat.le_of_ble_eq_true rfl⟩ hl (Nat.le_of_ble_eq_true rfl) rfl dX5_house_4 ?_
  refine z_ifB_ne (tgt := 14) C dX5_house_7 (by decide) (fun h7 => ?_) (fun h7 => ?_)
  · have g7 := of_decide_eq_true h7
    refine z_iconst C dX5_house_14 ?_
    refine z_iconst C dX5_house_15 ?_
    exfalso; omega
  · have g7 := of_decide_eq_false h7
    refine z_iconst C dX5_house_10 ?_
    refine lv_goto (tgt := 15) C.1 C.2.1 dX5_house_11 (by decide) ?_
    refine z_iconst C dX5_house_15 ?_
    refine zo_callD C B (r := some (.int (iZ (zB (true))))) (c_X5_start_bad l D cJ o a (c) (th) (ac) (re) (kn) (true) (1 : Int) (by first | assumption | omega | rfl | exact decide_eq_false (by omega) | exact decide_eq_true (by assumption) | exact decide_eq_true (by omega) | exact one_shl33 (by omega) | exact pm_lt _ _ | exact rm_lt (by first | assumption | exact pm_lt _ _) | exact Nat.lt_of_le_of_lt (Nat.shiftRight_le _ _) (by assumption) | exact Nat.lt_of_le_of_lt Nat.and_le_right (by omega)) (by first | assumption | omega | rfl | exact decide_eq_false (by omega) | exact decide_eq_true (by assumption) | exact decide_eq_true (by omega) | exact one_shl33 (by omega) | exact pm_lt _ _ | exact rm_lt (by first | assumption | exact pm_lt _ _) | exact Nat.lt_of_le_of_lt (Nat.shiftRight_le _ _) (by assumption) | exact Nat.lt_of_le_of_lt Nat.and_le_right (by omega))) ml_X5_71 rfl ⟨Nat.le_of_ble_eq_true rfl, Nat.le_of_ble_eq_true rfl⟩ ⟨Nat.le_of_ble_eq_true rfl, Nat.le_of_ble_eq_true rfl⟩ hl (Nat.le_of_ble_eq_true rfl) rfl dX5_house_16 (fun H locs B => ?_)
    refine z_ifB_eq (tgt := 26) C dX5_house_19 (by decide) (fun h19 => ?_) (fun h19 => ?_)
    · exact absurd h19 (by decide)
    · refine z_iconst C dX5_house_22 ?_
      refine lv_goto (tgt := 31) C.1 C.2.1 dX5_house_23 (by decide) ?_
      exact zo_iret C B hr hk (Nat.le_of_ble_eq_true rfl) (Nat.le_of_ble_eq_true rfl) dX5_house_31 (by exact congrArg (fun z : Int => some (Value.int (iZ z))) (by rfl)) (by rfl) (by rfl)

set_option maxHeartbeats 4000000 in
set_option maxRecDepth 100000 in
theorem c_X5_formula_bad1 (l : Launch) (D : va_G) (cJ : ClassId) (o a : Nat) (c : Nat → Nat) (th : Int) (ac : Int32) (re : Int32) (kn : Int32) (z : Int) (r9z : -2147483648 ≤ z ∧ z ≤ 2147483647) (hbad : ¬ (1 ≤ z ∧ z ≤ 8)) : zA l yX5_formula 2 67 0 0 D 4 cJ o a [.int (iZ (z))] c [.int (iZ (th)), .int (ac), .int (re), .int (kn)] (fun v => v = some (.int (iZ (0)))) (c) [.int (iZ (1)), .int (ac), .int (re), .int (kn)] := by
  refine zA.intro (lo := 44) (nA := 1) (own := RX5) zi_X5_formula (by decide) rfl rfl (by decide +kernel) rfl (Nat.le_of_ble_eq_true rfl) ?_
  intro p e s m below meth c0 ls C hr hk B hl
  have hl : lv_has ls 4 [(0, .ref o), (1, .int (iZ (z)))] := hl
  refine lv_aload_n C.1 C.2.1 dX5_formula_0 rfl (lv_at hl 0 rfl) ?_
  refine lv_iload_n C.1 C.2.1 dX5_formula_1 rfl (lv_at hl 1 rfl) ?_
  refine z_iconst C dX5_formula_2 ?_
  refine z_bipush C dX5_formula_3 (by decide) ?_
  refine z_call C (c_X5_isIn l (z) (1 : Int) (8 : Int) (by first | assumption | omega | rfl | exact decide_eq_false (by omega) | exact decide_eq_true (by assumption) | exact decide_eq_true (by omega) | exact one_shl33 (by omega) | exact pm_lt _ _ | exact rm_lt (by first | assumption | exact pm_lt _ _) | exact Nat.lt_of_le_of_lt (Nat.shiftRight_le _ _) (by assumption) | exact Nat.lt_of_le_of_lt Nat.and_le_right (by omega)) (by first | assumption | omega | rfl | exact decide_eq_false (by omega) | exact decide_eq_true (by assumption) | exact decide_eq_true (by omega) | exact one_shl33 (by omega) | exact pm_lt _ _ | exact rm_lt (by first | assumption | exact pm_lt _ _) | exact Nat.lt_of_le_of_lt (Nat.shiftRight_le _ _) (by assumption) | exact Nat.lt_of_le_of_lt Nat.and_le_right (by omega)) (by first | assumption | omega | rfl | exact decide_eq_false (by omega) | exact decide_eq_true (by assumption) | exact decide_eq_true (by omega) | exact one_shl33 (by omega) | exact pm_lt _ _ | exact rm_lt (by first | assumption | exact pm_lt _ _) | exact Nat.lt_of_le_of_lt (Nat.shiftRight_le _ _) (by assumption) | exact Nat.lt_of_le_of_lt Nat.and_le_right (by omega))) ml_X5_21 ⟨by decide, by decide⟩ ⟨Nat.le_of_ble_eq_true rfl, Nat.le_of_ble_eq_true rfl⟩ hl (Nat.le_of_ble_eq_true rfl) rfl dX5_formula_5 ?_
  refine z_ifB_ne (tgt := 15) C dX5_formula_8 (by decide) (fun h8 => ?_) (fun h8 => ?_)
  · have g8 := of_decide_eq_true h8
    refine z_iconst C dX5_formula_15 ?_
    refine z_iconst C dX5_formula_16 ?_
    exfalso; omega
  · have g8 := of_decide_eq_false h8
    refine z_iconst C dX5_formula_11 ?_
    refine lv_goto (tgt := 16) C.1 C.2.1 dX5_formula_12 (by decide) ?_
    refine z_iconst C dX5_formula_16 ?_
    refine zo_callD C B (r := some (.int (iZ (zB (true))))) (c_X5_start_bad l D cJ o a (c) (th) (ac) (re) (kn) (true) (1 : Int) (by first | assumption | omega | rfl | exact decide_eq_false (by omega) | exact decide_eq_true (by assumption) | exact decide_eq_true (by omega) | exact one_shl33 (by omega) | exact pm_lt _ _ | exact rm_lt (by first | assumption | exact pm_lt _ _) | exact Nat.lt_of_le_of_lt (Nat.shiftRight_le _ _) (by assumption) | exact Nat.lt_of_le_of_lt Nat.and_le_right (by omega)) (by first | assumption | omega | rfl | exact decide_eq_false (by omega) | exact decide_eq_true (by assumption) | exact decide_eq_true (by omega) | exact one_shl33 (by omega) | exact pm_lt _ _ | exact rm_lt (by first | assumption | exact pm_lt _ _) | exact Nat.lt_of_le_of_lt (Nat.shiftRight_le _ _) (by assumption) | exact Nat.lt_of_le_of_lt Nat.and_le_right (by omega))) ml_X5_71 rfl ⟨Nat.le_of_ble_eq_true rfl, Nat.le_of_ble_eq_true rfl⟩ ⟨Nat.le_of_ble_eq_true rfl, Nat.le_of_ble_eq_true rfl⟩ hl (Nat.le_of_ble_eq_true rfl) rfl dX5_formula_17 (fun H locs B => ?_)
    refine z_ifB_eq (tgt := 25) C dX5_formula_20 (by decide) (fun h20 => ?_) (fun h20 => ?_)
    · exact absurd h20 (by decide)
    · refine z_iconst C dX5_formula_23 ?_
      exact zo_iret C B hr hk (Nat.le_of_ble_eq_true rfl) (Nat.le_of_ble_eq_true rfl) dX5_formula_24 (by exact congrArg (fun z : Int => some (Value.int (iZ z))) (by rfl)) (by rfl) (by rfl)
