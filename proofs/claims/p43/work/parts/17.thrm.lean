set_option maxHeartbeats 4000000 in
set_option maxRecDepth 100000 in
theorem c_X3_checkCell_bad (l : Launch) (hlq : l.stackTraces = false) (D : va_G) (cJ : ClassId) (o a : Nat) (c : Nat → Nat) (ac : Int32) (re : Int32) (kn : Int32) (z : Int) (r9z : -2147483648 ≤ z ∧ z ≤ 2147483647) (hbad : ¬ (0 ≤ z ∧ z ≤ 5)) : zXI l yX3_checkCell 6 103 D cJ o a [.int (iZ (z))] c [.int (ac), .int (re), .int (kn)] "java/lang/IndexOutOfBoundsException" := by
  refine zXI.intro (lo := 82) (nA := 1) (own := RX3) zi_X3_checkCell (by decide) rfl rfl (by decide +kernel) rfl (Nat.le_of_ble_eq_true rfl) ?_
  intro p e s m below meth c0 ls C htab hk B Zs hl
  have hl : lv_has ls 2 [(0, .ref o), (1, .int (iZ (z)))] := hl
  refine lv_iload_n C.1 C.2.1 dX3_checkCell_0 rfl (lv_at hl 1 rfl) ?_
  refine z_if_lt (tgt := 13) C (by omega) dX3_checkCell_1 (by decide) (fun h1 => ?_) (fun h1 => ?_)
  · exact zx_throwI C hlq (Zs.narrow (fun _ z => z.elim)) htab hk B hl dX3_checkCell_13 dX3_checkCell_16 dX3_checkCell_17 dX3_checkCell_19 dX3_checkCell_22 ⟨Nat.le_of_ble_eq_true rfl, Nat.le_of_ble_eq_true rfl, Nat.le_of_ble_eq_true rfl, Nat.le_of_ble_eq_true rfl⟩
  · refine lv_iload_n C.1 C.2.1 dX3_checkCell_4 rfl (lv_at hl 1 rfl) ?_
    refine lv_aload_n C.1 C.2.1 dX3_checkCell_5 rfl (lv_at hl 0 rfl) ?_
    refine zo_get C B (Cn := RX3) (T := TX3) (N := 4) (v := .ref a) rfl inX3 0 (by decide) fl_X3_9 rfl rfl dX3_checkCell_6 ?_
    refine zo_alen C B dX3_checkCell_9 ?_
    refine z_icmp_lt (tgt := 23) C (by omega) (by omega) dX3_checkCell_10 (by decide) (fun h10 => ?_) (fun h10 => ?_)
    · exact absurd h10 (by omega)
    · exact zx_throwI C hlq (Zs.narrow (fun _ z => z.elim)) htab hk B hl dX3_checkCell_13 dX3_checkCell_16 dX3_checkCell_17 dX3_checkCell_19 dX3_checkCell_22 ⟨Nat.le_of_ble_eq_true rfl, Nat.le_of_ble_eq_true rfl, Nat.le_of_ble_eq_true rfl, Nat.le_of_ble_eq_true rfl⟩

set_option maxHeartbeats 4000000 in
set_option maxRecDepth 100000 in
theorem c_X3_checkRange_bad (l : Launch) (hlq : l.stackTraces = false) (v : Int) (a : Int) (b : Int) (r9v : -2147483648 ≤ v ∧ v ≤ 2147483647) (r9a : -2147483648 ≤ a ∧ a ≤ 2147483647) (r9b : -2147483648 ≤ b ∧ b ≤ 2147483647) (hbad : ¬ (a ≤ v ∧ v ≤ b)) : zXS l yX3_checkRange 6 104 [.int (iZ (v)), .int (iZ (a)), .int (iZ (b))] "java/lang/IllegalArgumentException" := by
  refine zXS.intro (lo := 82) (nA := 3) (own := RX3) zs_X3_checkRange (by decide) rfl rfl (by decide +kernel) rfl (Nat.le_of_ble_eq_true rfl) ?_
  intro p e s m below meth c0 ls C htab hk Zs hl
  have hl : lv_has ls 3 [(0, .int (iZ (v))), (1, .int (iZ (a))), (2, .int (iZ (b)))] := hl
  refine lv_iload_n C.1 C.2.1 dX3_checkRange_0 rfl (lv_at hl 0 rfl) ?_
  refine lv_iload_n C.1 C.2.1 dX3_checkRange_1 rfl (lv_at hl 1 rfl) ?_
  refine z_icmp_lt (tgt := 10) C (by omega) (by omega) dX3_checkRange_2 (by decide) (fun h2 => ?_) (fun h2 => ?_)
  · exact zx_throwA C hlq Zs htab hk hl dX3_checkRange_10 dX3_checkRange_13 dX3_checkRange_14 dX3_checkRange_16 dX3_checkRange_19 ⟨Nat.le_of_ble_eq_true rfl, Nat.le_of_ble_eq_true rfl, Nat.le_of_ble_eq_true rfl, Nat.le_of_ble_eq_true rfl⟩
  · refine lv_iload_n C.1 C.2.1 dX3_checkRange_5 rfl (lv_at hl 0 rfl) ?_
    refine lv_iload_n C.1 C.2.1 dX3_checkRange_6 rfl (lv_at hl 2 rfl) ?_
    refine z_icmp_le (tgt := 20) C (by omega) (by omega) dX3_checkRange_7 (by decide) (fun h7 => ?_) (fun h7 => ?_)
    · exact absurd h7 (by omega)
    · exact zx_throwA C hlq Zs htab hk hl dX3_checkRange_10 dX3_checkRange_13 dX3_checkRange_14 dX3_checkRange_16 dX3_checkRange_19 ⟨Nat.le_of_ble_eq_true rfl, Nat.le_of_ble_eq_true rfl, Nat.le_of_ble_eq_true rfl, Nat.le_of_ble_eq_true rfl⟩

set_option maxHeartbeats 4000000 in
set_option maxRecDepth 100000 in
theorem c_X3_polyIn_bad (l : Launch) (hlq : l.stackTraces = false) (D : va_G) (cJ : ClassId) (o a : Nat) (c : Nat → Nat) (ac : Int32) (re : Int32) (kn : Int32) (z : Int) (r9z : -2147483648 ≤ z ∧ z ≤ 2147483647) (hbad : ¬ (0 ≤ z ∧ z ≤ 5)) : zXI l yX3_polyIn 7 124 D cJ o a [.int (iZ (z))] c [.int (ac), .int (re), .int (kn)] "java/lang/IndexOutOfBoundsException" := by
  refine zXI.intro (lo := 103) (nA := 1) (own := RX3) zi_X3_polyIn (by decide) rfl rfl (by decide +kernel) rfl (Nat.le_of_ble_eq_true rfl) ?_
  intro p e s m below meth c0 ls C htab hk B Zs hl
  have hl : lv_has ls 2 [(0, .ref o), (1, .int (iZ (z)))] := hl
  refine lv_aload_n C.1 C.2.1 dX3_polyIn_0 rfl (lv_at hl 0 rfl) ?_
  refine lv_iload_n C.1 C.2.1 dX3_polyIn_1 rfl (lv_at hl 1 rfl) ?_
  by_cases hq2 : 0 ≤ (z) ∧ (z) ≤ 5
  rotate_left
  · exact zx_callI C B Zs htab hk (c_X3_checkCell_bad l hlq D cJ o a (c) ac re kn (z) (by first | omega | assumption) (by first | omega | assumption)) ml_X3_23 rfl ⟨Nat.le_of_ble_eq_true rfl, Nat.le_of_ble_eq_true rfl⟩ ⟨Nat.le_of_ble_eq_true rfl, Nat.le_of_ble_eq_true rfl⟩ ⟨Nat.le_of_ble_eq_true rfl, Nat.le_of_ble_eq_true rfl⟩ hl (Nat.le_of_ble_eq_true rfl) rfl dX3_polyIn_2
  exfalso; omega

set_option maxHeartbeats 4000000 in
set_option maxRecDepth 100000 in
theorem c_X3_put_badc (l : Launch) (hlq : l.stackTraces = false) (D : va_G) (cJ : ClassId) (o a : Nat) (c : Nat → Nat) (ac : Int32) (re : Int32) (kn : Int32) (z : Int) (g : Int) (r9z : -2147483648 ≤ z ∧ z ≤ 2147483647) (r9g : -2147483648 ≤ g ∧ g ≤ 2147483647) (hbad : ¬ ((0 ≤ z ∧ z ≤ 5))) : zXI l yX3_put 7 125 D cJ o a [.int (iZ (z)), .int (iZ (g))] c [.int (ac), .int (re), .int (kn)] "java/lang/IndexOutOfBoundsException" := by
  refine zXI.intro (lo := 103) (nA := 2) (own := RX3) zi_X3_put (by decide) rfl rfl (by decide +kernel) rfl (Nat.le_of_ble_eq_true rfl) ?_
  intro p e s m below meth c0 ls C htab hk B Zs hl
  have hl : lv_has ls 3 [(0, .ref o), (1, .int (iZ (z))), (2, .int (iZ (g)))] := hl
  refine lv_aload_n C.1 C.2.1 dX3_put_0 rfl (lv_at hl 0 rfl) ?_
  refine lv_iload_n C.1 C.2.1 dX3_put_1 rfl (lv_at hl 1 rfl) ?_
  by_cases hq2 : 0 ≤ (z) ∧ (z) ≤ 5
  rotate_left
  · exact zx_callI C B Zs htab hk (c_X3_checkCell_bad l hlq D cJ o a (c) ac re kn (z) (by first | omega | assumption) (by first | omega | assumption)) ml_X3_23 rfl ⟨Nat.le_of_ble_eq_true rfl, Nat.le_of_ble_eq_true rfl⟩ ⟨Nat.le_of_ble_eq_true rfl, Nat.le_of_ble_eq_true rfl⟩ ⟨Nat.le_of_ble_eq_true rfl, Nat.le_of_ble_eq_true rfl⟩ hl (Nat.le_of_ble_eq_true rfl) rfl dX3_put_2
  exfalso; omega

set_option maxHeartbeats 4000000 in
set_option maxRecDepth 100000 in
theorem c_X3_mono_badc (l : Launch) (hlq : l.stackTraces = false) (D : va_G) (cJ : ClassId) (o a : Nat) (c : Nat → Nat) (ac : Int32) (re : Int32) (kn : Int32) (z : Int) (g : Int) (r9z : -2147483648 ≤ z ∧ z ≤ 2147483647) (r9g : -2147483648 ≤ g ∧ g ≤ 2147483647) (hbad : ¬ ((0 ≤ z ∧ z ≤ 5))) : zXI l yX3_mono 7 125 D cJ o a [.int (iZ (z)), .int (iZ (g))] c [.int (ac), .int (re), .int (kn)] "java/lang/IndexOutOfBoundsException" := by
  refine zXI.intro (lo := 103) (nA := 2) (own := RX3) zi_X3_mono (by decide) rfl rfl (by decide +kernel) rfl (Nat.le_of_ble_eq_true rfl) ?_
  intro p e s m below meth c0 ls C htab hk B Zs hl
  have hl : lv_has ls 3 [(0, .ref o), (1, .int (iZ (z))), (2, .int (iZ (g)))] := hl
  refine lv_aload_n C.1 C.2.1 dX3_mono_0 rfl (lv_at hl 0 rfl) ?_
  refine lv_iload_n C.1 C.2.1 dX3_mono_1 rfl (lv_at hl 1 rfl) ?_
  by_cases hq2 : 0 ≤ (z) ∧ (z) ≤ 5
  rotate_left
  · exact zx_callI C B Zs htab hk (c_X3_checkCell_bad l hlq D cJ o a (c) ac re kn (z) (by first | omega | assumption) (by first | omega | assumption)) ml_X3_23 rfl ⟨Nat.le_of_ble_eq_true rfl, Nat.le_of_ble_eq_true rfl⟩ ⟨Nat.le_of_ble_eq_true rfl, Nat.le_of_ble_eq_true rfl⟩ ⟨Nat.le_of_ble_eq_true rfl, Nat.le_of_ble_eq_true rfl⟩ hl (Nat.le_of_ble_eq_true rfl) rfl dX3_mono_2
  exfalso; omega

set_option maxHeartbeats 4000000 in
set_option maxRecDepth 100000 in
theorem c_X3_mono_badr (l : Launch) (hlq : l.stackTraces = false) (D : va_G) (cJ : ClassId) (o a : Nat) (c : Nat → Nat) (ac : Int32) (re : Int32) (kn : Int32) (z : Int) (g : Int) (r9z : -2147483648 ≤ z ∧ z ≤ 2147483647) (r9g : -2147483648 ≤ g ∧ g ≤ 2147483647) (hz : 0 ≤ z ∧ z ≤ 5) (hbad : ¬ ((0 ≤ g ∧ g ≤ 32))) : zXI l yX3_mono 7 126 D cJ o a [.int (iZ (z)), .int (iZ (g))] c [.int (ac), .int (re), .int (kn)] "java/lang/IllegalArgumentException" := by
  refine zXI.intro (lo := 104) (nA := 2) (own := RX3) zi_X3_mono (by decide) rfl rfl (by decide +kernel) rfl (Nat.le_of_ble_eq_true rfl) ?_
  intro p e s m below meth c0 ls C htab hk B Zs hl
  have hl : lv_has ls 3 [(0, .ref o), (1, .int (iZ (z))), (2, .int (iZ (g)))] := hl
  refine lv_aload_n C.1 C.2.1 dX3_mono_0 rfl (lv_at hl 0 rfl) ?_
  refine lv_iload_n C.1 C.2.1 dX3_mono_1 rfl (lv_at hl 1 rfl) ?_
  refine zo_callD C B (r := none) (c_X3_checkCell l D cJ o a (c) (ac) (re) (kn) (z) (by first | assumption | omega | rfl | exact decide_eq_false (by omega) | exact decide_eq_true (by assumption) | exact decide_eq_true (by omega) | exact one_shl33 (by omega) | exact pm_lt _ _ | exact rm_lt (by first | assumption | exact pm_lt _ _) | exact Nat.lt_of_le_of_lt (Nat.shiftRight_le _ _) (by assumption) | exact Nat.lt_of_le_of_lt Nat.and_le_right (by omega))) ml_X3_23 rfl ⟨Nat.le_of_ble_eq_true rfl, Nat.le_of_ble_eq_true rfl⟩ ⟨Nat.le_of_ble_eq_true rfl, Nat.le_of_ble_eq_true rfl⟩ hl (Nat.le_of_ble_eq_true rfl) rfl dX3_mono_2 (fun H locs B => ?_)
  refine lv_iload_n C.1 C.2.1 dX3_mono_5 rfl (lv_at hl 2 rfl) ?_
  refine z_iconst C dX3_mono_6 ?_
  refine z_bipush C dX3_mono_7 (by decide) ?_
  by_cases hq9 : (0 : Int) ≤ (g) ∧ (g) ≤ (32 : Int)
  rotate_left
  · exact zx_callS C B Zs htab hk (c_X3_checkRange_bad l hlq (g) (0 : Int) (32 : Int) (by first | omega | assumption) (by first | omega | assumption) (by first | omega | assumption) (by first | omega | assumption)) ml_X3_33 ⟨Nat.le_of_ble_eq_true rfl, Nat.le_of_ble_eq_true rfl⟩ ⟨Nat.le_of_ble_eq_true rfl, Nat.le_of_ble_eq_true rfl⟩ ⟨Nat.le_of_ble_eq_true rfl, Nat.le_of_ble_eq_true rfl⟩ hl (Nat.le_of_ble_eq_true rfl) rfl dX3_mono_9
  exfalso; omega

set_option maxHeartbeats 4000000 in
set_option maxRecDepth 100000 in
theorem c_X3_digit_badc (l : Launch) (hlq : l.stackTraces = false) (D : va_G) (cJ : ClassId) (o a : Nat) (c : Nat → Nat) (ac : Int32) (re : Int32) (kn : Int32) (z : Int) (g : Int) (b : Bool) (r9z : -2147483648 ≤ z ∧ z ≤ 2147483647) (r9g : -2147483648 ≤ g ∧ g ≤ 2147483647) (hbad : ¬ ((0 ≤ z ∧ z ≤ 5))) : zXI l yX3_digit 8 149 D cJ o a [.int (iZ (z)), .int (iZ (g)), .int (iZ (zB (b)))] c [.int (ac), .int (re), .int (kn)] "java/lang/IndexOutOfBoundsException" := by
  refine zXI.intro (lo := 124) (nA := 3) (own := RX3) zi_X3_digit (by decide) rfl rfl (by decide +kernel) rfl (Nat.le_of_ble_eq_true rfl) ?_
  intro p e s m below meth c0 ls C htab hk B Zs hl
  have hl : lv_has ls 6 [(0, .ref o), (1, .int (iZ (z))), (2, .int (iZ (g))), (3, .int (iZ (zB (b))))] := hl
  refine lv_aload_n C.1 C.2.1 dX3_digit_0 rfl (lv_at hl 0 rfl) ?_
  refine lv_iload_n C.1 C.2.1 dX3_digit_1 rfl (lv_at hl 1 rfl) ?_
  by_cases hq2 : 0 ≤ (z) ∧ (z) ≤ 5
  rotate_left
  · exact zx_callI C B Zs htab hk (c_X3_polyIn_bad l hlq D cJ o a (c) ac re kn (z) (by first | omega | assumption) (by first | omega | assumption)) ml_X3_43 rfl ⟨Nat.le_of_ble_eq_true rfl, Nat.le_of_ble_eq_true rfl⟩ ⟨Nat.le_of_ble_eq_true rfl, Nat.le_of_ble_eq_true rfl⟩ ⟨Nat.le_of_ble_eq_true rfl, Nat.le_of_ble_eq_true rfl⟩ hl (Nat.le_of_ble_eq_true rfl) rfl dX3_digit_2
  exfalso; omega

set_option maxHeartbeats 4000000 in
set_option maxRecDepth 100000 in
theorem c_X3_digit_badr (l : Launch) (hlq : l.stackTraces = false) (D : va_G) (cJ : ClassId) (o a : Nat) (c : Nat → Nat) (ac : Int32) (re : Int32) (kn : Int32) (z : Int) (g : Int) (b : Bool) (r9z : -2147483648 ≤ z ∧ z ≤ 2147483647) (r9g : -2147483648 ≤ g ∧ g ≤ 2147483647) (hz : 0 ≤ z ∧ z ≤ 5) (hbad : ¬ ((0 ≤ g ∧ g ≤ 32))) : zXI l yX3_digit 7 129 D cJ o a [.int (iZ (z)), .int (iZ (g)), .int (iZ (zB (b)))] c [.int (ac), .int (re), .int (kn)] "java/lang/IllegalArgumentException" := by
  refine zXI.intro (lo := 104) (nA := 3) (own := RX3) zi_X3_digit (by decide) rfl rfl (by decide +kernel) rfl (Nat.le_of_ble_eq_true rfl) ?_
  intro p e s m below meth c0 ls C htab hk B Zs hl
  have hl : lv_has ls 6 [(0, .ref o), (1, .int (iZ (z))), (2, .int (iZ (g))), (3, .int (iZ (zB (b))))] := hl
  refine lv_aload_n C.1 C.2.1 dX3_digit_0 rfl (lv_at hl 0 rfl) ?_
  refine lv_iload_n C.1 C.2.1 dX3_digit_1 rfl (lv_at hl 1 rfl) ?_
  refine zo_callD C B (r := some (.long (lN ((c) (z).toNat)))) (c_X3_polyIn l D cJ o a (c) (ac) (re) (kn) (z) (by first | assumption | omega | rfl | exact decide_eq_false (by omega) | exact decide_eq_true (by assumption) | exact decide_eq_true (by omega) | exact one_shl33 (by omega) | exact pm_lt _ _ | exact rm_lt (by first | assumption | exact pm_lt _ _) | exact Nat.lt_of_le_of_lt (Nat.shiftRight_le _ _) (by assumption) | exact Nat.lt_of_le_of_lt Nat.and_le_right (by omega))) ml_X3_43 rfl ⟨Nat.le_of_ble_eq_true rfl, Nat.le_of_ble_eq_true rfl⟩ ⟨Nat.le_of_ble_eq_true rfl, Nat.le_of_ble_eq_true rfl⟩ hl (Nat.le_of_ble_eq_true rfl) rfl dX3_digit_2 (fun H locs B => ?_)
  have q2_0 := B.1.2.2.2 ((z)).toNat
  refine lv_lstore (lv' := [(4, .long (lN ((c) (z).toNat))), (0, .ref o), (1, .int (iZ (z))), (2, .int (iZ (g))), (3, .int (iZ (zB (b))))]) C.1 C.2.1 dX3_digit_5 hl (by decide) rfl (fun ls hl => ?_)
  refine lv_iload_n C.1 C.2.1 dX3_digit_7 rfl (lv_at hl 3 rfl) ?_
  refine z_iconst C dX3_digit_8 ?_
  refine z_bipush C dX3_digit_9 (by decide) ?_
  by_cases hq11 : (0 : Int) ≤ (g) ∧ (g) ≤ (32 : Int)
  rotate_left
  · exact zx_callS C B Zs htab hk (c_X3_checkRange_bad l hlq (g) (0 : Int) (32 : Int) (by first | omega | assumption) (by first | omega | assumption) (by first | omega | assumption) (by first | omega | assumption)) ml_X3_33 ⟨Nat.le_of_ble_eq_true rfl, Nat.le_of_ble_eq_true rfl⟩ ⟨Nat.le_of_ble_eq_true rfl, Nat.le_of_ble_eq_true rfl⟩ ⟨Nat.le_of_ble_eq_true rfl, Nat.le_of_ble_eq_true rfl⟩ hl (Nat.le_of_ble_eq_true rfl) rfl dX3_digit_11
  exfalso; omega

set_option maxHeartbeats 4000000 in
set_option maxRecDepth 100000 in
theorem c_X3_flip_badc (l : Launch) (hlq : l.stackTraces = false) (D : va_G) (cJ : ClassId) (o a : Nat) (c : Nat → Nat) (ac : Int32) (re : Int32) (kn : Int32) (z : Int) (g : Int) (r9z : -2147483648 ≤ z ∧ z ≤ 2147483647) (r9g : -2147483648 ≤ g ∧ g ≤ 2147483647) (hbad : ¬ ((0 ≤ z ∧ z ≤ 5))) : zXI l yX3_flip 8 148 D cJ o a [.int (iZ (z)), .int (iZ (g))] c [.int (ac), .int (re), .int (kn)] "java/lang/IndexOutOfBoundsException" := by
  refine zXI.intro (lo := 124) (nA := 2) (own := RX3) zi_X3_flip (by decide) rfl rfl (by decide +kernel) rfl (Nat.le_of_ble_eq_true rfl) ?_
  intro p e s m below meth c0 ls C htab hk B Zs hl
  have hl : lv_has ls 5 [(0, .ref o), (1, .int (iZ (z))), (2, .int (iZ (g)))] := hl
  refine lv_aload_n C.1 C.2.1 dX3_flip_0 rfl (lv_at hl 0 rfl) ?_
  refine lv_iload_n C.1 C.2.1 dX3_flip_1 rfl (lv_at hl 1 rfl) ?_
  by_cases hq2 : 0 ≤ (z) ∧ (z) ≤ 5
  rotate_left
  · exact zx_callI C B Zs htab hk (c_X3_polyIn_bad l hlq D cJ o a (c) ac re kn (z) (by first | omega | assumption) (by first | omega | assumption)) ml_X3_43 rfl ⟨Nat.le_of_ble_eq_true rfl, Nat.le_of_ble_eq_true rfl⟩ ⟨Nat.le_of_ble_eq_true rfl, Nat.le_of_ble_eq_true rfl⟩ ⟨Nat.le_of_ble_eq_true rfl, Nat.le_of_ble_eq_true rfl⟩ hl (Nat.le_of_ble_eq_true rfl) rfl dX3_flip_2
  exfalso; omega

set_option maxHeartbeats 4000000 in
set_option maxRecDepth 100000 in
theorem c_X3_flip_badr (l : Launch) (hlq : l.stackTraces = false) (D : va_G) (cJ : ClassId) (o a : Nat) (c : Nat → Nat) (ac : Int32) (re : Int32) (kn : Int32) (z : Int) (g : Int) (r9z : -2147483648 ≤ z ∧ z ≤ 2147483647) (r9g : -2147483648 ≤ g ∧ g ≤ 2147483647) (hz : 0 ≤ z ∧ z ≤ 5) (hbad : ¬ ((0 ≤ g ∧ g ≤ 32))) : zXI l yX3_flip 7 128 D cJ o a [.int (iZ (z)), .int (iZ (g))] c [.int (ac), .int (re), .int (kn)] "java/lang/IllegalArgumentException" := by
  refine zXI.intro (lo := 104) (nA := 2) (own := RX3) zi_X3_flip (by decide) rfl rfl (by decide +kernel) rfl (Nat.le_of_ble_eq_true rfl) ?_
  intro p e s m below meth c0 ls C htab hk B Zs hl
  have hl : lv_has ls 5 [(0, .ref o), (1, .int (iZ (z))), (2, .int (iZ (g)))] := hl
  refine lv_aload_n C.1 C.2.1 dX3_flip_0 rfl (lv_at hl 0 rfl) ?_
  refine lv_iload_n C.1 C.2.1 dX3_flip_1 rfl (lv_at hl 1 rfl) ?_
  refine zo_callD C B (r := some (.long (lN ((c) (z).toNat)))) (c_X3_polyIn l D cJ o a (c) (ac) (re) (kn) (z) (by first | assumption | omega | rfl | exact decide_eq_false (by omega) | exact decide_eq_true (by assumption) | exact decide_eq_true (by omega) | exact one_shl33 (by omega) | exact pm_lt _ _ | exact rm_lt (by first | assumption | exact pm_lt _ _) | exact Nat.lt_of_le_of_lt (Nat.shiftRight_le _ _) (by assumption) | exact Nat.lt_of_le_of_lt Nat.and_le_right (by omega))) ml_X3_43 rfl ⟨Nat.le_of_ble_eq_true rfl, Nat.le_of_ble_eq_true rfl⟩ ⟨Nat.le_of_ble_eq_true rfl, Nat.le_of_ble_eq_true rfl⟩ hl (Nat.le_of_ble_eq_true rfl) rfl dX3_flip_2 (fun H locs B => ?_)
  have q2_0 := B.1.2.2.2 ((z)).toNat
  refine lv_lstore_n (lv' := [(3, .long (lN ((c) (z).toNat))), (0, .ref o), (1, .int (iZ (z))), (2, .int (iZ (g)))]) C.1 C.2.1 dX3_flip_5 rfl hl (by decide) rfl (fun ls hl => ?_)
  refine lv_iload_n C.1 C.2.1 dX3_flip_6 rfl (lv_at hl 3 rfl) ?_
  refine z_iconst C dX3_flip_7 ?_
  refine z_bipush C dX3_flip_8 (by decide) ?_
  by_cases hq10 : (0 : Int) ≤ (g) ∧ (g) ≤ (32 : Int)
  rotate_left
  · exact zx_callS C B Zs htab hk (c_X3_checkRange_bad l hlq (g) (0 : Int) (32 : Int) (by first | omega | assumption) (by first | omega | assumption) (by first | omega | assumption) (by first | omega | assumption)) ml_X3_33 ⟨Nat.le_of_ble_eq_true rfl, Nat.le_of_ble_eq_true rfl⟩ ⟨Nat.le_of_ble_eq_true rfl, Nat.le_of_ble_eq_true rfl⟩ ⟨Nat.le_of_ble_eq_true rfl, Nat.le_of_ble_eq_true rfl⟩ hl (Nat.le_of_ble_eq_true rfl) rfl dX3_flip_10
  exfalso; omega

set_option maxHeartbeats 4000000 in
set_option maxRecDepth 100000 in
theorem c_X3_copy_badc (l : Launch) (hlq : l.stackTraces = false) (D : va_G) (cJ : ClassId) (o a : Nat) (c : Nat → Nat) (ac : Int32) (re : Int32) (kn : Int32) (f : Int) (z : Int) (r9f : -2147483648 ≤ f ∧ f ≤ 2147483647) (r9z : -2147483648 ≤ z ∧ z ≤ 2147483647) (hbad : ¬ ((0 ≤ f ∧ f ≤ 5) ∧ (0 ≤ z ∧ z ≤ 5))) : zXI l yX3_copy 8 148 D cJ o a [.int (iZ (f)), .int (iZ (z))] c [.int (ac), .int (re), .int (kn)] "java/lang/IndexOutOfBoundsException" := by
  refine zXI.intro (lo := 124) (nA := 2) (own := RX3) zi_X3_copy (by decide) rfl rfl (by decide +kernel) rfl (Nat.le_of_ble_eq_true rfl) ?_
  intro p e s m below meth c0 ls C htab hk B Zs hl
  have hl : lv_has ls 5 [(0, .ref o), (1, .int (iZ (f))), (2, .int (iZ (z)))] := hl
  refine lv_aload_n C.1 C.2.1 dX3_copy_0 rfl (lv_at hl 0 rfl) ?_
  refine lv_iload_n C.1 C.2.1 dX3_copy_1 rfl (lv_at hl 1 rfl) ?_
  by_cases hq2 : 0 ≤ (f) ∧ (f) ≤ 5
  rotate_left
  · exact zx_callI C B Zs htab hk (c_X3_polyIn_bad l hlq D cJ o a (c) ac re kn (f) (by first | omega | assumption) (by first | omega | assumption)) ml_X3_43 rfl ⟨Nat.le_of_ble_eq_true rfl, Nat.le_of_ble_eq_true rfl⟩ ⟨Nat.le_of_ble_eq_true rfl, Nat.le_of_ble_eq_true rfl⟩ ⟨Nat.le_of_ble_eq_true rfl, Nat.le_of_ble_eq_true rfl⟩ hl (Nat.le_of_ble_eq_true rfl) rfl dX3_copy_2
  refine zo_callD C B (r := some (.long (lN ((c) (f).toNat)))) (c_X3_polyIn l D cJ o a (c) (ac) (re) (kn) (f) (by first | assumption | omega | rfl | exact decide_eq_false (by omega) | exact decide_eq_true (by assumption) | exact decide_eq_true (by omega) | exact one_shl33 (by omega) | exact pm_lt _ _ | exact rm_lt (by first | assumption | exact pm_lt _ _) | exact Nat.lt_of_le_of_lt (Nat.shiftRight_le _ _) (by assumption) | exact Nat.lt_of_le_of_lt Nat.and_le_right (by omega))) ml_X3_43 rfl ⟨Nat.le_of_ble_eq_true rfl, Nat.le_of_ble_eq_true rfl⟩ ⟨Nat.le_of_ble_eq_true rfl, Nat.le_of_ble_eq_true rfl⟩ hl (Nat.le_of_ble_eq_true rfl) rfl dX3_copy_2 (fun H locs B => ?_)
  have q2_0 := B.1.2.2.2 ((f)).toNat
  refine lv_lstore_n (lv' := [(3, .long (lN ((c) (f).toNat))), (0, .ref o), (1, .int (iZ (f))), (2, .int (iZ (z)))]) C.1 C.2.1 dX3_copy_5 rfl hl (by decide) rfl (fun ls hl => ?_)
  refine lv_aload_n C.1 C.2.1 dX3_copy_6 rfl (lv_at hl 1 rfl) ?_
  refine lv_iload_n C.1 C.2.1 dX3_copy_7 rfl (lv_at hl 3 rfl) ?_
  by_cases hq8 : 0 ≤ (z) ∧ (z) ≤ 5
  rotate_left
  · exact zx_callI C B Zs htab hk (c_X3_checkCell_bad l hlq D cJ o a (c) ac re kn (z) (by first | omega | assumption) (by first | omega | assumption)) ml_X3_23 rfl ⟨Nat.le_of_ble_eq_true rfl, Nat.le_of_ble_eq_true rfl⟩ ⟨Nat.le_of_ble_eq_true rfl, Nat.le_of_ble_eq_true rfl⟩ ⟨Nat.le_of_ble_eq_true rfl, Nat.le_of_ble_eq_true rfl⟩ hl (Nat.le_of_ble_eq_true rfl) rfl dX3_copy_8
  exfalso; omega

set_option maxHeartbeats 4000000 in
set_option maxRecDepth 100000 in
theorem c_X3_swap_badc (l : Launch) (hlq : l.stackTraces = false) (D : va_G) (cJ : ClassId) (o a : Nat) (c : Nat → Nat) (ac : Int32) (re : Int32) (kn : Int32) (f : Int) (z : Int) (r9f : -2147483648 ≤ f ∧ f ≤ 2147483647) (r9z : -2147483648 ≤ z ∧ z ≤ 2147483647) (hbad : ¬ ((0 ≤ f ∧ f ≤ 5) ∧ (0 ≤ z ∧ z ≤ 5))) : zXI l yX3_swap 8 150 D cJ o a [.int (iZ (f)), .int (iZ (z))] c [.int (ac), .int (re), .int (kn)] "java/lang/IndexOutOfBoundsException" := by
  refine zXI.intro (lo := 124) (nA := 2) (own := RX3) zi_X3_swap (by decide) rfl rfl (by decide +kernel) rfl (Nat.le_of_ble_eq_true rfl) ?_
  intro p e s m below meth c0 ls C htab hk B Zs hl
  have hl : lv_has ls 7 [(0, .ref o), (1, .int (iZ (f))), (2, .int (iZ (z)))] := hl
  refine lv_aload_n C.1 C.2.1 dX3_swap_0 rfl (lv_at hl 0 rfl) ?_
  refine lv_iload_n C.1 C.2.1 dX3_swap_1 rfl (lv_at hl 1 rfl) ?_
  by_cases hq2 : 0 ≤ (f) ∧ (f) ≤ 5
  rotate_left
  · exact zx_callI C B Zs htab hk (c_X3_polyIn_bad l hlq D cJ o a (c) ac re kn (f) (by first | omega | assumption) (by first | omega | assumption)) ml_X3_43 rfl ⟨Nat.le_of_ble_eq_true rfl, Nat.le_of_ble_eq_true rfl⟩ ⟨Nat.le_of_ble_eq_true rfl, Nat.le_of_ble_eq_true rfl⟩ ⟨Nat.le_of_ble_eq_true rfl, Nat.le_of_ble_eq_true rfl⟩ hl (Nat.le_of_ble_eq_true rfl) rfl dX3_swap_2
  refine zo_callD C B (r := some (.long (lN ((c) (f).toNat)))) (c_X3_polyIn l D cJ o a (c) (ac) (re) (kn) (f) (by first | assumption | omega | rfl | exact decide_eq_false (by omega) | exact decide_eq_true (by assumption) | exact decide_eq_true (by omega) | exact one_shl33 (by omega) | exact pm_lt _ _ | exact rm_lt (by first | assumption | exact pm_lt _ _) | exact Nat.lt_of_le_of_lt (Nat.shiftRight_le _ _) (by assumption) | exact Nat.lt_of_le_of_lt Nat.and_le_right (by omega))) ml_X3_43 rfl ⟨Nat.le_of_ble_eq_true rfl, Nat.le_of_ble_eq_true rfl⟩ ⟨Nat.le_of_ble_eq_true rfl, Nat.le_of_ble_eq_true rfl⟩ hl (Nat.le_of_ble_eq_true rfl) rfl dX3_swap_2 (fun H locs B => ?_)
  have q2_0 := B.1.2.2.2 ((f)).toNat
  refine lv_lstore_n (lv' := [(3, .long (lN ((c) (f).toNat))), (0, .ref o), (1, .int (iZ (f))), (2, .int (iZ (z)))]) C.1 C.2.1 dX3_swap_5 rfl hl (by decide) rfl (fun ls hl => ?_)
  refine lv_aload_n C.1 C.2.1 dX3_swap_6 rfl (lv_at hl 1 rfl) ?_
  refine lv_iload_n C.1 C.2.1 dX3_swap_7 rfl (lv_at hl 3 rfl) ?_
  by_cases hq8 : 0 ≤ (z) ∧ (z) ≤ 5
  rotate_left
  · exact zx_callI C B Zs htab hk (c_X3_polyIn_bad l hlq D cJ o a (c) ac re kn (z) (by first | omega | assumption) (by first | omega | assumption)) ml_X3_43 rfl ⟨Nat.le_of_ble_eq_true rfl, Nat.le_of_ble_eq_true rfl⟩ ⟨Nat.le_of_ble_eq_true rfl, Nat.le_of_ble_eq_true rfl⟩ ⟨Nat.le_of_ble_eq_true rfl, Nat.le_of_ble_eq_true rfl⟩ hl (Nat.le_of_ble_eq_true rfl) rfl dX3_swap_8
  exfalso; omega

set_option maxHeartbeats 4000000 in
set_option maxRecDepth 100000 in
theorem c_X3_end_badc (l : Launch) (hlq : l.stackTraces = false) (D : va_G) (cJ : ClassId) (o a : Nat) (c : Nat → Nat) (ac : Int32) (re : Int32) (kn : Int32) (f : Int) (g : Int) (b : Bool) (z : Int) (r9f : -2147483648 ≤ f ∧ f ≤ 2147483647) (r9g : -2147483648 ≤ g ∧ g ≤ 2147483647) (r9z : -2147483648 ≤ z ∧ z ≤ 2147483647) (hbad : ¬ ((0 ≤ f ∧ f ≤ 5) ∧ (0 ≤ g ∧ g ≤ 5) ∧ (0 ≤ z ∧ z ≤ 5))) : zXI l yX3_end 8 152 D cJ o a [.int (iZ (f)), .int (iZ (g)), .int (iZ (zB (b))), .int (iZ (z))] c [.int (ac), .int (re), .int (kn)] "java/lang/IndexOutOfBoundsException" := by
  refine zXI.intro (lo := 124) (nA := 4) (own := RX3) zi_X3_end (by decide) rfl rfl (by decide +kernel) rfl (Nat.le_of_ble_eq_true rfl) ?_
  intro p e s m below meth c0 ls C htab hk B Zs hl
  have hl : lv_has ls 9 [(0, .ref o), (1, .int (iZ (f))), (2, .int (iZ (g))), (3, .int (iZ (zB (b)))), (4, .int (iZ (z)))] := hl
  refine lv_aload_n C.1 C.2.1 dX3_end_0 rfl (lv_at hl 0 rfl) ?_
  refine lv_iload_n C.1 C.2.1 dX3_end_1 rfl (lv_at hl 1 rfl) ?_
  by_cases hq2 : 0 ≤ (f) ∧ (f) ≤ 5
  rotate_left
  · exact zx_callI C B Zs htab hk (c_X3_polyIn_bad l hlq D cJ o a (c) ac re kn (f) (by first | omega | assumption) (by first | omega | assumption)) ml_X3_43 rfl ⟨Nat.le_of_ble_eq_true rfl, Nat.le_of_ble_eq_true rfl⟩ ⟨Nat.le_of_ble_eq_true rfl, Nat.le_of_ble_eq_true rfl⟩ ⟨Nat.le_of_ble_eq_true rfl, Nat.le_of_ble_eq_true rfl⟩ hl (Nat.le_of_ble_eq_true rfl) rfl dX3_end_2
  refine zo_callD C B (r := some (.long (lN ((c) (f).toNat)))) (c_X3_polyIn l D cJ o a (c) (ac) (re) (kn) (f) (by first | assumption | omega | rfl | exact decide_eq_false (by omega) | exact decide_eq_true (by assumption) | exact decide_eq_true (by omega) | exact one_shl33 (by omega) | exact pm_lt _ _ | exact rm_lt (by first | assumption | exact pm_lt _ _) | exact Nat.lt_of_le_of_lt (Nat.shiftRight_le _ _) (by assumption) | exact Nat.lt_of_le_of_lt Nat.and_le_right (by omega))) ml_X3_43 rfl ⟨Nat.le_of_ble_eq_true rfl, Nat.le_of_ble_eq_true rfl⟩ ⟨Nat.le_of_ble_eq_true rfl, Nat.le_of_ble_eq_true rfl⟩ hl (Nat.le_of_ble_eq_true rfl) rfl dX3_end_2 (fun H locs B => ?_)
  have q2_0 := B.1.2.2.2 ((f)).toNat
  refine lv_lstore (lv' := [(5, .long (lN ((c) (f).toNat))), (0, .ref o), (1, .int (iZ (f))), (2, .int (iZ (g))), (3, .int (iZ (zB (b)))), (4, .int (iZ (z)))]) C.1 C.2.1 dX3_end_5 hl (by decide) rfl (fun ls hl => ?_)
  refine lv_aload_n C.1 C.2.1 dX3_end_7 rfl (lv_at hl 1 rfl) ?_
  refine lv_iload_n C.1 C.2.1 dX3_end_8 rfl (lv_at hl 3 rfl) ?_
  by_cases hq9 : 0 ≤ (g) ∧ (g) ≤ 5
  rotate_left
  · exact zx_callI C B Zs htab hk (c_X3_polyIn_bad l hlq D cJ o a (c) ac re kn (g) (by first | omega | assumption) (by first | omega | assumption)) ml_X3_43 rfl ⟨Nat.le_of_ble_eq_true rfl, Nat.le_of_ble_eq_true rfl⟩ ⟨Nat.le_of_ble_eq_true rfl, Nat.le_of_ble_eq_true rfl⟩ ⟨Nat.le_of_ble_eq_true rfl, Nat.le_of_ble_eq_true rfl⟩ hl (Nat.le_of_ble_eq_true rfl) rfl dX3_end_9
  refine zo_callD C B (r := some (.long (lN ((c) (g).toNat)))) (c_X3_polyIn l D cJ o a (c) ((ac)) ((re)) ((kn)) (g) (by first | assumption | omega | rfl | exact decide_eq_false (by omega) | exact decide_eq_true (by assumption) | exact decide_eq_true (by omega) | exact one_shl33 (by omega) | exact pm_lt _ _ | exact rm_lt (by first | assumption | exact pm_lt _ _) | exact Nat.lt_of_le_of_lt (Nat.shiftRight_le _ _) (by assumption) | exact Nat.lt_of_le_of_lt Nat.and_le_right (by omega))) ml_X3_43 rfl ⟨Nat.le_of_ble_eq_true rfl, Nat.le_of_ble_eq_true rfl⟩ ⟨Nat.le_of_ble_eq_true rfl, Nat.le_of_ble_eq_true rfl⟩ hl (Nat.le_of_ble_eq_true rfl) rfl dX3_end_9 (fun H locs B => ?_)
  have q9_0 := B.1.2.2.2 ((g)).toNat
  refine lv_lstore (lv' := [(7, .long (lN ((c) (g).toNat))), (5, .long (lN ((c) (f).toNat))), (0, .ref o), (1, .int (iZ (f))), (2, .int (iZ (g))), (3, .int (iZ (zB (b)))), (4, .int (iZ (z)))]) C.1 C.2.1 dX3_end_12 hl (by decide) rfl (fun ls hl => ?_)
  refine lv_aload_n C.1 C.2.1 dX3_end_14 rfl (lv_at hl 2 rfl) ?_
  refine lv_iload C.1 C.2.1 dX3_end_15 (lv_at hl 6 rfl) ?_
  by_cases hq17 : 0 ≤ (z) ∧ (z) ≤ 5
  rotate_left
  · exact zx_callI C B Zs htab hk (c_X3_checkCell_bad l hlq D cJ o a (c) ac re kn (z) (by first | omega | assumption) (by first | omega | assumption)) ml_X3_23 rfl ⟨Nat.le_of_ble_eq_true rfl, Nat.le_of_ble_eq_true rfl⟩ ⟨Nat.le_of_ble_eq_true rfl, Nat.le_of_ble_eq_true rfl⟩ ⟨Nat.le_of_ble_eq_true rfl, Nat.le_of_ble_eq_true rfl⟩ hl (Nat.le_of_ble_eq_true rfl) rfl dX3_end_17
  exfalso; omega

set_option maxHeartbeats 4000000 in
set_option maxRecDepth 100000 in
theorem c_X3_join_badc (l : Launch) (hlq : l.stackTraces = false) (D : va_G) (cJ : ClassId) (o a : Nat) (c : Nat → Nat) (ac : Int32) (re : Int32) (kn : Int32) (f : Int) (g : Int) (h : Int) (z : Int) (r9f : -2147483648 ≤ f ∧ f ≤ 2147483647) (r9g : -2147483648 ≤ g ∧ g ≤ 2147483647) (r9h : -2147483648 ≤ h ∧ h ≤ 2147483647) (r9z : -2147483648 ≤ z ∧ z ≤ 2147483647) (hbad : ¬ ((0 ≤ f ∧ f ≤ 5) ∧ (0 ≤ g ∧ g ≤ 5) ∧ (0 ≤ z ∧ z ≤ 5))) : zXI l yX3_join 8 152 D cJ o a [.int (iZ (f)), .int (iZ (g)), .int (iZ (h)), .int (iZ (z))] c [.int (ac), .int (re), .int (kn)] "java/lang/IndexOutOfBoundsException" := by
  refine zXI.intro (lo := 124) (nA := 4) (own := RX3) zi_X3_join (by decide) rfl rfl (by decide +kernel) rfl (Nat.le_of_ble_eq_true rfl) ?_
  intro p e s m below meth c0 ls C htab hk B Zs hl
  have hl : lv_has ls 9 [(0, .ref o), (1, .int (iZ (f))), (2, .int (iZ (g))), (3, .int (iZ (h))), (4, .int (iZ (z)))] := hl
  refine lv_aload_n C.1 C.2.1 dX3_join_0 rfl (lv_at hl 0 rfl) ?_
  refine lv_iload_n C.1 C.2.1 dX3_join_1 rfl (lv_at hl 1 rfl) ?_
  by_cases hq2 : 0 ≤ (f) ∧ (f) ≤ 5
  rotate_left
  · exact zx_callI C B Zs htab hk (c_X3_polyIn_bad l hlq D cJ o a (c) ac re kn (f) (by first | omega | assumption) (by first | omega | assumption)) ml_X3_43 rfl ⟨Nat.le_of_ble_eq_true rfl, Nat.le_of_ble_eq_true rfl⟩ ⟨Nat.le_of_ble_eq_true rfl, Nat.le_of_ble_eq_true rfl⟩ ⟨Nat.le_of_ble_eq_true rfl, Nat.le_of_ble_eq_true rfl⟩ hl (Nat.le_of_ble_eq_true rfl) rfl dX3_join_2
  refine zo_callD C B (r := some (.long (lN ((c) (f).toNat)))) (c_X3_polyIn l D cJ o a (c) (ac) (re) (kn) (f) (by first | assumption | omega | rfl | exact decide_eq_false (by omega) | exact decide_eq_true (by assumption) | exact decide_eq_true (by omega) | exact one_shl33 (by omega) | exact pm_lt _ _ | exact rm_lt (by first | assumption | exact pm_lt _ _) | exact Nat.lt_of_le_of_lt (Nat.shiftRight_le _ _) (by assumption) | exact Nat.lt_of_le_of_lt Nat.and_le_right (by omega))) ml_X3_43 rfl ⟨Nat.le_of_ble_eq_true rfl, Nat.le_of_ble_eq_true rfl⟩ ⟨Nat.le_of_ble_eq_true rfl, Nat.le_of_ble_eq_true rfl⟩ hl (Nat.le_of_ble_eq_true rfl) rfl dX3_join_2 (fun H locs B => ?_)
  have q2_0 := B.1.2.2.2 ((f)).toNat
  refine lv_lstore (lv' := [(5, .long (lN ((c) (f).toNat))), (0, .ref o), (1, .int (iZ (f))), (2, .int (iZ (g))), (3, .int (iZ (h))), (4, .int (iZ (z)))]) C.1 C.2.1 dX3_join_5 hl (by decide) rfl (fun ls hl => ?_)
  refine lv_aload_n C.1 C.2.1 dX3_join_7 rfl (lv_at hl 1 rfl) ?_
  refine lv_iload_n C.1 C.2.1 dX3_join_8 rfl (lv_at hl 3 rfl) ?_
  by_cases hq9 : 0 ≤ (g) ∧ (g) ≤ 5
  rotate_left
  · exact zx_callI C B Zs htab hk (c_X3_polyIn_bad l hlq D cJ o a (c) ac re kn (g) (by first | omega | assumption) (by first | omega | assumption)) ml_X3_43 rfl ⟨Nat.le_of_ble_eq_true rfl, Nat.le_of_ble_eq_true rfl⟩ ⟨Nat.le_of_ble_eq_true rfl, Nat.le_of_ble_eq_true rfl⟩ ⟨Nat.le_of_ble_eq_true rfl, Nat.le_of_ble_eq_true rfl⟩ hl (Nat.le_of_ble_eq_true rfl) rfl dX3_join_9
  refine zo_callD C B (r := some (.long (lN ((c) (g).toNat)))) (c_X3_polyIn l D cJ o a (c) ((ac)) ((re)) ((kn)) (g) (by first | assumption | omega | rfl | exact decide_eq_false (by omega) | exact decide_eq_true (by assumption) | exact decide_eq_true (by omega) | exact one_shl33 (by omega) | exact pm_lt _ _ | exact rm_lt (by first | assumption | exact pm_lt _ _) | exact Nat.lt_of_le_of_lt (Nat.shiftRight_le _ _) (by assumption) | exact Nat.lt_of_le_of_lt Nat.and_le_right (by omega))) ml_X3_43 rfl ⟨Nat.le_of_ble_eq_true rfl, Nat.le_of_ble_eq_true rfl⟩ ⟨Nat.le_of_ble_eq_true rfl, Nat.le_of_ble_eq_true rfl⟩ hl (Nat.le_of_ble_eq_true rfl) rfl dX3_join_9 (fun H locs B => ?_)
  have q9_0 := B.1.2.2.2 ((g)).toNat
  refine lv_lstore (lv' := [(7, .long (lN ((c) (g).toNat))), (5, .long (lN ((c) (f).toNat))), (0, .ref o), (1, .int (iZ (f))), (2, .int (iZ (g))), (3, .int (iZ (h))), (4, .int (iZ (z)))]) C.1 C.2.1 dX3_join_12 hl (by decide) rfl (fun ls hl => ?_)
  refine lv_aload_n C.1 C.2.1 dX3_join_14 rfl (lv_at hl 2 rfl) ?_
  refine lv_iload C.1 C.2.1 dX3_join_15 (lv_at hl 6 rfl) ?_
  by_cases hq17 : 0 ≤ (z) ∧ (z) ≤ 5
  rotate_left
  · exact zx_callI C B Zs htab hk (c_X3_checkCell_bad l hlq D cJ o a (c) ac re kn (z) (by first | omega | assumption) (by first | omega | assumption)) ml_X3_23 rfl ⟨Nat.le_of_ble_eq_true rfl, Nat.le_of_ble_eq_true rfl⟩ ⟨Nat.le_of_ble_eq_true rfl, Nat.le_of_ble_eq_true rfl⟩ ⟨Nat.le_of_ble_eq_true rfl, Nat.le_of_ble_eq_true rfl⟩ hl (Nat.le_of_ble_eq_true rfl) rfl dX3_join_17
  exfalso; omega

set_option maxHeartbeats 4000000 in
set_option maxRecDepth 100000 in
theorem c_X3_join_badr (l : Launch) (hlq : l.stackTraces = false) (D : va_G) (cJ : ClassId) (o a : Nat) (c : Nat → Nat) (ac : Int32) (re : Int32) (kn : Int32) (f : Int) (g : Int) (h : Int) (z : Int) (r9f : -2147483648 ≤ f ∧ f ≤ 2147483647) (r9g : -2147483648 ≤ g ∧ g ≤ 2147483647) (r9h : -2147483648 ≤ h ∧ h ≤ 2147483647) (r9z : -2147483648 ≤ z ∧ z ≤ 2147483647) (hf : 0 ≤ f ∧ f ≤ 5) (hg : 0 ≤ g ∧ g ≤ 5) (hz : 0 ≤ z ∧ z ≤ 5) (hbad : ¬ ((0 ≤ h ∧ h ≤ 3))) : zXI l yX3_join 7 132 D cJ o a [.int (iZ (f)), .int (iZ (g)), .int (iZ (h)), .int (iZ (z))] c [.int (ac), .int (re), .int (kn)] "java/lang/IllegalArgumentException" := by
  refine zXI.intro (lo := 104) (nA := 4) (own := RX3) zi_X3_join (by decide) rfl rfl (by decide +kernel) rfl (Nat.le_of_ble_eq_true rfl) ?_
  intro p e s m below meth c0 ls C htab hk B Zs hl
  have hl : lv_has ls 9 [(0, .ref o), (1, .int (iZ (f))), (2, .int (iZ (g))), (3, .int (iZ (h))), (4, .int (iZ (z)))] := hl
  refine lv_aload_n C.1 C.2.1 dX3_join_0 rfl (lv_at hl 0 rfl) ?_
  refine lv_iload_n C.1 C.2.1 dX3_join_1 rfl (lv_at hl 1 rfl) ?_
  refine zo_callD C B (r := some (.long (lN ((c) (f).toNat)))) (c_X3_polyIn l D cJ o a (c) (ac) (re) (kn) (f) (by first | assumption | omega | rfl | exact decide_eq_false (by omega) | exact decide_eq_true (by assumption) | exact decide_eq_true (by omega) | exact one_shl33 (by omega) | exact pm_lt _ _ | exact rm_lt (by first | assumption | exact pm_lt _ _) | exact Nat.lt_of_le_of_lt (Nat.shiftRight_le _ _) (by assumption) | exact Nat.lt_of_le_of_lt Nat.and_le_right (by omega))) ml_X3_43 rfl ⟨Nat.le_of_ble_eq_true rfl, Nat.le_of_ble_eq_true rfl⟩ ⟨Nat.le_of_ble_eq_true rfl, Nat.le_of_ble_eq_true rfl⟩ hl (Nat.le_of_ble_eq_true rfl) rfl dX3_join_2 (fun H locs B => ?_)
  have q2_0 := B.1.2.2.2 ((f)).toNat
  refine lv_lstore (lv' := [(5, .long (lN ((c) (f).toNat))), (0, .ref o), (1, .int (iZ (f))), (2, .int (iZ (g))), (3, .int (iZ (h))), (4, .int (iZ (z)))]) C.1 C.2.1 dX3_join_5 hl (by decide) rfl (fun ls hl => ?_)
  refine lv_aload_n C.1 C.2.1 dX3_join_7 rfl (lv_at hl 1 rfl) ?_
  refine lv_iload_n C.1 C.2.1 dX3_join_8 rfl (lv_at hl 3 rfl) ?_
  refine zo_callD C B (r := some (.long (lN ((c) (g).toNat)))) (c_X3_polyIn l D cJ o a (c) ((ac)) ((re)) ((kn)) (g) (by first | assumption | omega | rfl | exact decide_eq_false (by omega) | exact decide_eq_true (by assumption) | exact decide_eq_true (by omega) | exact one_shl33 (by omega) | exact pm_lt _ _ | exact rm_lt (by first | assumption | exact pm_lt _ _) | exact Nat.lt_of_le_of_lt (Nat.shiftRight_le _ _) (by assumption) | exact Nat.lt_of_le_of_lt Nat.and_le_right (by omega))) ml_X3_43 rfl ⟨Nat.le_of_ble_eq_true rfl, Nat.le_of_ble_eq_true rfl⟩ ⟨Nat.le_of_ble_eq_true rfl, Nat.le_of_ble_eq_true rfl⟩ hl (Nat.le_of_ble_eq_true rfl) rfl dX3_join_9 (fun H locs B => ?_)
  have q9_0 := B.1.2.2.2 ((g)).toNat
  refine lv_lstore (lv' := [(7, .long (lN ((c) (g).toNat))), (5, .long (lN ((c) (f).toNat))), (0, .ref o), (1, .int (iZ (f))), (2, .int (iZ (g))), (3, .int (iZ (h))), (4, .int (iZ (z)))]) C.1 C.2.1 dX3_join_12 hl (by decide) rfl (fun ls hl => ?_)
  refine lv_aload_n C.1 C.2.1 dX3_join_14 rfl (lv_at hl 2 rfl) ?_
  refine lv_iload C.1 C.2.1 dX3_join_15 (lv_at hl 6 rfl) ?_
  refine zo_callD C B (r := none) (c_X3_checkCell l D cJ o a (c) (((ac))) (((re))) (((kn))) (z) (by first | assumption | omega | rfl | exact decide_eq_false (by omega) | exact decide_eq_true (by assumption) | exact decide_eq_true (by omega) | exact one_shl33 (by omega) | exact pm_lt _ _ | exact rm_lt (by first | assumption | exact pm_lt _ _) | exact Nat.lt_of_le_of_lt (Nat.shiftRight_le _ _) (by assumption) | exact Nat.lt_of_le_of_lt Nat.and_le_right (by omega))) ml_X3_23 rfl ⟨Nat.le_of_ble_eq_true rfl, Nat.le_of_ble_eq_true rfl⟩ ⟨Nat.le_of_ble_eq_true rfl, Nat.le_of_ble_eq_true rfl⟩ hl (Nat.le_of_ble_eq_true rfl) rfl dX3_join_17 (fun H locs B => ?_)
  refine lv_iload_n C.1 C.2.1 dX3_join_20 rfl (lv_at hl 5 rfl) ?_
  refine z_iconst C dX3_join_21 ?_
  refine z_iconst C dX3_join_22 ?_
  by_cases hq23 : (0 : Int) ≤ (h) ∧ (h) ≤ (3 : Int)
  rotate_left
  · exact zx_callS C B Zs htab hk (c_X3_checkRange_bad l hlq (h) (0 : Int) (3 : Int) (by first | omega | assumption) (by first | omega | assumption) (by first | omega | assumption) (by first | omega | assumption)) ml_X3_33 ⟨Nat.le_of_ble_eq_true rfl, Nat.le_of_ble_eq_true rfl⟩ ⟨Nat.le_of_ble_eq_true rfl, Nat.le_of_ble_eq_true rfl⟩ ⟨Nat.le_of_ble_eq_true rfl, Nat.le_of_ble_eq_true rfl⟩ hl (Nat.le_of_ble_eq_true rfl) rfl dX3_join_23
  exfalso; omega

set_option maxHeartbeats 4000000 in
set_option maxRecDepth 100000 in
theorem c_X3_times_badc (l : Launch) (hlq : l.stackTraces = false) (D : va_G) (cJ : ClassId) (o a : Nat) (c : Nat → Nat) (ac : Int32) (re : Int32) (kn : Int32) (f : Int) (g : Int) (z : Int) (r9f : -2147483648 ≤ f ∧ f ≤ 2147483647) (r9g : -2147483648 ≤ g ∧ g ≤ 2147483647) (r9z : -2147483648 ≤ z ∧ z ≤ 2147483647) (hbad : ¬ ((0 ≤ f ∧ f ≤ 5) ∧ (0 ≤ g ∧ g ≤ 5) ∧ (0 ≤ z ∧ z ≤ 5))) : zXI l yX3_times 8 151 D cJ o a [.int (iZ (f)), .int (iZ (g)), .int (iZ (z))] c [.int (ac), .int (re), .int (kn)] "java/lang/IndexOutOfBoundsException" := by
  refine zXI.intro (lo := 124) (nA := 3) (own := RX3) zi_X3_times (by decide) rfl rfl (by decide +kernel) rfl (Nat.le_of_ble_eq_true rfl) ?_
  intro p e s m below meth c0 ls C htab hk B Zs hl
  have hl : lv_has ls 8 [(0, .ref o), (1, .int (iZ (f))), (2, .int (iZ (g))), (3, .int (iZ (z)))] := hl
  refine lv_aload_n C.1 C.2.1 dX3_times_0 rfl (lv_at hl 0 rfl) ?_
  refine lv_iload_n C.1 C.2.1 dX3_times_1 rfl (lv_at hl 1 rfl) ?_
  by_cases hq2 : 0 ≤ (f) ∧ (f) ≤ 5
  rotate_left
  · exact zx_callI C B Zs htab hk (c_X3_polyIn_bad l hlq D cJ o a (c) ac re kn (f) (by first | omega | assumption) (by first | omega | assumption)) ml_X3_43 rfl ⟨Nat.le_of_ble_eq_true rfl, Nat.le_of_ble_eq_true rfl⟩ ⟨Nat.le_of_ble_eq_true rfl, Nat.le_of_ble_eq_true rfl⟩ ⟨Nat.le_of_ble_eq_true rfl, Nat.le_of_ble_eq_true rfl⟩ hl (Nat.le_of_ble_eq_true rfl) rfl dX3_times_2
  refine zo_callD C B (r := some (.long (lN ((c) (f).toNat)))) (c_X3_polyIn l D cJ o a (c) (ac) (re) (kn) (f) (by first | assumption | omega | rfl | exact decide_eq_false (by omega) | exact decide_eq_true (by assumption) | exact decide_eq_true (by omega) | exact one_shl33 (by omega) | exact pm_lt _ _ | exact rm_lt (by first | assumption | exact pm_lt _ _) | exact Nat.lt_of_le_of_lt (Nat.shiftRight_le _ _) (by assumption) | exact Nat.lt_of_le_of_lt Nat.and_le_right (by omega))) ml_X3_43 rfl ⟨Nat.le_of_ble_eq_true rfl, Nat.le_of_ble_eq_true rfl⟩ ⟨Nat.le_of_ble_eq_true rfl, Nat.le_of_ble_eq_true rfl⟩ hl (Nat.le_of_ble_eq_true rfl) rfl dX3_times_2 (fun H locs B => ?_)
  have q2_0 := B.1.2.2.2 ((f)).toNat
  refine lv_lstore (lv' := [(4, .long (lN ((c) (f).toNat))), (0, .ref o), (1, .int (iZ (f))), (2, .int (iZ (g))), (3, .int (iZ (z)))]) C.1 C.2.1 dX3_times_5 hl (by decide) rfl (fun ls hl => ?_)
  refine lv_aload_n C.1 C.2.1 dX3_times_7 rfl (lv_at hl 1 rfl) ?_
  refine lv_iload_n C.1 C.2.1 dX3_times_8 rfl (lv_at hl 3 rfl) ?_
  by_cases hq9 : 0 ≤ (g) ∧ (g) ≤ 5
  rotate_left
  · exact zx_callI C B Zs htab hk (c_X3_polyIn_bad l hlq D cJ o a (c) ac re kn (g) (by first | omega | assumption) (by first | omega | assumption)) ml_X3_43 rfl ⟨Nat.le_of_ble_eq_true rfl, Nat.le_of_ble_eq_true rfl⟩ ⟨Nat.le_of_ble_eq_true rfl, Nat.le_of_ble_eq_true rfl⟩ ⟨Nat.le_of_ble_eq_true rfl, Nat.le_of_ble_eq_true rfl⟩ hl (Nat.le_of_ble_eq_true rfl) rfl dX3_times_9
  refine zo_callD C B (r := some (.long (lN ((c) (g).toNat)))) (c_X3_polyIn l D cJ o a (c) ((ac)) ((re)) ((kn)) (g) (by first | assumption | omega | rfl | exact decide_eq_false (by omega) | exact decide_eq_true (by assumption) | exact decide_eq_true (by omega) | exact one_shl33 (by omega) | exact pm_lt _ _ | exact rm_lt (by first | assumption | exact pm_lt _ _) | exact Nat.lt_of_le_of_lt (Nat.shiftRight_le _ _) (by assumption) | exact Nat.lt_of_le_of_lt Nat.and_le_right (by omega))) ml_X3_43 rfl ⟨Nat.le_of_ble_eq_true rfl, Nat.le_of_ble_eq_true rfl⟩ ⟨Nat.le_of_ble_eq_true rfl, Nat.le_of_ble_eq_true rfl⟩ hl (Nat.le_of_ble_eq_true rfl) rfl dX3_times_9 (fun H locs B => ?_)
  have q9_0 := B.1.2.2.2 ((g)).toNat
  refine lv_lstore (lv' := [(6, .long (lN ((c) (g).toNat))), (4, .long (lN ((c) (f).toNat))), (0, .ref o), (1, .int (iZ (f))), (2, .int (iZ (g))), (3, .int (iZ (z)))]) C.1 C.2.1 dX3_times_12 hl (by decide) rfl (fun ls hl => ?_)
  refine lv_aload_n C.1 C.2.1 dX3_times_14 rfl (lv_at hl 2 rfl) ?_
  refine lv_iload_n C.1 C.2.1 dX3_times_15 rfl (lv_at hl 5 rfl) ?_
  by_cases hq16 : 0 ≤ (z) ∧ (z) ≤ 5
  rotate_left
  · exact zx_callI C B Zs htab hk (c_X3_checkCell_bad l hlq D cJ o a (c) ac re kn (z) (by first | omega | assumption) (by first | omega | assumption)) ml_X3_23 rfl ⟨Nat.le_of_ble_eq_true rfl, Nat.le_of_ble_eq_true rfl⟩ ⟨Nat.le_of_ble_eq_true rfl, Nat.le_of_ble_eq_true rfl⟩ ⟨Nat.le_of_ble_eq_true rfl, Nat.le_of_ble_eq_true rfl⟩ hl (Nat.le_of_ble_eq_true rfl) rfl dX3_times_16
  exfalso; omega

set_option maxHeartbeats 4000000 in
set_option maxRecDepth 100000 in
theorem c_X3_square_badc (l : Launch) (hlq : l.stackTraces = false) (D : va_G) (cJ : ClassId) (o a : Nat) (c : Nat → Nat) (ac : Int32) (re : Int32) (kn : Int32) (f : Int) (z : Int) (r9f : -2147483648 ≤ f ∧ f ≤ 2147483647) (r9z : -2147483648 ≤ z ∧ z ≤ 2147483647) (hbad : ¬ ((0 ≤ f ∧ f ≤ 5) ∧ (0 ≤ z ∧ z ≤ 5))) : zXI l yX3_square 8 148 D cJ o a [.int (iZ (f)), .int (iZ (z))] c [.int (ac), .int (re), .int (kn)] "java/lang/IndexOutOfBoundsException" := by
  refine zXI.intro (lo := 124) (nA := 2) (own := RX3) zi_X3_square (by decide) rfl rfl (by decide +kernel) rfl (Nat.le_of_ble_eq_true rfl) ?_
  intro p e s m below meth c0 ls C htab hk B Zs hl
  have hl : lv_has ls 5 [(0, .ref o), (1, .int (iZ (f))), (2, .int (iZ (z)))] := hl
  refine lv_aload_n C.1 C.2.1 dX3_square_0 rfl (lv_at hl 0 rfl) ?_
  refine lv_iload_n C.1 C.2.1 dX3_square_1 rfl (lv_at hl 1 rfl) ?_
  by_cases hq2 : 0 ≤ (f) ∧ (f) ≤ 5
  rotate_left
  · exact zx_callI C B Zs htab hk (c_X3_polyIn_bad l hlq D cJ o a (c) ac re kn (f) (by first | omega | assumption) (by first | omega | assumption)) ml_X3_43 rfl ⟨Nat.le_of_ble_eq_true rfl, Nat.le_of_ble_eq_true rfl⟩ ⟨Nat.le_of_ble_eq_true rfl, Nat.le_of_ble_eq_true rfl⟩ ⟨Nat.le_of_ble_eq_true rfl, Nat.le_of_ble_eq_true rfl⟩ hl (Nat.le_of_ble_eq_true rfl) rfl dX3_square_2
  refine zo_callD C B (r := some (.long (lN ((c) (f).toNat)))) (c_X3_polyIn l D cJ o a (c) (ac) (re) (kn) (f) (by first | assumption | omega | rfl | exact decide_eq_false (by omega) | exact decide_eq_true (by assumption) | exact decide_eq_true (by omega) | exact one_shl33 (by omega) | exact pm_lt _ _ | exact rm_lt (by first | assumption | exact pm_lt _ _) | exact Nat.lt_of_le_of_lt (Nat.shiftRight_le _ _) (by assumption) | exact Nat.lt_of_le_of_lt Nat.and_le_right (by omega))) ml_X3_43 rfl ⟨Nat.le_of_ble_eq_true rfl, Nat.le_of_ble_eq_true rfl⟩ ⟨Nat.le_of_ble_eq_true rfl, Nat.le_of_ble_eq_true rfl⟩ hl (Nat.le_of_ble_eq_true rfl) rfl dX3_square_2 (fun H locs B => ?_)
  have q2_0 := B.1.2.2.2 ((f)).toNat
  refine lv_lstore_n (lv' := [(3, .long (lN ((c) (f).toNat))), (0, .ref o), (1, .int (iZ (f))), (2, .int (iZ (z)))]) C.1 C.2.1 dX3_square_5 rfl hl (by decide) rfl (fun ls hl => ?_)
  refine lv_aload_n C.1 C.2.1 dX3_square_6 rfl (lv_at hl 1 rfl) ?_
  refine lv_iload_n C.1 C.2.1 dX3_square_7 rfl (lv_at hl 3 rfl) ?_
  by_cases hq8 : 0 ≤ (z) ∧ (z) ≤ 5
  rotate_left
  · exact zx_callI C B Zs htab hk (c_X3_checkCell_bad l hlq D cJ o a (c) ac re kn (z) (by first | omega | assumption) (by first | omega | assumption)) ml_X3_23 rfl ⟨Nat.le_of_ble_eq_true rfl, Nat.le_of_ble_eq_true rfl⟩ ⟨Nat.le_of_ble_eq_true rfl, Nat.le_of_ble_eq_true rfl⟩ ⟨Nat.le_of_ble_eq_true rfl, Nat.le_of_ble_eq_true rfl⟩ hl (Nat.le_of_ble_eq_true rfl) rfl dX3_square_8
  exfalso; omega

set_option maxHeartbeats 4000000 in
set_option maxRecDepth 100000 in
theorem c_X3_shift_badc (l : Launch) (hlq : l.stackTraces = false) (D : va_G) (cJ : ClassId) (o a : Nat) (c : Nat → Nat) (ac : Int32) (re : Int32) (kn : Int32) (f : Int) (g : Int) (z : Int) (r9f : -2147483648 ≤ f ∧ f ≤ 2147483647) (r9g : -2147483648 ≤ g ∧ g ≤ 2147483647) (r9z : -2147483648 ≤ z ∧ z ≤ 2147483647) (hbad : ¬ ((0 ≤ f ∧ f ≤ 5) ∧ (0 ≤ z ∧ z ≤ 5))) : zXI l yX3_shift 8 149 D cJ o a [.int (iZ (f)), .int (iZ (g)), .int (iZ (z))] c [.int (ac), .int (re), .int (kn)] "java/lang/IndexOutOfBoundsException" := by
  refine zXI.intro (lo := 124) (nA := 3) (own := RX3) zi_X3_shift (by decide) rfl rfl (by decide +kernel) rfl (Nat.le_of_ble_eq_true rfl) ?_
  intro p e s m below meth c0 ls C htab hk B Zs hl
  have hl : lv_has ls 6 [(0, .ref o), (1, .int (iZ (f))), (2, .int (iZ (g))), (3, .int (iZ (z)))] := hl
  refine lv_aload_n C.1 C.2.1 dX3_shift_0 rfl (lv_at hl 0 rfl) ?_
  refine lv_iload_n C.1 C.2.1 dX3_shift_1 rfl (lv_at hl 1 rfl) ?_
  by_cases hq2 : 0 ≤ (f) ∧ (f) ≤ 5
  rotate_left
  · exact zx_callI C B Zs htab hk (c_X3_polyIn_bad l hlq D cJ o a (c) ac re kn (f) (by first | omega | assumption) (by first | omega | assumption)) ml_X3_43 rfl ⟨Nat.le_of_ble_eq_true rfl, Nat.le_of_ble_eq_true rfl⟩ ⟨Nat.le_of_ble_eq_true rfl, Nat.le_of_ble_eq_true rfl⟩ ⟨Nat.le_of_ble_eq_true rfl, Nat.le_of_ble_eq_true rfl⟩ hl (Nat.le_of_ble_eq_true rfl) rfl dX3_shift_2
  refine zo_callD C B (r := some (.long (lN ((c) (f).toNat)))) (c_X3_polyIn l D cJ o a (c) (ac) (re) (kn) (f) (by first | assumption | omega | rfl | exact decide_eq_false (by omega) | exact decide_eq_true (by assumption) | exact decide_eq_true (by omega) | exact one_shl33 (by omega) | exact pm_lt _ _ | exact rm_lt (by first | assumption | exact pm_lt _ _) | exact Nat.lt_of_le_of_lt (Nat.shiftRight_le _ _) (by assumption) | exact Nat.lt_of_le_of_lt Nat.and_le_right (by omega))) ml_X3_43 rfl ⟨Nat.le_of_ble_eq_true rfl, Nat.le_of_ble_eq_true rfl⟩ ⟨Nat.le_of_ble_eq_true rfl, Nat.le_of_ble_eq_true rfl⟩ hl (Nat.le_of_ble_eq_true rfl) rfl dX3_shift_2 (fun H locs B => ?_)
  have q2_0 := B.1.2.2.2 ((f)).toNat
  refine lv_lstore (lv' := [(4, .long (lN ((c) (f).toNat))), (0, .ref o), (1, .int (iZ (f))), (2, .int (iZ (g))), (3, .int (iZ (z)))]) C.1 C.2.1 dX3_shift_5 hl (by decide) rfl (fun ls hl => ?_)
  refine lv_aload_n C.1 C.2.1 dX3_shift_7 rfl (lv_at hl 1 rfl) ?_
  refine lv_iload_n C.1 C.2.1 dX3_shift_8 rfl (lv_at hl 4 rfl) ?_
  by_cases hq9 : 0 ≤ (z) ∧ (z) ≤ 5
  rotate_left
  · exact zx_callI C B Zs htab hk (c_X3_checkCell_bad l hlq D cJ o a (c) ac re kn (z) (by first | omega | assumption) (by first | omega | assumption)) ml_X3_23 rfl ⟨Nat.le_of_ble_eq_true rfl, Nat.le_of_ble_eq_true rfl⟩ ⟨Nat.le_of_ble_eq_true rfl, Nat.le_of_ble_eq_true rfl⟩ ⟨Nat.le_of_ble_eq_true rfl, Nat.le_of_ble_eq_true rfl⟩ hl (Nat.le_of_ble_eq_true rfl) rfl dX3_shift_9
  exfalso; omega

set_option maxHeartbeats 4000000 in
set_option maxRecDepth 100000 in
theorem c_X3_shift_badr (l : Launch) (hlq : l.stackTraces = false) (D : va_G) (cJ : ClassId) (o a : Nat) (c : Nat → Nat) (ac : Int32) (re : Int32) (kn : Int32) (f : Int) (g : Int) (z : Int) (r9f : -2147483648 ≤ f ∧ f ≤ 2147483647) (r9g : -2147483648 ≤ g ∧ g ≤ 2147483647) (r9z : -2147483648 ≤ z ∧ z ≤ 2147483647) (hf : 0 ≤ f ∧ f ≤ 5) (hz : 0 ≤ z ∧ z ≤ 5) (hbad : ¬ ((-32 ≤ g ∧ g ≤ 32))) : zXI l yX3_shift 7 129 D cJ o a [.int (iZ (f)), .int (iZ (g)), .int (iZ (z))] c [.int (ac), .int (re), .int (kn)] "java/lang/IllegalArgumentException" := by
  refine zXI.intro (lo := 104) (nA := 3) (own := RX3) zi_X3_shift (by decide) rfl rfl (by decide +kernel) rfl (Nat.le_of_ble_eq_true rfl) ?_
  intro p e s m below meth c0 ls C htab hk B Zs hl
  have hl : lv_has ls 6 [(0, .ref o), (1, .int (iZ (f))), (2, .int (iZ (g))), (3, .int (iZ (z)))] := hl
  refine lv_aload_n C.1 C.2.1 dX3_shift_0 rfl (lv_at hl 0 rfl) ?_
  refine lv_iload_n C.1 C.2.1 dX3_shift_1 rfl (lv_at hl 1 rfl) ?_
  refine zo_callD C B (r := some (.long (lN ((c) (f).toNat)))) (c_X3_polyIn l D cJ o a (c) (ac) (re) (kn) (f) (by first | assumption | omega | rfl | exact decide_eq_false (by omega) | exact decide_eq_true (by assumption) | exact decide_eq_true (by omega) | exact one_shl33 (by omega) | exact pm_lt _ _ | exact rm_lt (by first | assumption | exact pm_lt _ _) | exact Nat.lt_of_le_of_lt (Nat.shiftRight_le _ _) (by assumption) | exact Nat.lt_of_le_of_lt Nat.and_le_right (by omega))) ml_X3_43 rfl ⟨Nat.le_of_ble_eq_true rfl, Nat.le_of_ble_eq_true rfl⟩ ⟨Nat.le_of_ble_eq_true rfl, Nat.le_of_ble_eq_true rfl⟩ hl (Nat.le_of_ble_eq_true rfl) rfl dX3_shift_2 (fun H locs B => ?_)
  have q2_0 := B.1.2.2.2 ((f)).toNat
  refine lv_lstore (lv' := [(4, .long (lN ((c) (f).toNat))), (0, .ref o), (1, .int (iZ (f))), (2, .int (iZ (g))), (3, .int (iZ (z)))]) C.1 C.2.1 dX3_shift_5 hl (by decide) rfl (fun ls hl => ?_)
  refine lv_aload_n C.1 C.2.1 dX3_shift_7 rfl (lv_at hl 1 rfl) ?_
  refine lv_iload_n C.1 C.2.1 dX3_shift_8 rfl (lv_at hl 4 rfl) ?_
  refine zo_callD C B (r := none) (c_X3_checkCell l D cJ o a (c) ((ac)) ((re)) ((kn)) (z) (by first | assumption | omega | rfl | exact decide_eq_false (by omega) | exact decide_eq_true (by assumption) | exact decide_eq_true (by omega) | exact one_shl33 (by omega) | exact pm_lt _ _ | exact rm_lt (by first | assumption | exact pm_lt _ _) | exact Nat.lt_of_le_of_lt (Nat.shiftRight_le _ _) (by assumption) | exact Nat.lt_of_le_of_lt Nat.and_le_right (by omega))) ml_X3_23 rfl ⟨Nat.le_of_ble_eq_true rfl, Nat.le_of_ble_eq_true rfl⟩ ⟨Nat.le_of_ble_eq_true rfl, Nat.le_of_ble_eq_true rfl⟩ hl (Nat.le_of_ble_eq_true rfl) rfl dX3_shift_9 (fun H locs B => ?_)
  refine lv_iload_n C.1 C.2.1 dX3_shift_12 rfl (lv_at hl 3 rfl) ?_
  refine z_bipush C dX3_shift_13 (by decide) ?_
  refine z_bipush C dX3_shift_15 (by decide) ?_
  by_cases hq17 : (-32 : Int) ≤ (g) ∧ (g) ≤ (32 : Int)
  rotate_left
  · exact zx_callS C B Zs htab hk (c_X3_checkRange_bad l hlq (g) (-32 : Int) (32 : Int) (by first | omega | assumption) (by first | omega | assumption) (by first | omega | assumption) (by first | omega | assumption)) ml_X3_33 ⟨Nat.le_of_ble_eq_true rfl, Nat.le_of_ble_eq_true rfl⟩ ⟨Nat.le_of_ble_eq_true rfl, Nat.le_of_ble_eq_true rfl⟩ ⟨Nat.le_of_ble_eq_true rfl, Nat.le_of_ble_eq_true rfl⟩ hl (Nat.le_of_ble_eq_true rfl) rfl dX3_shift_17
  exfalso; omega

set_option maxHeartbeats 4000000 in
set_option maxRecDepth 100000 in
theorem c_X3_quotient_badc (l : Launch) (hlq : l.stackTraces = false) (D : va_G) (cJ : ClassId) (o a : Nat) (c : Nat → Nat) (ac : Int32) (re : Int32) (kn : Int32) (f : Int) (g : Int) (z : Int) (r9f : -2147483648 ≤ f ∧ f ≤ 2147483647) (r9g : -2147483648 ≤ g ∧ g ≤ 2147483647) (r9z : -2147483648 ≤ z ∧ z ≤ 2147483647) (hbad : ¬ ((0 ≤ f ∧ f ≤ 5) ∧ (0 ≤ g ∧ g ≤ 5) ∧ (0 ≤ z ∧ z ≤ 5))) : zXI l yX3_quotient 8 151 D cJ o a [.int (iZ (f)), .int (iZ (g)), .int (iZ (z))] c [.int (ac), .int (re), .int (kn)] "java/lang/IndexOutOfBoundsException" := by
  refine zXI.intro (lo := 124) (nA := 3) (own := RX3) zi_X3_quotient (by decide) rfl rfl (by decide +kernel) rfl (Nat.le_of_ble_eq_true rfl) ?_
  intro p e s m below meth c0 ls C htab hk B Zs hl
  have hl : lv_has ls 8 [(0, .ref o), (1, .int (iZ (f))), (2, .int (iZ (g))), (3, .int (iZ (z)))] := hl
  refine lv_aload_n C.1 C.2.1 dX3_quotient_0 rfl (lv_at hl 0 rfl) ?_
  refine lv_iload_n C.1 C.2.1 dX3_quotient_1 rfl (lv_at hl 1 rfl) ?_
  by_cases hq2 : 0 ≤ (f) ∧ (f) ≤ 5
  rotate_left
  · exact zx_callI C B Zs htab hk (c_X3_polyIn_bad l hlq D cJ o a (c) ac re kn (f) (by first | omega | assumption) (by first | omega | assumption)) ml_X3_43 rfl ⟨Nat.le_of_ble_eq_true rfl, Nat.le_of_ble_eq_true rfl⟩ ⟨Nat.le_of_ble_eq_true rfl, Nat.le_of_ble_eq_true rfl⟩ ⟨Nat.le_of_ble_eq_true rfl, Nat.le_of_ble_eq_true rfl⟩ hl (Nat.le_of_ble_eq_true rfl) rfl dX3_quotient_2
  refine zo_callD C B (r := some (.long (lN ((c) (f).toNat)))) (c_X3_polyIn l D cJ o a (c) (ac) (re) (kn) (f) (by first | assumption | omega | rfl | exact decide_eq_false (by omega) | exact decide_eq_true (by assumption) | exact decide_eq_true (by omega) | exact one_shl33 (by omega) | exact pm_lt _ _ | exact rm_lt (by first | assumption | exact pm_lt _ _) | exact Nat.lt_of_le_of_lt (Nat.shiftRight_le _ _) (by assumption) | exact Nat.lt_of_le_of_lt Nat.and_le_right (by omega))) ml_X3_43 rfl ⟨Nat.le_of_ble_eq_true rfl, Nat.le_of_ble_eq_true rfl⟩ ⟨Nat.le_of_ble_eq_true rfl, Nat.le_of_ble_eq_true rfl⟩ hl (Nat.le_of_ble_eq_true rfl) rfl dX3_quotient_2 (fun H locs B => ?_)
  have q2_0 := B.1.2.2.2 ((f)).toNat
  refine lv_lstore (lv' := [(4, .long (lN ((c) (f).toNat))), (0, .ref o), (1, .int (iZ (f))), (2, .int (iZ (g))), (3, .int (iZ (z)))]) C.1 C.2.1 dX3_quotient_5 hl (by decide) rfl (fun ls hl => ?_)
  refine lv_aload_n C.1 C.2.1 dX3_quotient_7 rfl (lv_at hl 1 rfl) ?_
  refine lv_iload_n C.1 C.2.1 dX3_quotient_8 rfl (lv_at hl 3 rfl) ?_
  by_cases hq9 : 0 ≤ (g) ∧ (g) ≤ 5
  rotate_left
  · exact zx_callI C B Zs htab hk (c_X3_polyIn_bad l hlq D cJ o a (c) ac re kn (g) (by first | omega | assumption) (by first | omega | assumption)) ml_X3_43 rfl ⟨Nat.le_of_ble_eq_true rfl, Nat.le_of_ble_eq_true rfl⟩ ⟨Nat.le_of_ble_eq_true rfl, Nat.le_of_ble_eq_true rfl⟩ ⟨Nat.le_of_ble_eq_true rfl, Nat.le_of_ble_eq_true rfl⟩ hl (Nat.le_of_ble_eq_true rfl) rfl dX3_quotient_9
  refine zo_callD C B (r := some (.long (lN ((c) (g).toNat)))) (c_X3_polyIn l D cJ o a (c) ((ac)) ((re)) ((kn)) (g) (by first | assumption | omega | rfl | exact decide_eq_false (by omega) | exact decide_eq_true (by assumption) | exact decide_eq_true (by omega) | exact one_shl33 (by omega) | exact pm_lt _ _ | exact rm_lt (by first | assumption | exact pm_lt _ _) | exact Nat.lt_of_le_of_lt (Nat.shiftRight_le _ _) (by assumption) | exact Nat.lt_of_le_of_lt Nat.and_le_right (by omega))) ml_X3_43 rfl ⟨Nat.le_of_ble_eq_true rfl, Nat.le_of_ble_eq_true rfl⟩ ⟨Nat.le_of_ble_eq_true rfl, Nat.le_of_ble_eq_true rfl⟩ hl (Nat.le_of_ble_eq_true rfl) rfl dX3_quotient_9 (fun H locs B => ?_)
  have q9_0 := B.1.2.2.2 ((g)).toNat
  refine lv_lstore (lv' := [(6, .long (lN ((c) (g).toNat))), (4, .long (lN ((c) (f).toNat))), (0, .ref o), (1, .int (iZ (f))), (2, .int (iZ (g))), (3, .int (iZ (z)))]) C.1 C.2.1 dX3_quotient_12 hl (by decide) rfl (fun ls hl => ?_)
  refine lv_aload_n C.1 C.2.1 dX3_quotient_14 rfl (lv_at hl 2 rfl) ?_
  refine lv_iload_n C.1 C.2.1 dX3_quotient_15 rfl (lv_at hl 5 rfl) ?_
  by_cases hq16 : 0 ≤ (z) ∧ (z) ≤ 5
  rotate_left
  · exact zx_callI C B Zs htab hk (c_X3_checkCell_bad l hlq D cJ o a (c) ac re kn (z) (by first | omega | assumption) (by first | omega | assumption)) ml_X3_23 rfl ⟨Nat.le_of_ble_eq_true rfl, Nat.le_of_ble_eq_true rfl⟩ ⟨Nat.le_of_ble_eq_true rfl, Nat.le_of_ble_eq_true rfl⟩ ⟨Nat.le_of_ble_eq_true rfl, Nat.le_of_ble_eq_true rfl⟩ hl (Nat.le_of_ble_eq_true rfl) rfl dX3_quotient_16
  exfalso; omega

set_option maxHeartbeats 4000000 in
set_option maxRecDepth 100000 in
theorem c_X3_rest_badc (l : Launch) (hlq : l.stackTraces = false) (D : va_G) (cJ : ClassId) (o a : Nat) (c : Nat → Nat) (ac : Int32) (re : Int32) (kn : Int32) (f : Int) (g : Int) (z : Int) (r9f : -2147483648 ≤ f ∧ f ≤ 2147483647) (r9g : -2147483648 ≤ g ∧ g ≤ 2147483647) (r9z : -2147483648 ≤ z ∧ z ≤ 2147483647) (hbad : ¬ ((0 ≤ f ∧ f ≤ 5) ∧ (0 ≤ g ∧ g ≤ 5) ∧ (0 ≤ z ∧ z ≤ 5))) : zXI l yX3_rest 8 151 D cJ o a [.int (iZ (f)), .int (iZ (g)), .int (iZ (z))] c [.int (ac), .int (re), .int (kn)] "java/lang/IndexOutOfBoundsException" := by
  refine zXI.intro (lo := 124) (nA := 3) (own := RX3) zi_X3_rest (by decide) rfl rfl (by decide +kernel) rfl (Nat.le_of_ble_eq_true rfl) ?_
  intro p e s m below meth c0 ls C htab hk B Zs hl
  have hl : lv_has ls 8 [(0, .ref o), (1, .int (iZ (f))), (2, .int (iZ (g))), (3, .int (iZ (z)))] := hl
  refine lv_aload_n C.1 C.2.1 dX3_rest_0 rfl (lv_at hl 0 rfl) ?_
  refine lv_iload_n C.1 C.2.1 dX3_rest_1 rfl (lv_at hl 1 rfl) ?_
  by_cases hq2 : 0 ≤ (f) ∧ (f) ≤ 5
  rotate_left
  · exact zx_callI C B Zs htab hk (c_X3_polyIn_bad l hlq D cJ o a (c) ac re kn (f) (by first | omega | assumption) (by first | omega | assumption)) ml_X3_43 rfl ⟨Nat.le_of_ble_eq_true rfl, Nat.le_of_ble_eq_true rfl⟩ ⟨Nat.le_of_ble_eq_true rfl, Nat.le_of_ble_eq_true rfl⟩ ⟨Nat.le_of_ble_eq_true rfl, Nat.le_of_ble_eq_true rfl⟩ hl (Nat.le_of_ble_eq_true rfl) rfl dX3_rest_2
  refine zo_callD C B (r := some (.long (lN ((c) (f).toNat)))) (c_X3_polyIn l D cJ o a (c) (ac) (re) (kn) (f) (by first | assumption | omega | rfl | exact decide_eq_false (by omega) | exact decide_eq_true (by assumption) | exact decide_eq_true (by omega) | exact one_shl33 (by omega) | exact pm_lt _ _ | exact rm_lt (by first | assumption | exact pm_lt _ _) | exact Nat.lt_of_le_of_lt (Nat.shiftRight_le _ _) (by assumption) | exact Nat.lt_of_le_of_lt Nat.and_le_right (by omega))) ml_X3_43 rfl ⟨Nat.le_of_ble_eq_true rfl, Nat.le_of_ble_eq_true rfl⟩ ⟨Nat.le_of_ble_eq_true rfl, Nat.le_of_ble_eq_true rfl⟩ hl (Nat.le_of_ble_eq_true rfl) rfl dX3_rest_2 (fun H locs B => ?_)
  have q2_0 := B.1.2.2.2 ((f)).toNat
  refine lv_lstore (lv' := [(4, .long (lN ((c) (f).toNat))), (0, .ref o), (1, .int (iZ (f))), (2, .int (iZ (g))), (3, .int (iZ (z)))]) C.1 C.2.1 dX3_rest_5 hl (by decide) rfl (fun ls hl => ?_)
  refine lv_aload_n C.1 C.2.1 dX3_rest_7 rfl (lv_at hl 1 rfl) ?_
  refine lv_iload_n C.1 C.2.1 dX3_rest_8 rfl (lv_at hl 3 rfl) ?_
  by_cases hq9 : 0 ≤ (g) ∧ (g) ≤ 5
  rotate_left
  · exact zx_callI C B Zs htab hk (c_X3_polyIn_bad l hlq D cJ o a (c) ac re kn (g) (by first | omega | assumption) (by first | omega | assumption)) ml_X3_43 rfl ⟨Nat.le_of_ble_eq_true rfl, Nat.le_of_ble_eq_true rfl⟩ ⟨Nat.le_of_ble_eq_true rfl, Nat.le_of_ble_eq_true rfl⟩ ⟨Nat.le_of_ble_eq_true rfl, Nat.le_of_ble_eq_true rfl⟩ hl (Nat.le_of_ble_eq_true rfl) rfl dX3_rest_9
  refine zo_callD C B (r := some (.long (lN ((c) (g).toNat)))) (c_X3_polyIn l D cJ o a (c) ((ac)) ((re)) ((kn)) (g) (by first | assumption | omega | rfl | exact decide_eq_false (by omega) | exact decide_eq_true (by assumption) | exact decide_eq_true (by omega) | exact one_shl33 (by omega) | exact pm_lt _ _ | exact rm_lt (by first | assumption | exact pm_lt _ _) | exact Nat.lt_of_le_of_lt (Nat.shiftRight_le _ _) (by assumption) | exact Nat.lt_of_le_of_lt Nat.and_le_right (by omega))) ml_X3_43 rfl ⟨Nat.le_of_ble_eq_true rfl, Nat.le_of_ble_eq_true rfl⟩ ⟨Nat.le_of_ble_eq_true rfl, Nat.le_of_ble_eq_true rfl⟩ hl (Nat.le_of_ble_eq_true rfl) rfl dX3_rest_9 (fun H locs B => ?_)
  have q9_0 := B.1.2.2.2 ((g)).toNat
  refine lv_lstore (lv' := [(6, .long (lN ((c) (g).toNat))), (4, .long (lN ((c) (f).toNat))), (0, .ref o), (1, .int (iZ (f))), (2, .int (iZ (g))), (3, .int (iZ (z)))]) C.1 C.2.1 dX3_rest_12 hl (by decide) rfl (fun ls hl => ?_)
  refine lv_aload_n C.1 C.2.1 dX3_rest_14 rfl (lv_at hl 2 rfl) ?_
  refine lv_iload_n C.1 C.2.1 dX3_rest_15 rfl (lv_at hl 5 rfl) ?_
  by_cases hq16 : 0 ≤ (z) ∧ (z) ≤ 5
  rotate_left
  · exact zx_callI C B Zs htab hk (c_X3_checkCell_bad l hlq D cJ o a (c) ac re kn (z) (by first | omega | assumption) (by first | omega | assumption)) ml_X3_23 rfl ⟨Nat.le_of_ble_eq_true rfl, Nat.le_of_ble_eq_true rfl⟩ ⟨Nat.le_of_ble_eq_true rfl, Nat.le_of_ble_eq_true rfl⟩ ⟨Nat.le_of_ble_eq_true rfl, Nat.le_of_ble_eq_true rfl⟩ hl (Nat.le_of_ble_eq_true rfl) rfl dX3_rest_16
  exfalso; omega

set_option maxHeartbeats 4000000 in
set_option maxRecDepth 100000 in
theorem c_X3_gcd_badc (l : Launch) (hlq : l.stackTraces = false) (D : va_G) (cJ : ClassId) (o a : Nat) (c : Nat → Nat) (ac : Int32) (re : Int32) (kn : Int32) (f : Int) (g : Int) (z : Int) (r9f : -2147483648 ≤ f ∧ f ≤ 2147483647) (r9g : -2147483648 ≤ g ∧ g ≤ 2147483647) (r9z : -2147483648 ≤ z ∧ z ≤ 2147483647) (hbad : ¬ ((0 ≤ f ∧ f ≤ 5) ∧ (0 ≤ g ∧ g ≤ 5) ∧ (0 ≤ z ∧ z ≤ 5))) : zXI l yX3_gcd 8 151 D cJ o a [.int (iZ (f)), .int (iZ (g)), .int (iZ (z))] c [.int (ac), .int (re), .int (kn)] "java/lang/IndexOutOfBoundsException" := by
  refine zXI.intro (lo := 124) (nA := 3) (own := RX3) zi_X3_gcd (by decide) rfl rfl (by decide +kernel) rfl (Nat.le_of_ble_eq_true rfl) ?_
  intro p e s m below meth c0 ls C htab hk B Zs hl
  have hl : lv_has ls 8 [(0, .ref o), (1, .int (iZ (f))), (2, .int (iZ (g))), (3, .int (iZ (z)))] := hl
  refine lv_aload_n C.1 C.2.1 dX3_gcd_0 rfl (lv_at hl 0 rfl) ?_
  refine lv_iload_n C.1 C.2.1 dX3_gcd_1 rfl (lv_at hl 1 rfl) ?_
  by_cases hq2 : 0 ≤ (f) ∧ (f) ≤ 5
  rotate_left
  · exact zx_callI C B Zs htab hk (c_X3_polyIn_bad l hlq D cJ o a (c) ac re kn (f) (by first | omega | assumption) (by first | omega | assumption)) ml_X3_43 rfl ⟨Nat.le_of_ble_eq_true rfl, Nat.le_of_ble_eq_true rfl⟩ ⟨Nat.le_of_ble_eq_true rfl, Nat.le_of_ble_eq_true rfl⟩ ⟨Nat.le_of_ble_eq_true rfl, Nat.le_of_ble_eq_true rfl⟩ hl (Nat.le_of_ble_eq_true rfl) rfl dX3_gcd_2
  refine zo_callD C B (r := some (.long (lN ((c) (f).toNat)))) (c_X3_polyIn l D cJ o a (c) (ac) (re) (kn) (f) (by first | assumption | omega | rfl | exact decide_eq_false (by omega) | exact decide_eq_true (by assumption) | exact decide_eq_true (by omega) | exact one_shl33 (by omega) | exact pm_lt _ _ | exact rm_lt (by first | assumption | exact pm_lt _ _) | exact Nat.lt_of_le_of_lt (Nat.shiftRight_le _ _) (by assumption) | exact Nat.lt_of_le_of_lt Nat.and_le_right (by omega))) ml_X3_43 rfl ⟨Nat.le_of_ble_eq_true rfl, Nat.le_of_ble_eq_true rfl⟩ ⟨Nat.le_of_ble_eq_true rfl, Nat.le_of_ble_eq_true rfl⟩ hl (Nat.le_of_ble_eq_true rfl) rfl dX3_gcd_2 (fun H locs B => ?_)
  have q2_0 := B.1.2.2.2 ((f)).toNat
  refine lv_lstore (lv' := [(4, .long (lN ((c) (f).toNat))), (0, .ref o), (1, .int (iZ (f))), (2, .int (iZ (g))), (3, .int (iZ (z)))]) C.1 C.2.1 dX3_gcd_5 hl (by decide) rfl (fun ls hl => ?_)
  refine lv_aload_n C.1 C.2.1 dX3_gcd_7 rfl (lv_at hl 1 rfl) ?_
  refine lv_iload_n C.1 C.2.1 dX3_gcd_8 rfl (lv_at hl 3 rfl) ?_
  by_cases hq9 : 0 ≤ (g) ∧ (g) ≤ 5
  rotate_left
  · exact zx_callI C B Zs htab hk (c_X3_polyIn_bad l hlq D cJ o a (c) ac re kn (g) (by first | omega | assumption) (by first | omega | assumption)) ml_X3_43 rfl ⟨Nat.le_of_ble_eq_true rfl, Nat.le_of_ble_eq_true rfl⟩ ⟨Nat.le_of_ble_eq_true rfl, Nat.le_of_ble_eq_true rfl⟩ ⟨Nat.le_of_ble_eq_true rfl, Nat.le_of_ble_eq_true rfl⟩ hl (Nat.le_of_ble_eq_true rfl) rfl dX3_gcd_9
  refine zo_callD C B (r := some (.long (lN ((c) (g).toNat)))) (c_X3_polyIn l D cJ o a (c) ((ac)) ((re)) ((kn)) (g) (by first | assumption | omega | rfl | exact decide_eq_false (by omega) | exact decide_eq_true (by assumption) | exact decide_eq_true (by omega) | exact one_shl33 (by omega) | exact pm_lt _ _ | exact rm_lt (by first | assumption | exact pm_lt _ _) | exact Nat.lt_of_le_of_lt (Nat.shiftRight_le _ _) (by assumption) | exact Nat.lt_of_le_of_lt Nat.and_le_right (by omega))) ml_X3_43 rfl ⟨Nat.le_of_ble_eq_true rfl, Nat.le_of_ble_eq_true rfl⟩ ⟨Nat.le_of_ble_eq_true rfl, Nat.le_of_ble_eq_true rfl⟩ hl (Nat.le_of_ble_eq_true rfl) rfl dX3_gcd_9 (fun H locs B => ?_)
  have q9_0 := B.1.2.2.2 ((g)).toNat
  refine lv_lstore (lv' := [(6, .long (lN ((c) (g).toNat))), (4, .long (lN ((c) (f).toNat))), (0, .ref o), (1, .int (iZ (f))), (2, .int (iZ (g))), (3, .int (iZ (z)))]) C.1 C.2.1 dX3_gcd_12 hl (by decide) rfl (fun ls hl => ?_)
  refine lv_aload_n C.1 C.2.1 dX3_gcd_14 rfl (lv_at hl 2 rfl) ?_
  refine lv_iload_n C.1 C.2.1 dX3_gcd_15 rfl (lv_at hl 5 rfl) ?_
  by_cases hq16 : 0 ≤ (z) ∧ (z) ≤ 5
  rotate_left
  · exact zx_callI C B Zs htab hk (c_X3_checkCell_bad l hlq D cJ o a (c) ac re kn (z) (by first | omega | assumption) (by first | omega | assumption)) ml_X3_23 rfl ⟨Nat.le_of_ble_eq_true rfl, Nat.le_of_ble_eq_true rfl⟩ ⟨Nat.le_of_ble_eq_true rfl, Nat.le_of_ble_eq_true rfl⟩ ⟨Nat.le_of_ble_eq_true rfl, Nat.le_of_ble_eq_true rfl⟩ hl (Nat.le_of_ble_eq_true rfl) rfl dX3_gcd_16
  exfalso; omega

set_option maxHeartbeats 4000000 in
set_option maxRecDepth 100000 in
theorem c_X3_lcm_badc (l : Launch) (hlq : l.stackTraces = false) (D : va_G) (cJ : ClassId) (o a : Nat) (c : Nat → Nat) (ac : Int32) (re : Int32) (kn : Int32) (f : Int) (g : Int) (z : Int) (r9f : -2147483648 ≤ f ∧ f ≤ 2147483647) (r9g : -2147483648 ≤ g ∧ g ≤ 2147483647) (r9z : -2147483648 ≤ z ∧ z ≤ 2147483647) (hbad : ¬ ((0 ≤ f ∧ f ≤ 5) ∧ (0 ≤ g ∧ g ≤ 5) ∧ (0 ≤ z ∧ z ≤ 5))) : zXI l yX3_lcm 8 151 D cJ o a [.int (iZ (f)), .int (iZ (g)), .int (iZ (z))] c [.int (ac), .int (re), .int (kn)] "java/lang/IndexOutOfBoundsException" := by
  refine zXI.intro (lo := 124) (nA := 3) (own := RX3) zi_X3_lcm (by decide) rfl rfl (by decide +kernel) rfl (Nat.le_of_ble_eq_true rfl) ?_
  intro p e s m below meth c0 ls C htab hk B Zs hl
  have hl : lv_has ls 8 [(0, .ref o), (1, .int (iZ (f))), (2, .int (iZ (g))), (3, .int (iZ (z)))] := hl
  refine lv_aload_n C.1 C.2.1 dX3_lcm_0 rfl (lv_at hl 0 rfl) ?_
  refine lv_iload_n C.1 C.2.1 dX3_lcm_1 rfl (lv_at hl 1 rfl) ?_
  by_cases hq2 : 0 ≤ (f) ∧ (f) ≤ 5
  rotate_left
  · exact zx_callI C B Zs htab hk (c_X3_polyIn_bad l hlq D cJ o a (c) ac re kn (f) (by first | omega | assumption) (by first | omega | assumption)) ml_X3_43 rfl ⟨Nat.le_of_ble_eq_true rfl, Nat.le_of_ble_eq_true rfl⟩ ⟨Nat.le_of_ble_eq_true rfl, Nat.le_of_ble_eq_true rfl⟩ ⟨Nat.le_of_ble_eq_true rfl, Nat.le_of_ble_eq_true rfl⟩ hl (Nat.le_of_ble_eq_true rfl) rfl dX3_lcm_2
  refine zo_callD C B (r := some (.long (lN ((c) (f).toNat)))) (c_X3_polyIn l D cJ o a (c) (ac) (re) (kn) (f) (by first | assumption | omega | rfl | exact decide_eq_false (by omega) | exact decide_eq_true (by assumption) | exact decide_eq_true (by omega) | exact one_shl33 (by omega) | exact pm_lt _ _ | exact rm_lt (by first | assumption | exact pm_lt _ _) | exact Nat.lt_of_le_of_lt (Nat.shiftRight_le _ _) (by assumption) | exact Nat.lt_of_le_of_lt Nat.and_le_right (by omega))) ml_X3_43 rfl ⟨Nat.le_of_ble_eq_true rfl, Nat.le_of_ble_eq_true rfl⟩ ⟨Nat.le_of_ble_eq_true rfl, Nat.le_of_ble_eq_true rfl⟩ hl (Nat.le_of_ble_eq_true rfl) rfl dX3_lcm_2 (fun H locs B => ?_)
  have q2_0 := B.1.2.2.2 ((f)).toNat
  refine lv_lstore (lv' := [(4, .long (lN ((c) (f).toNat))), (0, .ref o), (1, .int (iZ (f))), (2, .int (iZ (g))), (3, .int (iZ (z)))]) C.1 C.2.1 dX3_lcm_5 hl (by decide) rfl (fun ls hl => ?_)
  refine lv_aload_n C.1 C.2.1 dX3_lcm_7 rfl (lv_at hl 1 rfl) ?_
  refine lv_iload_n C.1 C.2.1 dX3_lcm_8 rfl (lv_at hl 3 rfl) ?_
  by_cases hq9 : 0 ≤ (g) ∧ (g) ≤ 5
  rotate_left
  · exact zx_callI C B Zs htab hk (c_X3_polyIn_bad l hlq D cJ o a (c) ac re kn (g) (by first | omega | assumption) (by first | omega | assumption)) ml_X3_43 rfl ⟨Nat.le_of_ble_eq_true rfl, Nat.le_of_ble_eq_true rfl⟩ ⟨Nat.le_of_ble_eq_true rfl, Nat.le_of_ble_eq_true rfl⟩ ⟨Nat.le_of_ble_eq_true rfl, Nat.le_of_ble_eq_true rfl⟩ hl (Nat.le_of_ble_eq_true rfl) rfl dX3_lcm_9
  refine zo_callD C B (r := some (.long (lN ((c) (g).toNat)))) (c_X3_polyIn l D cJ o a (c) ((ac)) ((re)) ((kn)) (g) (by first | assumption | omega | rfl | exact decide_eq_false (by omega) | exact decide_eq_true (by assumption) | exact decide_eq_true (by omega) | exact one_shl33 (by omega) | exact pm_lt _ _ | exact rm_lt (by first | assumption | exact pm_lt _ _) | exact Nat.lt_of_le_of_lt (Nat.shiftRight_le _ _) (by assumption) | exact Nat.lt_of_le_of_lt Nat.and_le_right (by omega))) ml_X3_43 rfl ⟨Nat.le_of_ble_eq_true rfl, Nat.le_of_ble_eq_true rfl⟩ ⟨Nat.le_of_ble_eq_true rfl, Nat.le_of_ble_eq_true rfl⟩ hl (Nat.le_of_ble_eq_true rfl) rfl dX3_lcm_9 (fun H locs B => ?_)
  have q9_0 := B.1.2.2.2 ((g)).toNat
  refine lv_lstore (lv' := [(6, .long (lN ((c) (g).toNat))), (4, .long (lN ((c) (f).toNat))), (0, .ref o), (1, .int (iZ (f))), (2, .int (iZ (g))), (3, .int (iZ (z)))]) C.1 C.2.1 dX3_lcm_12 hl (by decide) rfl (fun ls hl => ?_)
  refine lv_aload_n C.1 C.2.1 dX3_lcm_14 rfl (lv_at hl 2 rfl) ?_
  refine lv_iload_n C.1 C.2.1 dX3_lcm_15 rfl (lv_at hl 5 rfl) ?_
  by_cases hq16 : 0 ≤ (z) ∧ (z) ≤ 5
  rotate_left
  · exact zx_callI C B Zs htab hk (c_X3_checkCell_bad l hlq D cJ o a (c) ac re kn (z) (by first | omega | assumption) (by first | omega | assumption)) ml_X3_23 rfl ⟨Nat.le_of_ble_eq_true rfl, Nat.le_of_ble_eq_true rfl⟩ ⟨Nat.le_of_ble_eq_true rfl, Nat.le_of_ble_eq_true rfl⟩ ⟨Nat.le_of_ble_eq_true rfl, Nat.le_of_ble_eq_true rfl⟩ hl (Nat.le_of_ble_eq_true rfl) rfl dX3_lcm_16
  exfalso; omega

set_option maxHeartbeats 4000000 in
set_option maxRecDepth 100000 in
theorem c_X3_bezout_badc (l : Launch) (hlq : l.stackTraces = false) (D : va_G) (cJ : ClassId) (o a : Nat) (c : Nat → Nat) (ac : Int32) (re : Int32) (kn : Int32) (f : Int) (g : Int) (b : Bool) (z : Int) (r9f : -2147483648 ≤ f ∧ f ≤ 2147483647) (r9g : -2147483648 ≤ g ∧ g ≤ 2147483647) (r9z : -2147483648 ≤ z ∧ z ≤ 2147483647) (hbad : ¬ ((0 ≤ f ∧ f ≤ 5) ∧ (0 ≤ g ∧ g ≤ 5) ∧ (0 ≤ z ∧ z ≤ 5))) : zXI l yX3_bezout 8 152 D cJ o a [.int (iZ (f)), .int (iZ (g)), .int (iZ (zB (b))), .int (iZ (z))] c [.int (ac), .int (re), .int (kn)] "java/lang/IndexOutOfBoundsException" := by
  refine zXI.intro (lo := 124) (nA := 4) (own := RX3) zi_X3_bezout (by decide) rfl rfl (by decide +kernel) rfl (Nat.le_of_ble_eq_true rfl) ?_
  intro p e s m below meth c0 ls C htab hk B Zs hl
  have hl : lv_has ls 9 [(0, .ref o), (1, .int (iZ (f))), (2, .int (iZ (g))), (3, .int (iZ (zB (b)))), (4, .int (iZ (z)))] := hl
  refine lv_aload_n C.1 C.2.1 dX3_bezout_0 rfl (lv_at hl 0 rfl) ?_
  refine lv_iload_n C.1 C.2.1 dX3_bezout_1 rfl (lv_at hl 1 rfl) ?_
  by_cases hq2 : 0 ≤ (f) ∧ (f) ≤ 5
  rotate_left
  · exact zx_callI C B Zs htab hk (c_X3_polyIn_bad l hlq D cJ o a (c) ac re kn (f) (by first | omega | assumption) (by first | omega | assumption)) ml_X3_43 rfl ⟨Nat.le_of_ble_eq_true rfl, Nat.le_of_ble_eq_true rfl⟩ ⟨Nat.le_of_ble_eq_true rfl, Nat.le_of_ble_eq_true rfl⟩ ⟨Nat.le_of_ble_eq_true rfl, Nat.le_of_ble_eq_true rfl⟩ hl (Nat.le_of_ble_eq_true rfl) rfl dX3_bezout_2
  refine zo_callD C B (r := some (.long (lN ((c) (f).toNat)))) (c_X3_polyIn l D cJ o a (c) (ac) (re) (kn) (f) (by first | assumption | omega | rfl | exact decide_eq_false (by omega) | exact decide_eq_true (by assumption) | exact decide_eq_true (by omega) | exact one_shl33 (by omega) | exact pm_lt _ _ | exact rm_lt (by first | assumption | exact pm_lt _ _) | exact Nat.lt_of_le_of_lt (Nat.shiftRight_le _ _) (by assumption) | exact Nat.lt_of_le_of_lt Nat.and_le_right (by omega))) ml_X3_43 rfl ⟨Nat.le_of_ble_eq_true rfl, Nat.le_of_ble_eq_true rfl⟩ ⟨Nat.le_of_ble_eq_true rfl, Nat.le_of_ble_eq_true rfl⟩ hl (Nat.le_of_ble_eq_true rfl) rfl dX3_bezout_2 (fun H locs B => ?_)
  have q2_0 := B.1.2.2.2 ((f)).toNat
  refine lv_lstore (lv' := [(5, .long (lN ((c) (f).toNat))), (0, .ref o), (1, .int (iZ (f))), (2, .int (iZ (g))), (3, .int (iZ (zB (b)))), (4, .int (iZ (z)))]) C.1 C.2.1 dX3_bezout_5 hl (by decide) rfl (fun ls hl => ?_)
  refine lv_aload_n C.1 C.2.1 dX3_bezout_7 rfl (lv_at hl 1 rfl) ?_
  refine lv_iload_n C.1 C.2.1 dX3_bezout_8 rfl (lv_at hl 3 rfl) ?_
  by_cases hq9 : 0 ≤ (g) ∧ (g) ≤ 5
  rotate_left
  · exact zx_callI C B Zs htab hk (c_X3_polyIn_bad l hlq D cJ o a (c) ac re kn (g) (by first | omega | assumption) (by first | omega | assumption)) ml_X3_43 rfl ⟨Nat.le_of_ble_eq_true rfl, Nat.le_of_ble_eq_true rfl⟩ ⟨Nat.le_of_ble_eq_true rfl, Nat.le_of_ble_eq_true rfl⟩ ⟨Nat.le_of_ble_eq_true rfl, Nat.le_of_ble_eq_true rfl⟩ hl (Nat.le_of_ble_eq_true rfl) rfl dX3_bezout_9
  refine zo_callD C B (r := some (.long (lN ((c) (g).toNat)))) (c_X3_polyIn l D cJ o a (c) ((ac)) ((re)) ((kn)) (g) (by first | assumption | omega | rfl | exact decide_eq_false (by omega) | exact decide_eq_true (by assumption) | exact decide_eq_true (by omega) | exact one_shl33 (by omega) | exact pm_lt _ _ | exact rm_lt (by first | assumption | exact pm_lt _ _) | exact Nat.lt_of_le_of_lt (Nat.shiftRight_le _ _) (by assumption) | exact Nat.lt_of_le_of_lt Nat.and_le_right (by omega))) ml_X3_43 rfl ⟨Nat.le_of_ble_eq_true rfl, Nat.le_of_ble_eq_true rfl⟩ ⟨Nat.le_of_ble_eq_true rfl, Nat.le_of_ble_eq_true rfl⟩ hl (Nat.le_of_ble_eq_true rfl) rfl dX3_bezout_9 (fun H locs B => ?_)
  have q9_0 := B.1.2.2.2 ((g)).toNat
  refine lv_lstore (lv' := [(7, .long (lN ((c) (g).toNat))), (5, .long (lN ((c) (f).toNat))), (0, .ref o), (1, .int (iZ (f))), (2, .int (iZ (g))), (3, .int (iZ (zB (b)))), (4, .int (iZ (z)))]) C.1 C.2.1 dX3_bezout_12 hl (by decide) rfl (fun ls hl => ?_)
  refine lv_aload_n C.1 C.2.1 dX3_bezout_14 rfl (lv_at hl 2 rfl) ?_
  refine lv_iload C.1 C.2.1 dX3_bezout_15 (lv_at hl 6 rfl) ?_
  by_cases hq17 : 0 ≤ (z) ∧ (z) ≤ 5
  rotate_left
  · exact zx_callI C B Zs htab hk (c_X3_checkCell_bad l hlq D cJ o a (c) ac re kn (z) (by first | omega | assumption) (by first | omega | assumption)) ml_X3_23 rfl ⟨Nat.le_of_ble_eq_true rfl, Nat.le_of_ble_eq_true rfl⟩ ⟨Nat.le_of_ble_eq_true rfl, Nat.le_of_ble_eq_true rfl⟩ ⟨Nat.le_of_ble_eq_true rfl, Nat.le_of_ble_eq_true rfl⟩ hl (Nat.le_of_ble_eq_true rfl) rfl dX3_bezout_17
  exfalso; omega

set_option maxHeartbeats 4000000 in
set_option maxRecDepth 100000 in
theorem c_X3_derive_badc (l : Launch) (hlq : l.stackTraces = false) (D : va_G) (cJ : ClassId) (o a : Nat) (c : Nat → Nat) (ac : Int32) (re : Int32) (kn : Int32) (f : Int) (z : Int) (r9f : -2147483648 ≤ f ∧ f ≤ 2147483647) (r9z : -2147483648 ≤ z ∧ z ≤ 2147483647) (hbad : ¬ ((0 ≤ f ∧ f ≤ 5) ∧ (0 ≤ z ∧ z ≤ 5))) : zXI l yX3_derive 8 148 D cJ o a [.int (iZ (f)), .int (iZ (z))] c [.int (ac), .int (re), .int (kn)] "java/lang/IndexOutOfBoundsException" := by
  refine zXI.intro (lo := 124) (nA := 2) (own := RX3) zi_X3_derive (by decide) rfl rfl (by decide +kernel) rfl (Nat.le_of_ble_eq_true rfl) ?_
  intro p e s m below meth c0 ls C htab hk B Zs hl
  have hl : lv_has ls 5 [(0, .ref o), (1, .int (iZ (f))), (2, .int (iZ (z)))] := hl
  refine lv_aload_n C.1 C.2.1 dX3_derive_0 rfl (lv_at hl 0 rfl) ?_
  refine lv_iload_n C.1 C.2.1 dX3_derive_1 rfl (lv_at hl 1 rfl) ?_
  by_cases hq2 : 0 ≤ (f) ∧ (f) ≤ 5
  rotate_left
  · exact zx_callI C B Zs htab hk (c_X3_polyIn_bad l hlq D cJ o a (c) ac re kn (f) (by first | omega | assumption) (by first | omega | assumption)) ml_X3_43 rfl ⟨Nat.le_of_ble_eq_true rfl, Nat.le_of_ble_eq_true rfl⟩ ⟨Nat.le_of_ble_eq_true rfl, Nat.le_of_ble_eq_true rfl⟩ ⟨Nat.le_of_ble_eq_true rfl, Nat.le_of_ble_eq_true rfl⟩ hl (Nat.le_of_ble_eq_true rfl) rfl dX3_derive_2
  refine zo_callD C B (r := some (.long (lN ((c) (f).toNat)))) (c_X3_polyIn l D cJ o a (c) (ac) (re) (kn) (f) (by first | assumption | omega | rfl | exact decide_eq_false (by omega) | exact decide_eq_true (by assumption) | exact decide_eq_true (by omega) | exact one_shl33 (by omega) | exact pm_lt _ _ | exact rm_lt (by first | assumption | exact pm_lt _ _) | exact Nat.lt_of_le_of_lt (Nat.shiftRight_le _ _) (by assumption) | exact Nat.lt_of_le_of_lt Nat.and_le_right (by omega))) ml_X3_43 rfl ⟨Nat.le_of_ble_eq_true rfl, Nat.le_of_ble_eq_true rfl⟩ ⟨Nat.le_of_ble_eq_true rfl, Nat.le_of_ble_eq_true rfl⟩ hl (Nat.le_of_ble_eq_true rfl) rfl dX3_derive_2 (fun H locs B => ?_)
  have q2_0 := B.1.2.2.2 ((f)).toNat
  refine lv_lstore_n (lv' := [(3, .long (lN ((c) (f).toNat))), (0, .ref o), (1, .int (iZ (f))), (2, .int (iZ (z)))]) C.1 C.2.1 dX3_derive_5 rfl hl (by decide) rfl (fun ls hl => ?_)
  refine lv_aload_n C.1 C.2.1 dX3_derive_6 rfl (lv_at hl 1 rfl) ?_
  refine lv_iload_n C.1 C.2.1 dX3_derive_7 rfl (lv_at hl 3 rfl) ?_
  by_cases hq8 : 0 ≤ (z) ∧ (z) ≤ 5
  rotate_left
  · exact zx_callI C B Zs htab hk (c_X3_checkCell_bad l hlq D cJ o a (c) ac re kn (z) (by first | omega | assumption) (by first | omega | assumption)) ml_X3_23 rfl ⟨Nat.le_of_ble_eq_true rfl, Nat.le_of_ble_eq_true rfl⟩ ⟨Nat.le_of_ble_eq_true rfl, Nat.le_of_ble_eq_true rfl⟩ ⟨Nat.le_of_ble_eq_true rfl, Nat.le_of_ble_eq_true rfl⟩ hl (Nat.le_of_ble_eq_true rfl) rfl dX3_derive_8
  exfalso; omega

set_option maxHeartbeats 4000000 in
set_option maxRecDepth 100000 in
theorem c_X3_root_badc (l : Launch) (hlq : l.stackTraces = false) (D : va_G) (cJ : ClassId) (o a : Nat) (c : Nat → Nat) (ac : Int32) (re : Int32) (kn : Int32) (f : Int) (z : Int) (r9f : -2147483648 ≤ f ∧ f ≤ 2147483647) (r9z : -2147483648 ≤ z ∧ z ≤ 2147483647) (hbad : ¬ ((0 ≤ f ∧ f ≤ 5) ∧ (0 ≤ z ∧ z ≤ 5))) : zXI l yX3_root 8 148 D cJ o a [.int (iZ (f)), .int (iZ (z))] c [.int (ac), .int (re), .int (kn)] "java/lang/IndexOutOfBoundsException" := by
  refine zXI.intro (lo := 124) (nA := 2) (own := RX3) zi_X3_root (by decide) rfl rfl (by decide +kernel) rfl (Nat.le_of_ble_eq_true rfl) ?_
  intro p e s m below meth c0 ls C htab hk B Zs hl
  have hl : lv_has ls 5 [(0, .ref o), (1, .int (iZ (f))), (2, .int (iZ (z)))] := hl
  refine lv_aload_n C.1 C.2.1 dX3_root_0 rfl (lv_at hl 0 rfl) ?_
  refine lv_iload_n C.1 C.2.1 dX3_root_1 rfl (lv_at hl 1 rfl) ?_
  by_cases hq2 : 0 ≤ (f) ∧ (f) ≤ 5
  rotate_left
  · exact zx_callI C B Zs htab hk (c_X3_polyIn_bad l hlq D cJ o a (c) ac re kn (f) (by first | omega | assumption) (by first | omega | assumption)) ml_X3_43 rfl ⟨Nat.le_of_ble_eq_true rfl, Nat.le_of_ble_eq_true rfl⟩ ⟨Nat.le_of_ble_eq_true rfl, Nat.le_of_ble_eq_true rfl⟩ ⟨Nat.le_of_ble_eq_true rfl, Nat.le_of_ble_eq_true rfl⟩ hl (Nat.le_of_ble_eq_true rfl) rfl dX3_root_2
  refine zo_callD C B (r := some (.long (lN ((c) (f).toNat)))) (c_X3_polyIn l D cJ o a (c) (ac) (re) (kn) (f) (by first | assumption | omega | rfl | exact decide_eq_false (by omega) | exact decide_eq_true (by assumption) | exact decide_eq_true (by omega) | exact one_shl33 (by omega) | exact pm_lt _ _ | exact rm_lt (by first | assumption | exact pm_lt _ _) | exact Nat.lt_of_le_of_lt (Nat.shiftRight_le _ _) (by assumption) | exact Nat.lt_of_le_of_lt Nat.and_le_right (by omega))) ml_X3_43 rfl ⟨Nat.le_of_ble_eq_true rfl, Nat.le_of_ble_eq_true rfl⟩ ⟨Nat.le_of_ble_eq_true rfl, Nat.le_of_ble_eq_true rfl⟩ hl (Nat.le_of_ble_eq_true rfl) rfl dX3_root_2 (fun H locs B => ?_)
  have q2_0 := B.1.2.2.2 ((f)).toNat
  refine lv_lstore_n (lv' := [(3, .long (lN ((c) (f).toNat))), (0, .ref o), (1, .int (iZ (f))), (2, .int (iZ (z)))]) C.1 C.2.1 dX3_root_5 rfl hl (by decide) rfl (fun ls hl => ?_)
  refine lv_aload_n C.1 C.2.1 dX3_root_6 rfl (lv_at hl 1 rfl) ?_
  refine lv_iload_n C.1 C.2.1 dX3_root_7 rfl (lv_at hl 3 rfl) ?_
  by_cases hq8 : 0 ≤ (z) ∧ (z) ≤ 5
  rotate_left
  · exact zx_callI C B Zs htab hk (c_X3_checkCell_bad l hlq D cJ o a (c) ac re kn (z) (by first | omega | assumption) (by first | omega | assumption)) ml_X3_23 rfl ⟨Nat.le_of_ble_eq_true rfl, Nat.le_of_ble_eq_true rfl⟩ ⟨Nat.le_of_ble_eq_true rfl, Nat.le_of_ble_eq_true rfl⟩ ⟨Nat.le_of_ble_eq_true rfl, Nat.le_of_ble_eq_true rfl⟩ hl (Nat.le_of_ble_eq_true rfl) rfl dX3_root_8
  exfalso; omega

set_option maxHeartbeats 4000000 in
set_option maxRecDepth 100000 in
theorem c_X3_turn_badc (l : Launch) (hlq : l.stackTraces = false) (D : va_G) (cJ : ClassId) (o a : Nat) (c : Nat → Nat) (ac : Int32) (re : Int32) (kn : Int32) (f : Int) (z : Int) (r9f : -2147483648 ≤ f ∧ f ≤ 2147483647) (r9z : -2147483648 ≤ z ∧ z ≤ 2147483647) (hbad : ¬ ((0 ≤ f ∧ f ≤ 5) ∧ (0 ≤ z ∧ z ≤ 5))) : zXI l yX3_turn 8 148 D cJ o a [.int (iZ (f)), .int (iZ (z))] c [.int (ac), .int (re), .int (kn)] "java/lang/IndexOutOfBoundsException" := by
  refine zXI.intro (lo := 124) (nA := 2) (own := RX3) zi_X3_turn (by decide) rfl rfl (by decide +kernel) rfl (Nat.le_of_ble_eq_true rfl) ?_
  intro p e s m below meth c0 ls C htab hk B Zs hl
  have hl : lv_has ls 5 [(0, .ref o), (1, .int (iZ (f))), (2, .int (iZ (z)))] := hl
  refine lv_aload_n C.1 C.2.1 dX3_turn_0 rfl (lv_at hl 0 rfl) ?_
  refine lv_iload_n C.1 C.2.1 dX3_turn_1 rfl (lv_at hl 1 rfl) ?_
  by_cases hq2 : 0 ≤ (f) ∧ (f) ≤ 5
  rotate_left
  · exact zx_callI C B Zs htab hk (c_X3_polyIn_bad l hlq D cJ o a (c) ac re kn (f) (by first | omega | assumption) (by first | omega | assumption)) ml_X3_43 rfl ⟨Nat.le_of_ble_eq_true rfl, Nat.le_of_ble_eq_true rfl⟩ ⟨Nat.le_of_ble_eq_true rfl, Nat.le_of_ble_eq_true rfl⟩ ⟨Nat.le_of_ble_eq_true rfl, Nat.le_of_ble_eq_true rfl⟩ hl (Nat.le_of_ble_eq_true rfl) rfl dX3_turn_2
  refine zo_callD C B (r := some (.long (lN ((c) (f).toNat)))) (c_X3_polyIn l D cJ o a (c) (ac) (re) (kn) (f) (by first | assumption | omega | rfl | exact decide_eq_false (by omega) | exact decide_eq_true (by assumption) | exact decide_eq_true (by omega) | exact one_shl33 (by omega) | exact pm_lt _ _ | exact rm_lt (by first | assumption | exact pm_lt _ _) | exact Nat.lt_of_le_of_lt (Nat.shiftRight_le _ _) (by assumption) | exact Nat.lt_of_le_of_lt Nat.and_le_right (by omega))) ml_X3_43 rfl ⟨Nat.le_of_ble_eq_true rfl, Nat.le_of_ble_eq_true rfl⟩ ⟨Nat.le_of_ble_eq_true rfl, Nat.le_of_ble_eq_true rfl⟩ hl (Nat.le_of_ble_eq_true rfl) rfl dX3_turn_2 (fun H locs B => ?_)
  have q2_0 := B.1.2.2.2 ((f)).toNat
  refine lv_lstore_n (lv' := [(3, .long (lN ((c) (f).toNat))), (0, .ref o), (1, .int (iZ (f))), (2, .int (iZ (z)))]) C.1 C.2.1 dX3_turn_5 rfl hl (by decide) rfl (fun ls hl => ?_)
  refine lv_aload_n C.1 C.2.1 dX3_turn_6 rfl (lv_at hl 1 rfl) ?_
  refine lv_iload_n C.1 C.2.1 dX3_turn_7 rfl (lv_at hl 3 rfl) ?_
  by_cases hq8 : 0 ≤ (z) ∧ (z) ≤ 5
  rotate_left
  · exact zx_callI C B Zs htab hk (c_X3_checkCell_bad l hlq D cJ o a (c) ac re kn (z) (by first | omega | assumption) (by first | omega | assumption)) ml_X3_23 rfl ⟨Nat.le_of_ble_eq_true rfl, Nat.le_of_ble_eq_true rfl⟩ ⟨Nat.le_of_ble_eq_true rfl, Nat.le_of_ble_eq_true rfl⟩ ⟨Nat.le_of_ble_eq_true rfl, Nat.le_of_ble_eq_true rfl⟩ hl (Nat.le_of_ble_eq_true rfl) rfl dX3_turn_8
  exfalso; omega

set_option maxHeartbeats 4000000 in
set_option maxRecDepth 100000 in
theorem c_X3_move_badc (l : Launch) (hlq : l.stackTraces = false) (D : va_G) (cJ : ClassId) (o a : Nat) (c : Nat → Nat) (ac : Int32) (re : Int32) (kn : Int32) (f : Int) (z : Int) (r9f : -2147483648 ≤ f ∧ f ≤ 2147483647) (r9z : -2147483648 ≤ z ∧ z ≤ 2147483647) (hbad : ¬ ((0 ≤ f ∧ f ≤ 5) ∧ (0 ≤ z ∧ z ≤ 5))) : zXI l yX3_move 8 148 D cJ o a [.int (iZ (f)), .int (iZ (z))] c [.int (ac), .int (re), .int (kn)] "java/lang/IndexOutOfBoundsException" := by
  refine zXI.intro (lo := 124) (nA := 2) (own := RX3) zi_X3_move (by decide) rfl rfl (by decide +kernel) rfl (Nat.le_of_ble_eq_true rfl) ?_
  intro p e s m below meth c0 ls C htab hk B Zs hl
  have hl : lv_has ls 5 [(0, .ref o), (1, .int (iZ (f))), (2, .int (iZ (z)))] := hl
  refine lv_aload_n C.1 C.2.1 dX3_move_0 rfl (lv_at hl 0 rfl) ?_
  refine lv_iload_n C.1 C.2.1 dX3_move_1 rfl (lv_at hl 1 rfl) ?_
  by_cases hq2 : 0 ≤ (f) ∧ (f) ≤ 5
  rotate_left
  · exact zx_callI C B Zs htab hk (c_X3_polyIn_bad l hlq D cJ o a (c) ac re kn (f) (by first | omega | assumption) (by first | omega | assumption)) ml_X3_43 rfl ⟨Nat.le_of_ble_eq_true rfl, Nat.le_of_ble_eq_true rfl⟩ ⟨Nat.le_of_ble_eq_true rfl, Nat.le_of_ble_eq_true rfl⟩ ⟨Nat.le_of_ble_eq_true rfl, Nat.le_of_ble_eq_true rfl⟩ hl (Nat.le_of_ble_eq_true rfl) rfl dX3_move_2
  refine zo_callD C B (r := some (.long (lN ((c) (f).toNat)))) (c_X3_polyIn l D cJ o a (c) (ac) (re) (kn) (f) (by first | assumption | omega | rfl | exact decide_eq_false (by omega) | exact decide_eq_true (by assumption) | exact decide_eq_true (by omega) | exact one_shl33 (by omega) | exact pm_lt _ _ | exact rm_lt (by first | assumption | exact pm_lt _ _) | exact Nat.lt_of_le_of_lt (Nat.shiftRight_le _ _) (by assumption) | exact Nat.lt_of_le_of_lt Nat.and_le_right (by omega))) ml_X3_43 rfl ⟨Nat.le_of_ble_eq_true rfl, Nat.le_of_ble_eq_true rfl⟩ ⟨Nat.le_of_ble_eq_true rfl, Nat.le_of_ble_eq_true rfl⟩ hl (Nat.le_of_ble_eq_true rfl) rfl dX3_move_2 (fun H locs B => ?_)
  have q2_0 := B.1.2.2.2 ((f)).toNat
  refine lv_lstore_n (lv' := [(3, .long (lN ((c) (f).toNat))), (0, .ref o), (1, .int (iZ (f))), (2, .int (iZ (z)))]) C.1 C.2.1 dX3_move_5 rfl hl (by decide) rfl (fun ls hl => ?_)
  refine lv_aload_n C.1 C.2.1 dX3_move_6 rfl (lv_at hl 1 rfl) ?_
  refine lv_iload_n C.1 C.2.1 dX3_move_7 rfl (lv_at hl 3 rfl) ?_
  by_cases hq8 : 0 ≤ (z) ∧ (z) ≤ 5
  rotate_left
  · exact zx_callI C B Zs htab hk (c_X3_checkCell_bad l hlq D cJ o a (c) ac re kn (z) (by first | omega | assumption) (by first | omega | assumption)) ml_X3_23 rfl ⟨Nat.le_of_ble_eq_true rfl, Nat.le_of_ble_eq_true rfl⟩ ⟨Nat.le_of_ble_eq_true rfl, Nat.le_of_ble_eq_true rfl⟩ ⟨Nat.le_of_ble_eq_true rfl, Nat.le_of_ble_eq_true rfl⟩ hl (Nat.le_of_ble_eq_true rfl) rfl dX3_move_8
  exfalso; omega

set_option maxHeartbeats 4000000 in
set_option maxRecDepth 100000 in
theorem c_X3_power_badc (l : Launch) (hlq : l.stackTraces = false) (D : va_G) (cJ : ClassId) (o a : Nat) (c : Nat → Nat) (ac : Int32) (re : Int32) (kn : Int32) (f : Int) (t : Int) (g : Int) (z : Int) (r9f : -2147483648 ≤ f ∧ f ≤ 2147483647) (r9t : -2147483648 ≤ t ∧ t ≤ 2147483647) (r9g : -2147483648 ≤ g ∧ g ≤ 2147483647) (r9z : -2147483648 ≤ z ∧ z ≤ 2147483647) (hbad : ¬ ((0 ≤ f ∧ f ≤ 5) ∧ (0 ≤ g ∧ g ≤ 5) ∧ (0 ≤ z ∧ z ≤ 5))) : zXI l yX3_power 8 152 D cJ o a [.int (iZ (f)), .int (iZ (t)), .int (iZ (g)), .int (iZ (z))] c [.int (ac), .int (re), .int (kn)] "java/lang/IndexOutOfBoundsException" := by
  refine zXI.intro (lo := 124) (nA := 4) (own := RX3) zi_X3_power (by decide) rfl rfl (by decide +kernel) rfl (Nat.le_of_ble_eq_true rfl) ?_
  intro p e s m below meth c0 ls C htab hk B Zs hl
  have hl : lv_has ls 9 [(0, .ref o), (1, .int (iZ (f))), (2, .int (iZ (t))), (3, .int (iZ (g))), (4, .int (iZ (z)))] := hl
  refine lv_aload_n C.1 C.2.1 dX3_power_0 rfl (lv_at hl 0 rfl) ?_
  refine lv_iload_n C.1 C.2.1 dX3_power_1 rfl (lv_at hl 1 rfl) ?_
  by_cases hq2 : 0 ≤ (f) ∧ (f) ≤ 5
  rotate_left
  · exact zx_callI C B Zs htab hk (c_X3_polyIn_bad l hlq D cJ o a (c) ac re kn (f) (by first | omega | assumption) (by first | omega | assumption)) ml_X3_43 rfl ⟨Nat.le_of_ble_eq_true rfl, Nat.le_of_ble_eq_true rfl⟩ ⟨Nat.le_of_ble_eq_true rfl, Nat.le_of_ble_eq_true rfl⟩ ⟨Nat.le_of_ble_eq_true rfl, Nat.le_of_ble_eq_true rfl⟩ hl (Nat.le_of_ble_eq_true rfl) rfl dX3_power_2
  refine zo_callD C B (r := some (.long (lN ((c) (f).toNat)))) (c_X3_polyIn l D cJ o a (c) (ac) (re) (kn) (f) (by first | assumption | omega | rfl | exact decide_eq_false (by omega) | exact decide_eq_true (by assumption) | exact decide_eq_true (by omega) | exact one_shl33 (by omega) | exact pm_lt _ _ | exact rm_lt (by first | assumption | exact pm_lt _ _) | exact Nat.lt_of_le_of_lt (Nat.shiftRight_le _ _) (by assumption) | exact Nat.lt_of_le_of_lt Nat.and_le_right (by omega))) ml_X3_43 rfl ⟨Nat.le_of_ble_eq_true rfl, Nat.le_of_ble_eq_true rfl⟩ ⟨Nat.le_of_ble_eq_true rfl, Nat.le_of_ble_eq_true rfl⟩ hl (Nat.le_of_ble_eq_true rfl) rfl dX3_power_2 (fun H locs B => ?_)
  have q2_0 := B.1.2.2.2 ((f)).toNat
  refine lv_lstore (lv' := [(5, .long (lN ((c) (f).toNat))), (0, .ref o), (1, .int (iZ (f))), (2, .int (iZ (t))), (3, .int (iZ (g))), (4, .int (iZ (z)))]) C.1 C.2.1 dX3_power_5 hl (by decide) rfl (fun ls hl => ?_)
  refine lv_aload_n C.1 C.2.1 dX3_power_7 rfl (lv_at hl 1 rfl) ?_
  refine lv_iload_n C.1 C.2.1 dX3_power_8 rfl (lv_at hl 4 rfl) ?_
  by_cases hq9 : 0 ≤ (g) ∧ (g) ≤ 5
  rotate_left
  · exact zx_callI C B Zs htab hk (c_X3_polyIn_bad l hlq D cJ o a (c) ac re kn (g) (by first | omega | assumption) (by first | omega | assumption)) ml_X3_43 rfl ⟨Nat.le_of_ble_eq_true rfl, Nat.le_of_ble_eq_true rfl⟩ ⟨Nat.le_of_ble_eq_true rfl, Nat.le_of_ble_eq_true rfl⟩ ⟨Nat.le_of_ble_eq_true rfl, Nat.le_of_ble_eq_true rfl⟩ hl (Nat.le_of_ble_eq_true rfl) rfl dX3_power_9
  refine zo_callD C B (r := some (.long (lN ((c) (g).toNat)))) (c_X3_polyIn l D cJ o a (c) ((ac)) ((re)) ((kn)) (g) (by first | assumption | omega | rfl | exact decide_eq_false (by omega) | exact decide_eq_true (by assumption) | exact decide_eq_true (by omega) | exact one_shl33 (by omega) | exact pm_lt _ _ | exact rm_lt (by first | assumption | exact pm_lt _ _) | exact Nat.lt_of_le_of_lt (Nat.shiftRight_le _ _) (by assumption) | exact Nat.lt_of_le_of_lt Nat.and_le_right (by omega))) ml_X3_43 rfl ⟨Nat.le_of_ble_eq_true rfl, Nat.le_of_ble_eq_true rfl⟩ ⟨Nat.le_of_ble_eq_true rfl, Nat.le_of_ble_eq_true rfl⟩ hl (Nat.le_of_ble_eq_true rfl) rfl dX3_power_9 (fun H locs B => ?_)
  have q9_0 := B.1.2.2.2 ((g)).toNat
  refine lv_lstore (lv' := [(7, .long (lN ((c) (g).toNat))), (5, .long (lN ((c) (f).toNat))), (0, .ref o), (1, .int (iZ (f))), (2, .int (iZ (t))), (3, .int (iZ (g))), (4, .int (iZ (z)))]) C.1 C.2.1 dX3_power_12 hl (by decide) rfl (fun ls hl => ?_)
  refine lv_aload_n C.1 C.2.1 dX3_power_14 rfl (lv_at hl 2 rfl) ?_
  refine lv_iload C.1 C.2.1 dX3_power_15 (lv_at hl 6 rfl) ?_
  by_cases hq17 : 0 ≤ (z) ∧ (z) ≤ 5
  rotate_left
  · exact zx_callI C B Zs htab hk (c_X3_checkCell_bad l hlq D cJ o a (c) ac re kn (z) (by first | omega | assumption) (by first | omega | assumption)) ml_X3_23 rfl ⟨Nat.le_of_ble_eq_true rfl, Nat.le_of_ble_eq_true rfl⟩ ⟨Nat.le_of_ble_eq_true rfl, Nat.le_of_ble_eq_true rfl⟩ ⟨Nat.le_of_ble_eq_true rfl, Nat.le_of_ble_eq_true rfl⟩ hl (Nat.le_of_ble_eq_true rfl) rfl dX3_power_17
  exfalso; omega

set_option maxHeartbeats 4000000 in
set_option maxRecDepth 100000 in
theorem c_X3_power_badr (l : Launch) (hlq : l.stackTraces = false) (D : va_G) (cJ : ClassId) (o a : Nat) (c : Nat → Nat) (ac : Int32) (re : Int32) (kn : Int32) (f : Int) (t : Int) (g : Int) (z : Int) (r9f : -2147483648 ≤ f ∧ f ≤ 2147483647) (r9t : -2147483648 ≤ t ∧ t ≤ 2147483647) (r9g : -2147483648 ≤ g ∧ g ≤ 2147483647) (r9z : -2147483648 ≤ z ∧ z ≤ 2147483647) (hf : 0 ≤ f ∧ f ≤ 5) (hg : 0 ≤ g ∧ g ≤ 5) (hz : 0 ≤ z ∧ z ≤ 5) (hbad : ¬ ((0 ≤ t ∧ t ≤ 255))) : zXI l yX3_power 7 132 D cJ o a [.int (iZ (f)), .int (iZ (t)), .int (iZ (g)), .int (iZ (z))] c [.int (ac), .int (re), .int (kn)] "java/lang/IllegalArgumentException" := by
  refine zXI.intro (lo := 104) (nA := 4) (own := RX3) zi_X3_power (by decide) rfl rfl (by decide +kernel) rfl (Nat.le_of_ble_eq_true rfl) ?_
  intro p e s m below meth c0 ls C htab hk B Zs hl
  have hl : lv_has ls 9 [(0, .ref o), (1, .int (iZ (f))), (2, .int (iZ (t))), (3, .int (iZ (g))), (4, .int (iZ (z)))] := hl
  refine lv_aload_n C.1 C.2.1 dX3_power_0 rfl (lv_at hl 0 rfl) ?_
  refine lv_iload_n C.1 C.2.1 dX3_power_1 rfl (lv_at hl 1 rfl) ?_
  refine zo_callD C B (r := some (.long (lN ((c) (f).toNat)))) (c_X3_polyIn l D cJ o a (c) (ac) (re) (kn) (f) (by first | assumption | omega | rfl | exact decide_eq_false (by omega) | exact decide_eq_true (by assumption) | exact decide_eq_true (by omega) | exact one_shl33 (by omega) | exact pm_lt _ _ | exact rm_lt (by first | assumption | exact pm_lt _ _) | exact Nat.lt_of_le_of_lt (Nat.shiftRight_le _ _) (by assumption) | exact Nat.lt_of_le_of_lt Nat.and_le_right (by omega))) ml_X3_43 rfl ⟨Nat.le_of_ble_eq_true rfl, Nat.le_of_ble_eq_true rfl⟩ ⟨Nat.le_of_ble_eq_true rfl, Nat.le_of_ble_eq_true rfl⟩ hl (Nat.le_of_ble_eq_true rfl) rfl dX3_power_2 (fun H locs B => ?_)
  have q2_0 := B.1.2.2.2 ((f)).toNat
  refine lv_lstore (lv' := [(5, .long (lN ((c) (f).toNat))), (0, .ref o), (1, .int (iZ (f))), (2, .int (iZ (t))), (3, .int (iZ (g))), (4, .int (iZ (z)))]) C.1 C.2.1 dX3_power_5 hl (by decide) rfl (fun ls hl => ?_)
  refine lv_aload_n C.1 C.2.1 dX3_power_7 rfl (lv_at hl 1 rfl) ?_
  refine lv_iload_n C.1 C.2.1 dX3_power_8 rfl (lv_at hl 4 rfl) ?_
  refine zo_callD C B (r := some (.long (lN ((c) (g).toNat)))) (c_X3_polyIn l D cJ o a (c) ((ac)) ((re)) ((kn)) (g) (by first | assumption | omega | rfl | exact decide_eq_false (by omega) | exact decide_eq_true (by assumption) | exact decide_eq_true (by omega) | exact one_shl33 (by omega) | exact pm_lt _ _ | exact rm_lt (by first | assumption | exact pm_lt _ _) | exact Nat.lt_of_le_of_lt (Nat.shiftRight_le _ _) (by assumption) | exact Nat.lt_of_le_of_lt Nat.and_le_right (by omega))) ml_X3_43 rfl ⟨Nat.le_of_ble_eq_true rfl, Nat.le_of_ble_eq_true rfl⟩ ⟨Nat.le_of_ble_eq_true rfl, Nat.le_of_ble_eq_true rfl⟩ hl (Nat.le_of_ble_eq_true rfl) rfl dX3_power_9 (fun H locs B => ?_)
  have q9_0 := B.1.2.2.2 ((g)).toNat
  refine lv_lstore (lv' := [(7, .long (lN ((c) (g).toNat))), (5, .long (lN ((c) (f).toNat))), (0, .ref o), (1, .int (iZ (f))), (2, .int (iZ (t))), (3, .int (iZ (g))), (4, .int (iZ (z)))]) C.1 C.2.1 dX3_power_12 hl (by decide) rfl (fun ls hl => ?_)
  refine lv_aload_n C.1 C.2.1 dX3_power_14 rfl (lv_at hl 2 rfl) ?_
  refine lv_iload C.1 C.2.1 dX3_power_15 (lv_at hl 6 rfl) ?_
  refine zo_callD C B (r := none) (c_X3_checkCell l D cJ o a (c) (((ac))) (((re))) (((kn))) (z) (by first | assumption | omega | rfl | exact decide_eq_false (by omega) | exact decide_eq_true (by assumption) | exact decide_eq_true (by omega) | exact one_shl33 (by omega) | exact pm_lt _ _ | exact rm_lt (by first | assumption | exact pm_lt _ _) | exact Nat.lt_of_le_of_lt (Nat.shiftRight_le _ _) (by assumption) | exact Nat.lt_of_le_of_lt Nat.and_le_right (by omega))) ml_X3_23 rfl ⟨Nat.le_of_ble_eq_true rfl, Nat.le_of_ble_eq_true rfl⟩ ⟨Nat.le_of_ble_eq_true rfl, Nat.le_of_ble_eq_true rfl⟩ hl (Nat.le_of_ble_eq_true rfl) rfl dX3_power_17 (fun H locs B => ?_)
  refine lv_iload_n C.1 C.2.1 dX3_power_20 rfl (lv_at hl 4 rfl) ?_
  refine z_iconst C dX3_power_21 ?_
  refine z_sipush C dX3_power_22 (by decide) ?_
  by_cases hq25 : (0 : Int) ≤ (t) ∧ (t) ≤ (255 : Int)
  rotate_left
  · exact zx_callS C B Zs htab hk (c_X3_checkRange_bad l hlq (t) (0 : Int) (255 : Int) (by first | omega | assumption) (by first | omega | assumption) (by first | omega | assumption) (by first | omega | assumption)) ml_X3_33 ⟨Nat.le_of_ble_eq_true rfl, Nat.le_of_ble_eq_true rfl⟩ ⟨Nat.le_of_ble_eq_true rfl, Nat.le_of_ble_eq_true rfl⟩ ⟨Nat.le_of_ble_eq_true rfl, Nat.le_of_ble_eq_true rfl⟩ hl (Nat.le_of_ble_eq_true rfl) rfl dX3_power_25
  exfalso; omega

set_option maxHeartbeats 4000000 in
set_option maxRecDepth 100000 in
theorem c_X3_nth_badc (l : Launch) (hlq : l.stackTraces = false) (D : va_G) (cJ : ClassId) (o a : Nat) (c : Nat → Nat) (ac : Int32) (re : Int32) (kn : Int32) (d : Int) (r : Int) (z : Int) (r9d : -2147483648 ≤ d ∧ d ≤ 2147483647) (r9r : -2147483648 ≤ r ∧ r ≤ 2147483647) (r9z : -2147483648 ≤ z ∧ z ≤ 2147483647) (hbad : ¬ ((0 ≤ z ∧ z ≤ 5))) : zXI l yX3_nth 7 128 D cJ o a [.int (iZ (d)), .int (iZ (r)), .int (iZ (z))] c [.int (ac), .int (re), .int (kn)] "java/lang/IndexOutOfBoundsException" := by
  refine zXI.intro (lo := 103) (nA := 3) (own := RX3) zi_X3_nth (by decide) rfl rfl (by decide +kernel) rfl (Nat.le_of_ble_eq_true rfl) ?_
  intro p e s m below meth c0 ls C htab hk B Zs hl
  have hl : lv_has ls 6 [(0, .ref o), (1, .int (iZ (d))), (2, .int (iZ (r))), (3, .int (iZ (z)))] := hl
  refine lv_aload_n C.1 C.2.1 dX3_nth_0 rfl (lv_at hl 0 rfl) ?_
  refine lv_iload_n C.1 C.2.1 dX3_nth_1 rfl (lv_at hl 3 rfl) ?_
  by_cases hq2 : 0 ≤ (z) ∧ (z) ≤ 5
  rotate_left
  · exact zx_callI C B Zs htab hk (c_X3_checkCell_bad l hlq D cJ o a (c) ac re kn (z) (by first | omega | assumption) (by first | omega | assumption)) ml_X3_23 rfl ⟨Nat.le_of_ble_eq_true rfl, Nat.le_of_ble_eq_true rfl⟩ ⟨Nat.le_of_ble_eq_true rfl, Nat.le_of_ble_eq_true rfl⟩ ⟨Nat.le_of_ble_eq_true rfl, Nat.le_of_ble_eq_true rfl⟩ hl (Nat.le_of_ble_eq_true rfl) rfl dX3_nth_2
  exfalso; omega

set_option maxHeartbeats 4000000 in
set_option maxRecDepth 100000 in
theorem c_X3_nth_badr (l : Launch) (hlq : l.stackTraces = false) (D : va_G) (cJ : ClassId) (o a : Nat) (c : Nat → Nat) (ac : Int32) (re : Int32) (kn : Int32) (d : Int) (r : Int) (z : Int) (r9d : -2147483648 ≤ d ∧ d ≤ 2147483647) (r9r : -2147483648 ≤ r ∧ r ≤ 2147483647) (r9z : -2147483648 ≤ z ∧ z ≤ 2147483647) (hz : 0 ≤ z ∧ z ≤ 5) (hbad : ¬ ((1 ≤ d ∧ d ≤ 8) ∧ (0 ≤ r ∧ r ≤ 40))) : zXI l yX3_nth 7 129 D cJ o a [.int (iZ (d)), .int (iZ (r)), .int (iZ (z))] c [.int (ac), .int (re), .int (kn)] "java/lang/IllegalArgumentException" := by
  refine zXI.intro (lo := 104) (nA := 3) (own := RX3) zi_X3_nth (by decide) rfl rfl (by decide +kernel) rfl (Nat.le_of_ble_eq_true rfl) ?_
  intro p e s m below meth c0 ls C htab hk B Zs hl
  have hl : lv_has ls 6 [(0, .ref o), (1, .int (iZ (d))), (2, .int (iZ (r))), (3, .int (iZ (z)))] := hl
  refine lv_aload_n C.1 C.2.1 dX3_nth_0 rfl (lv_at hl 0 rfl) ?_
  refine lv_iload_n C.1 C.2.1 dX3_nth_1 rfl (lv_at hl 3 rfl) ?_
  refine zo_callD C B (r := none) (c_X3_checkCell l D cJ o a (c) (ac) (re) (kn) (z) (by first | assumption | omega | rfl | exact decide_eq_false (by omega) | exact decide_eq_true (by assumption) | exact decide_eq_true (by omega) | exact one_shl33 (by omega) | exact pm_lt _ _ | exact rm_lt (by first | assumption | exact pm_lt _ _) | exact Nat.lt_of_le_of_lt (Nat.shiftRight_le _ _) (by assumption) | exact Nat.lt_of_le_of_lt Nat.and_le_right (by omega))) ml_X3_23 rfl ⟨Nat.le_of_ble_eq_true rfl, Nat.le_of_ble_eq_true rfl⟩ ⟨Nat.le_of_ble_eq_true rfl, Nat.le_of_ble_eq_true rfl⟩ hl (Nat.le_of_ble_eq_true rfl) rfl dX3_nth_2 (fun H locs B => ?_)
  refine lv_iload_n C.1 C.2.1 dX3_nth_5 rfl (lv_at hl 1 rfl) ?_
  refine z_iconst C dX3_nth_6 ?_
  refine z_bipush C dX3_nth_7 (by decide) ?_
  by_cases hq9 : (1 : Int) ≤ (d) ∧ (d) ≤ (8 : Int)
  rotate_left
  · exact zx_callS C B Zs htab hk (c_X3_checkRange_bad l hlq (d) (1 : Int) (8 : Int) (by first | omega | assumption) (by first | omega | assumption) (by first | omega | assumption) (by first | omega | assumption)) ml_X3_33 ⟨Nat.le_of_ble_eq_true rfl, Nat.le_of_ble_eq_true rfl⟩ ⟨Nat.le_of_ble_eq_true rfl, Nat.le_of_ble_eq_true rfl⟩ ⟨Nat.le_of_ble_eq_true rfl, Nat.le_of_ble_eq_true rfl⟩ hl (Nat.le_of_ble_eq_true rfl) rfl dX3_nth_9
  refine z_callv C (c_X3_checkRange l (d) (1 : Int) (8 : Int) (by first | assumption | omega | rfl | exact decide_eq_false (by omega) | exact decide_eq_true (by assumption) | exact decide_eq_true (by omega) | exact one_shl33 (by omega) | exact pm_lt _ _ | exact rm_lt (by first | assumption | exact pm_lt _ _) | exact Nat.lt_of_le_of_lt (Nat.shiftRight_le _ _) (by assumption) | exact Nat.lt_of_le_of_lt Nat.and_le_right (by omega))) ml_X3_33 ⟨by decide, by decide⟩ ⟨Nat.le_of_ble_eq_true rfl, Nat.le_of_ble_eq_true rfl⟩ hl (Nat.le_of_ble_eq_true rfl) rfl dX3_nth_9 ?_
  refine lv_iload_n C.1 C.2.1 dX3_nth_12 rfl (lv_at hl 2 rfl) ?_
  refine z_iconst C dX3_nth_13 ?_
  refine z_bipush C dX3_nth_14 (by decide) ?_
  by_cases hq16 : (0 : Int) ≤ (r) ∧ (r) ≤ (40 : Int)
  rotate_left
  · exact zx_callS C B Zs htab hk (c_X3_checkRange_bad l hlq (r) (0 : Int) (40 : Int) (by first | omega | assumption) (by first | omega | assumption) (by first | omega | assumption) (by first | omega | assumption)) ml_X3_33 ⟨Nat.le_of_ble_eq_true rfl, Nat.le_of_ble_eq_true rfl⟩ ⟨Nat.le_of_ble_eq_true rfl, Nat.le_of_ble_eq_true rfl⟩ ⟨Nat.le_of_ble_eq_true rfl, Nat.le_of_ble_eq_true rfl⟩ hl (Nat.le_of_ble_eq_true rfl) rfl dX3_nth_16
  exfalso; omega

set_option maxHeartbeats 4000000 in
set_option maxRecDepth 100000 in
theorem c_X3_field_badc (l : Launch) (hlq : l.stackTraces = false) (D : va_G) (cJ : ClassId) (o a : Nat) (c : Nat → Nat) (ac : Int32) (re : Int32) (kn : Int32) (n : Int) (z : Int) (r9n : -2147483648 ≤ n ∧ n ≤ 2147483647) (r9z : -2147483648 ≤ z ∧ z ≤ 2147483647) (hbad : ¬ ((0 ≤ z ∧ z ≤ 5))) : zXI l yX3_field 7 125 D cJ o a [.int (iZ (n)), .int (iZ (z))] c [.int (ac), .int (re), .int (kn)] "java/lang/IndexOutOfBoundsException" := by
  refine zXI.intro (lo := 103) (nA := 2) (own := RX3) zi_X3_field (by decide) rfl rfl (by decide +kernel) rfl (Nat.le_of_ble_eq_true rfl) ?_
  intro p e s m below meth c0 ls C htab hk B Zs hl
  have hl : lv_has ls 3 [(0, .ref o), (1, .int (iZ (n))), (2, .int (iZ (z)))] := hl
  refine lv_aload_n C.1 C.2.1 dX3_field_0 rfl (lv_at hl 0 rfl) ?_
  refine lv_iload_n C.1 C.2.1 dX3_field_1 rfl (lv_at hl 2 rfl) ?_
  by_cases hq2 : 0 ≤ (z) ∧ (z) ≤ 5
  rotate_left
  · exact zx_callI C B Zs htab hk (c_X3_checkCell_bad l hlq D cJ o a (c) ac re kn (z) (by first | omega | assumption) (by first | omega | assumption)) ml_X3_23 rfl ⟨Nat.le_of_ble_eq_true rfl, Nat.le_of_ble_eq_true rfl⟩ ⟨Nat.le_of_ble_eq_true rfl, Nat.le_of_ble_eq_true rfl⟩ ⟨Nat.le_of_ble_eq_true rfl, Nat.le_of_ble_eq_true rfl⟩ hl (Nat.le_of_ble_eq_true rfl) rfl dX3_field_2
  exfalso; omega

set_option maxHeartbeats 4000000 in
set_option maxRecDepth 100000 in
theorem c_X3_field_badr (l : Launch) (hlq : l.stackTraces = false) (D : va_G) (cJ : ClassId) (o a : Nat) (c : Nat → Nat) (ac : Int32) (re : Int32) (kn : Int32) (n : Int) (z : Int) (r9n : -2147483648 ≤ n ∧ n ≤ 2147483647) (r9z : -2147483648 ≤ z ∧ z ≤ 2147483647) (hz : 0 ≤ z ∧ z ≤ 5) (hbad : ¬ ((1 ≤ n ∧ n ≤ 5))) : zXI l yX3_field 7 126 D cJ o a [.int (iZ (n)), .int (iZ (z))] c [.int (ac), .int (re), .int (kn)] "java/lang/IllegalArgumentException" := by
  refine zXI.intro (lo := 104) (nA := 2) (own := RX3) zi_X3_field (by decide) rfl rfl (by decide +kernel) rfl (Nat.le_of_ble_eq_true rfl) ?_
  intro p e s m below meth c0 ls C htab hk B Zs hl
  have hl : lv_has ls 3 [(0, .ref o), (1, .int (iZ (n))), (2, .int (iZ (z)))] := hl
  refine lv_aload_n C.1 C.2.1 dX3_field_0 rfl (lv_at hl 0 rfl) ?_
  refine lv_iload_n C.1 C.2.1 dX3_field_1 rfl (lv_at hl 2 rfl) ?_
  refine zo_callD C B (r := none) (c_X3_checkCell l D cJ o a (c) (ac) (re) (kn) (z) (by first | assumption | omega | rfl | exact decide_eq_false (by omega) | exact decide_eq_true (by assumption) | exact decide_eq_true (by omega) | exact one_shl33 (by omega) | exact pm_lt _ _ | exact rm_lt (by first | assumption | exact pm_lt _ _) | exact Nat.lt_of_le_of_lt (Nat.shiftRight_le _ _) (by assumption) | exact Nat.lt_of_le_of_lt Nat.and_le_right (by omega))) ml_X3_23 rfl ⟨Nat.le_of_ble_eq_true rfl, Nat.le_of_ble_eq_true rfl⟩ ⟨Nat.le_of_ble_eq_true rfl, Nat.le_of_ble_eq_true rfl⟩ hl (Nat.le_of_ble_eq_true rfl) rfl dX3_field_2 (fun H locs B => ?_)
  refine lv_iload_n C.1 C.2.1 dX3_field_5 rfl (lv_at hl 1 rfl) ?_
  refine z_iconst C dX3_field_6 ?_
  refine z_iconst C dX3_field_7 ?_
  by_cases hq8 : (1 : Int) ≤ (n) ∧ (n) ≤ (5 : Int)
  rotate_left
  · exact zx_callS C B Zs htab hk (c_X3_checkRange_bad l hlq (n) (1 : Int) (5 : Int) (by first | omega | assumption) (by first | omega | assumption) (by first | omega | assumption) (by first | omega | assumption)) ml_X3_33 ⟨Nat.le_of_ble_eq_true rfl, Nat.le_of_ble_eq_true rfl⟩ ⟨Nat.le_of_ble_eq_true rfl, Nat.le_of_ble_eq_true rfl⟩ ⟨Nat.le_of_ble_eq_true rfl, Nat.le_of_ble_eq_true rfl⟩ hl (Nat.le_of_ble_eq_true rfl) rfl dX3_field_8
  exfalso; omega

set_option maxHeartbeats 4000000 in
set_option maxRecDepth 100000 in
theorem c_X3_again_badc (l : Launch) (hlq : l.stackTraces = false) (D : va_G) (cJ : ClassId) (o a : Nat) (c : Nat → Nat) (ac : Int32) (re : Int32) (kn : Int32) (f : Int) (r : Int) (z : Int) (r9f : -2147483648 ≤ f ∧ f ≤ 2147483647) (r9r : -2147483648 ≤ r ∧ r ≤ 2147483647) (r9z : -2147483648 ≤ z ∧ z ≤ 2147483647) (hbad : ¬ ((0 ≤ f ∧ f ≤ 5) ∧ (0 ≤ z ∧ z ≤ 5))) : zXI l yX3_again 8 149 D cJ o a [.int (iZ (f)), .int (iZ (r)), .int (iZ (z))] c [.int (ac), .int (re), .int (kn)] "java/lang/IndexOutOfBoundsException" := by
  refine zXI.intro (lo := 124) (nA := 3) (own := RX3) zi_X3_again (by decide) rfl rfl (by decide +kernel) rfl (Nat.le_of_ble_eq_true rfl) ?_
  intro p e s m below meth c0 ls C htab hk B Zs hl
  have hl : lv_has ls 6 [(0, .ref o), (1, .int (iZ (f))), (2, .int (iZ (r))), (3, .int (iZ (z)))] := hl
  refine lv_aload_n C.1 C.2.1 dX3_again_0 rfl (lv_at hl 0 rfl) ?_
  refine lv_iload_n C.1 C.2.1 dX3_again_1 rfl (lv_at hl 1 rfl) ?_
  by_cases hq2 : 0 ≤ (f) ∧ (f) ≤ 5
  rotate_left
  · exact zx_callI C B Zs htab hk (c_X3_polyIn_bad l hlq D cJ o a (c) ac re kn (f) (by first | omega | assumption) (by first | omega | assumption)) ml_X3_43 rfl ⟨Nat.le_of_ble_eq_true rfl, Nat.le_of_ble_eq_true rfl⟩ ⟨Nat.le_of_ble_eq_true rfl, Nat.le_of_ble_eq_true rfl⟩ ⟨Nat.le_of_ble_eq_true rfl, Nat.le_of_ble_eq_true rfl⟩ hl (Nat.le_of_ble_eq_true rfl) rfl dX3_again_2
  refine zo_callD C B (r := some (.long (lN ((c) (f).toNat)))) (c_X3_polyIn l D cJ o a (c) (ac) (re) (kn) (f) (by first | assumption | omega | rfl | exact decide_eq_false (by omega) | exact decide_eq_true (by assumption) | exact decide_eq_true (by omega) | exact one_shl33 (by omega) | exact pm_lt _ _ | exact rm_lt (by first | assumption | exact pm_lt _ _) | exact Nat.lt_of_le_of_lt (Nat.shiftRight_le _ _) (by assumption) | exact Nat.lt_of_le_of_lt Nat.and_le_right (by omega))) ml_X3_43 rfl ⟨Nat.le_of_ble_eq_true rfl, Nat.le_of_ble_eq_true rfl⟩ ⟨Nat.le_of_ble_eq_true rfl, Nat.le_of_ble_eq_true rfl⟩ hl (Nat.le_of_ble_eq_true rfl) rfl dX3_again_2 (fun H locs B => ?_)
  have q2_0 := B.1.2.2.2 ((f)).toNat
  refine lv_lstore (lv' := [(4, .long (lN ((c) (f).toNat))), (0, .ref o), (1, .int (iZ (f))), (2, .int (iZ (r))), (3, .int (iZ (z)))]) C.1 C.2.1 dX3_again_5 hl (by decide) rfl (fun ls hl => ?_)
  refine lv_aload_n C.1 C.2.1 dX3_again_7 rfl (lv_at hl 1 rfl) ?_
  refine lv_iload_n C.1 C.2.1 dX3_again_8 rfl (lv_at hl 4 rfl) ?_
  by_cases hq9 : 0 ≤ (z) ∧ (z) ≤ 5
  rotate_left
  · exact zx_callI C B Zs htab hk (c_X3_checkCell_bad l hlq D cJ o a (c) ac re kn (z) (by first | omega | assumption) (by first | omega | assumption)) ml_X3_23 rfl ⟨Nat.le_of_ble_eq_true rfl, Nat.le_of_ble_eq_true rfl⟩ ⟨Nat.le_of_ble_eq_true rfl, Nat.le_of_ble_eq_true rfl⟩ ⟨Nat.le_of_ble_eq_true rfl, Nat.le_of_ble_eq_true rfl⟩ hl (Nat.le_of_ble_eq_true rfl) rfl dX3_again_9
  exfalso; omega

set_option maxHeartbeats 4000000 in
set_option maxRecDepth 100000 in
theorem c_X3_again_badr (l : Launch) (hlq : l.stackTraces = false) (D : va_G) (cJ : ClassId) (o a : Nat) (c : Nat → Nat) (ac : Int32) (re : Int32) (kn : Int32) (f : Int) (r : Int) (z : Int) (r9f : -2147483648 ≤ f ∧ f ≤ 2147483647) (r9r : -2147483648 ≤ r ∧ r ≤ 2147483647) (r9z : -2147483648 ≤ z ∧ z ≤ 2147483647) (hf : 0 ≤ f ∧ f ≤ 5) (hz : 0 ≤ z ∧ z ≤ 5) (hbad : ¬ ((2 ≤ r ∧ r ≤ 36))) : zXI l yX3_again 7 129 D cJ o a [.int (iZ (f)), .int (iZ (r)), .int (iZ (z))] c [.int (ac), .int (re), .int (kn)] "java/lang/IllegalArgumentException" := by
  refine zXI.intro (lo := 104) (nA := 3) (own := RX3) zi_X3_again (by decide) rfl rfl (by decide +kernel) rfl (Nat.le_of_ble_eq_true rfl) ?_
  intro p e s m below meth c0 ls C htab hk B Zs hl
  have hl : lv_has ls 6 [(0, .ref o), (1, .int (iZ (f))), (2, .int (iZ (r))), (3, .int (iZ (z)))] := hl
  refine lv_aload_n C.1 C.2.1 dX3_again_0 rfl (lv_at hl 0 rfl) ?_
  refine lv_iload_n C.1 C.2.1 dX3_again_1 rfl (lv_at hl 1 rfl) ?_
  refine zo_callD C B (r := some (.long (lN ((c) (f).toNat)))) (c_X3_polyIn l D cJ o a (c) (ac) (re) (kn) (f) (by first | assumption | omega | rfl | exact decide_eq_false (by omega) | exact decide_eq_true (by assumption) | exact decide_eq_true (by omega) | exact one_shl33 (by omega) | exact pm_lt _ _ | exact rm_lt (by first | assumption | exact pm_lt _ _) | exact Nat.lt_of_le_of_lt (Nat.shiftRight_le _ _) (by assumption) | exact Nat.lt_of_le_of_lt Nat.and_le_right (by omega))) ml_X3_43 rfl ⟨Nat.le_of_ble_eq_true rfl, Nat.le_of_ble_eq_true rfl⟩ ⟨Nat.le_of_ble_eq_true rfl, Nat.le_of_ble_eq_true rfl⟩ hl (Nat.le_of_ble_eq_true rfl) rfl dX3_again_2 (fun H locs B => ?_)
  have q2_0 := B.1.2.2.2 ((f)).toNat
  refine lv_lstore (lv' := [(4, .long (lN ((c) (f).toNat))), (0, .ref o), (1, .int (iZ (f))), (2, .int (iZ (r))), (3, .int (iZ (z)))]) C.1 C.2.1 dX3_again_5 hl (by decide) rfl (fun ls hl => ?_)
  refine lv_aload_n C.1 C.2.1 dX3_again_7 rfl (lv_at hl 1 rfl) ?_
  refine lv_iload_n C.1 C.2.1 dX3_again_8 rfl (lv_at hl 4 rfl) ?_
  refine zo_callD C B (r := none) (c_X3_checkCell l D cJ o a (c) ((ac)) ((re)) ((kn)) (z) (by first | assumption | omega | rfl | exact decide_eq_false (by omega) | exact decide_eq_true (by assumption) | exact decide_eq_true (by omega) | exact one_shl33 (by omega) | exact pm_lt _ _ | exact rm_lt (by first | assumption | exact pm_lt _ _) | exact Nat.lt_of_le_of_lt (Nat.shiftRight_le _ _) (by assumption) | exact Nat.lt_of_le_of_lt Nat.and_le_right (by omega))) ml_X3_23 rfl ⟨Nat.le_of_ble_eq_true rfl, Nat.le_of_ble_eq_true rfl⟩ ⟨Nat.le_of_ble_eq_true rfl, Nat.le_of_ble_eq_true rfl⟩ hl (Nat.le_of_ble_eq_true rfl) rfl dX3_again_9 (fun H locs B => ?_)
  refine lv_iload_n C.1 C.2.1 dX3_again_12 rfl (lv_at hl 3 rfl) ?_
  refine z_iconst C dX3_again_13 ?_
  refine z_bipush C dX3_again_14 (by decide) ?_
  by_cases hq16 : (2 : Int) ≤ (r) ∧ (r) ≤ (36 : Int)
  rotate_left
  · exact zx_callS C B Zs htab hk (c_X3_checkRange_bad l hlq (r) (2 : Int) (36 : Int) (by first | omega | assumption) (by first | omega | assumption) (by first | omega | assumption) (by first | omega | assumption)) ml_X3_33 ⟨Nat.le_of_ble_eq_true rfl, Nat.le_of_ble_eq_true rfl⟩ ⟨Nat.le_of_ble_eq_true rfl, Nat.le_of_ble_eq_true rfl⟩ ⟨Nat.le_of_ble_eq_true rfl, Nat.le_of_ble_eq_true rfl⟩ hl (Nat.le_of_ble_eq_true rfl) rfl dX3_again_16
  exfalso; omega

set_option maxHeartbeats 4000000 in
set_option maxRecDepth 100000 in
theorem c_X3_degree_badc (l : Launch) (hlq : l.stackTraces = false) (D : va_G) (cJ : ClassId) (o a : Nat) (c : Nat → Nat) (ac : Int32) (re : Int32) (kn : Int32) (z : Int) (r9z : -2147483648 ≤ z ∧ z ≤ 2147483647) (hbad : ¬ ((0 ≤ z ∧ z ≤ 5))) : zXI l yX3_degree 8 145 D cJ o a [.int (iZ (z))] c [.int (ac), .int (re), .int (kn)] "java/lang/IndexOutOfBoundsException" := by
  refine zXI.intro (lo := 124) (nA := 1) (own := RX3) zi_X3_degree (by decide) rfl rfl (by decide +kernel) rfl (Nat.le_of_ble_eq_true rfl) ?_
  intro p e s m below meth c0 ls C htab hk B Zs hl
  have hl : lv_has ls 2 [(0, .ref o), (1, .int (iZ (z)))] := hl
  refine lv_aload_n C.1 C.2.1 dX3_degree_0 rfl (lv_at hl 0 rfl) ?_
  refine lv_iload_n C.1 C.2.1 dX3_degree_1 rfl (lv_at hl 1 rfl) ?_
  by_cases hq2 : 0 ≤ (z) ∧ (z) ≤ 5
  rotate_left
  · exact zx_callI C B Zs htab hk (c_X3_polyIn_bad l hlq D cJ o a (c) ac re kn (z) (by first | omega | assumption) (by first | omega | assumption)) ml_X3_43 rfl ⟨Nat.le_of_ble_eq_true rfl, Nat.le_of_ble_eq_true rfl⟩ ⟨Nat.le_of_ble_eq_true rfl, Nat.le_of_ble_eq_true rfl⟩ ⟨Nat.le_of_ble_eq_true rfl, Nat.le_of_ble_eq_true rfl⟩ hl (Nat.le_of_ble_eq_true rfl) rfl dX3_degree_2
  exfalso; omega

set_option maxHeartbeats 4000000 in
set_option maxRecDepth 100000 in
theorem c_X3_low_badc (l : Launch) (hlq : l.stackTraces = false) (D : va_G) (cJ : ClassId) (o a : Nat) (c : Nat → Nat) (ac : Int32) (re : Int32) (kn : Int32) (z : Int) (r9z : -2147483648 ≤ z ∧ z ≤ 2147483647) (hbad : ¬ ((0 ≤ z ∧ z ≤ 5))) : zXI l yX3_low 8 145 D cJ o a [.int (iZ (z))] c [.int (ac), .int (re), .int (kn)] "java/lang/IndexOutOfBoundsException" := by
  refine zXI.intro (lo := 124) (nA := 1) (own := RX3) zi_X3_low (by decide) rfl rfl (by decide +kernel) rfl (Nat.le_of_ble_eq_true rfl) ?_
  intro p e s m below meth c0 ls C htab hk B Zs hl
  have hl : lv_has ls 2 [(0, .ref o), (1, .int (iZ (z)))] := hl
  refine lv_aload_n C.1 C.2.1 dX3_low_0 rfl (lv_at hl 0 rfl) ?_
  refine lv_iload_n C.1 C.2.1 dX3_low_1 rfl (lv_at hl 1 rfl) ?_
  by_cases hq2 : 0 ≤ (z) ∧ (z) ≤ 5
  rotate_left
  · exact zx_callI C B Zs htab hk (c_X3_polyIn_bad l hlq D cJ o a (c) ac re kn (z) (by first | omega | assumption) (by first | omega | assumption)) ml_X3_43 rfl ⟨Nat.le_of_ble_eq_true rfl, Nat.le_of_ble_eq_true rfl⟩ ⟨Nat.le_of_ble_eq_true rfl, Nat.le_of_ble_eq_true rfl⟩ ⟨Nat.le_of_ble_eq_true rfl, Nat.le_of_ble_eq_true rfl⟩ hl (Nat.le_of_ble_eq_true rfl) rfl dX3_low_2
  exfalso; omega

set_option maxHeartbeats 4000000 in
set_option maxRecDepth 100000 in
theorem c_X3_weight_badc (l : Launch) (hlq : l.stackTraces = false) (D : va_G) (cJ : ClassId) (o a : Nat) (c : Nat → Nat) (ac : Int32) (re : Int32) (kn : Int32) (z : Int) (r9z : -2147483648 ≤ z ∧ z ≤ 2147483647) (hbad : ¬ ((0 ≤ z ∧ z ≤ 5))) : zXI l yX3_weight 8 145 D cJ o a [.int (iZ (z))] c [.int (ac), .int (re), .int (kn)] "java/lang/IndexOutOfBoundsException" := by
  refine zXI.intro (lo := 124) (nA := 1) (own := RX3) zi_X3_weight (by decide) rfl rfl (by decide +kernel) rfl (Nat.le_of_ble_eq_true rfl) ?_
  intro p e s m below meth c0 ls C htab hk B Zs hl
  have hl : lv_has ls 2 [(0, .ref o), (1, .int (iZ (z)))] := hl
  refine lv_aload_n C.1 C.2.1 dX3_weight_0 rfl (lv_at hl 0 rfl) ?_
  refine lv_iload_n C.1 C.2.1 dX3_weight_1 rfl (lv_at hl 1 rfl) ?_
  by_cases hq2 : 0 ≤ (z) ∧ (z) ≤ 5
  rotate_left
  · exact zx_callI C B Zs htab hk (c_X3_polyIn_bad l hlq D cJ o a (c) ac re kn (z) (by first | omega | assumption) (by first | omega | assumption)) ml_X3_43 rfl ⟨Nat.le_of_ble_eq_true rfl, Nat.le_of_ble_eq_true rfl⟩ ⟨Nat.le_of_ble_eq_true rfl, Nat.le_of_ble_eq_true rfl⟩ ⟨Nat.le_of_ble_eq_true rfl, Nat.le_of_ble_eq_true rfl⟩ hl (Nat.le_of_ble_eq_true rfl) rfl dX3_weight_2
  exfalso; omega

set_option maxHeartbeats 4000000 in
set_option maxRecDepth 100000 in
theorem c_X3_digits_badc (l : Launch) (hlq : l.stackTraces = false) (D : va_G) (cJ : ClassId) (o a : Nat) (c : Nat → Nat) (ac : Int32) (re : Int32) (kn : Int32) (z : Int) (r9z : -2147483648 ≤ z ∧ z ≤ 2147483647) (hbad : ¬ ((0 ≤ z ∧ z ≤ 5))) : zXI l yX3_digits 8 145 D cJ o a [.int (iZ (z))] c [.int (ac), .int (re), .int (kn)] "java/lang/IndexOutOfBoundsException" := by
  refine zXI.intro (lo := 124) (nA := 1) (own := RX3) zi_X3_digits (by decide) rfl rfl (by decide +kernel) rfl (Nat.le_of_ble_eq_true rfl) ?_
  intro p e s m below meth c0 ls C htab hk B Zs hl
  have hl : lv_has ls 2 [(0, .ref o), (1, .int (iZ (z)))] := hl
  refine lv_aload_n C.1 C.2.1 dX3_digits_0 rfl (lv_at hl 0 rfl) ?_
  refine lv_iload_n C.1 C.2.1 dX3_digits_1 rfl (lv_at hl 1 rfl) ?_
  by_cases hq2 : 0 ≤ (z) ∧ (z) ≤ 5
  rotate_left
  · exact zx_callI C B Zs htab hk (c_X3_polyIn_bad l hlq D cJ o a (c) ac re kn (z) (by first | omega | assumption) (by first | omega | assumption)) ml_X3_43 rfl ⟨Nat.le_of_ble_eq_true rfl, Nat.le_of_ble_eq_true rfl⟩ ⟨Nat.le_of_ble_eq_true rfl, Nat.le_of_ble_eq_true rfl⟩ ⟨Nat.le_of_ble_eq_true rfl, Nat.le_of_ble_eq_true rfl⟩ hl (Nat.le_of_ble_eq_true rfl) rfl dX3_digits_2
  exfalso; omega

set_option maxHeartbeats 4000000 in
set_option maxRecDepth 100000 in
theorem c_X3_at_badc (l : Launch) (hlq : l.stackTraces = false) (D : va_G) (cJ : ClassId) (o a : Nat) (c : Nat → Nat) (ac : Int32) (re : Int32) (kn : Int32) (z : Int) (g : Int) (r9z : -2147483648 ≤ z ∧ z ≤ 2147483647) (r9g : -2147483648 ≤ g ∧ g ≤ 2147483647) (hbad : ¬ ((0 ≤ z ∧ z ≤ 5))) : zXI l yX3_at 8 148 D cJ o a [.int (iZ (z)), .int (iZ (g))] c [.int (ac), .int (re), .int (kn)] "java/lang/IndexOutOfBoundsException" := by
  refine zXI.intro (lo := 124) (nA := 2) (own := RX3) zi_X3_at (by decide) rfl rfl (by decide +kernel) rfl (Nat.le_of_ble_eq_true rfl) ?_
  intro p e s m below meth c0 ls C htab hk B Zs hl
  have hl : lv_has ls 5 [(0, .ref o), (1, .int (iZ (z))), (2, .int (iZ (g)))] := hl
  refine lv_aload_n C.1 C.2.1 dX3_at_0 rfl (lv_at hl 0 rfl) ?_
  refine lv_iload_n C.1 C.2.1 dX3_at_1 rfl (lv_at hl 1 rfl) ?_
  by_cases hq2 : 0 ≤ (z) ∧ (z) ≤ 5
  rotate_left
  · exact zx_callI C B Zs htab hk (c_X3_polyIn_bad l hlq D cJ o a (c) ac re kn (z) (by first | omega | assumption) (by first | omega | assumption)) ml_X3_43 rfl ⟨Nat.le_of_ble_eq_true rfl, Nat.le_of_ble_eq_true rfl⟩ ⟨Nat.le_of_ble_eq_true rfl, Nat.le_of_ble_eq_true rfl⟩ ⟨Nat.le_of_ble_eq_true rfl, Nat.le_of_ble_eq_true rfl⟩ hl (Nat.le_of_ble_eq_true rfl) rfl dX3_at_2
  exfalso; omega

set_option maxHeartbeats 4000000 in
set_option maxRecDepth 100000 in
theorem c_X3_at_badr (l : Launch) (hlq : l.stackTraces = false) (D : va_G) (cJ : ClassId) (o a : Nat) (c : Nat → Nat) (ac : Int32) (re : Int32) (kn : Int32) (z : Int) (g : Int) (r9z : -2147483648 ≤ z ∧ z ≤ 2147483647) (r9g : -2147483648 ≤ g ∧ g ≤ 2147483647) (hz : 0 ≤ z ∧ z ≤ 5) (hbad : ¬ ((0 ≤ g ∧ g ≤ 99))) : zXI l yX3_at 7 128 D cJ o a [.int (iZ (z)), .int (iZ (g))] c [.int (ac), .int (re), .int (kn)] "java/lang/IllegalArgumentException" := by
  refine zXI.intro (lo := 104) (nA := 2) (own := RX3) zi_X3_at (by decide) rfl rfl (by decide +kernel) rfl (Nat.le_of_ble_eq_true rfl) ?_
  intro p e s m below meth c0 ls C htab hk B Zs hl
  have hl : lv_has ls 5 [(0, .ref o), (1, .int (iZ (z))), (2, .int (iZ (g)))] := hl
  refine lv_aload_n C.1 C.2.1 dX3_at_0 rfl (lv_at hl 0 rfl) ?_
  refine lv_iload_n C.1 C.2.1 dX3_at_1 rfl (lv_at hl 1 rfl) ?_
  refine zo_callD C B (r := some (.long (lN ((c) (z).toNat)))) (c_X3_polyIn l D cJ o a (c) (ac) (re) (kn) (z) (by first | assumption | omega | rfl | exact decide_eq_false (by omega) | exact decide_eq_true (by assumption) | exact decide_eq_true (by omega) | exact one_shl33 (by omega) | exact pm_lt _ _ | exact rm_lt (by first | assumption | exact pm_lt _ _) | exact Nat.lt_of_le_of_lt (Nat.shiftRight_le _ _) (by assumption) | exact Nat.lt_of_le_of_lt Nat.and_le_right (by omega))) ml_X3_43 rfl ⟨Nat.le_of_ble_eq_true rfl, Nat.le_of_ble_eq_true rfl⟩ ⟨Nat.le_of_ble_eq_true rfl, Nat.le_of_ble_eq_true rfl⟩ hl (Nat.le_of_ble_eq_true rfl) rfl dX3_at_2 (fun H locs B => ?_)
  have q2_0 := B.1.2.2.2 ((z)).toNat
  refine lv_lstore_n (lv' := [(3, .long (lN ((c) (z).toNat))), (0, .ref o), (1, .int (iZ (z))), (2, .int (iZ (g)))]) C.1 C.2.1 dX3_at_5 rfl hl (by decide) rfl (fun ls hl => ?_)
  refine lv_iload_n C.1 C.2.1 dX3_at_6 rfl (lv_at hl 3 rfl) ?_
  refine z_iconst C dX3_at_7 ?_
  refine z_bipush C dX3_at_8 (by decide) ?_
  by_cases hq10 : (0 : Int) ≤ (g) ∧ (g) ≤ (99 : Int)
  rotate_left
  · exact zx_callS C B Zs htab hk (c_X3_checkRange_bad l hlq (g) (0 : Int) (99 : Int) (by first | omega | assumption) (by first | omega | assumption) (by first | omega | assumption) (by first | omega | assumption)) ml_X3_33 ⟨Nat.le_of_ble_eq_true rfl, Nat.le_of_ble_eq_true rfl⟩ ⟨Nat.le_of_ble_eq_true rfl, Nat.le_of_ble_eq_true rfl⟩ ⟨Nat.le_of_ble_eq_true rfl, Nat.le_of_ble_eq_true rfl⟩ hl (Nat.le_of_ble_eq_true rfl) rfl dX3_at_10
  exfalso; omega

set_option maxHeartbeats 4000000 in
set_option maxRecDepth 100000 in
theorem c_X3_order_badc (l : Launch) (hlq : l.stackTraces = false) (D : va_G) (cJ : ClassId) (o a : Nat) (c : Nat → Nat) (ac : Int32) (re : Int32) (kn : Int32) (f : Int) (z : Int) (r9f : -2147483648 ≤ f ∧ f ≤ 2147483647) (r9z : -2147483648 ≤ z ∧ z ≤ 2147483647) (hbad : ¬ ((0 ≤ f ∧ f ≤ 5) ∧ (0 ≤ z ∧ z ≤ 5))) : zXI l yX3_order 8 150 D cJ o a [.int (iZ (f)), .int (iZ (z))] c [.int (ac), .int (re), .int (kn)] "java/lang/IndexOutOfBoundsException" := by
  refine zXI.intro (lo := 124) (nA := 2) (own := RX3) zi_X3_order (by decide) rfl rfl (by decide +kernel) rfl (Nat.le_of_ble_eq_true rfl) ?_
  intro p e s m below meth c0 ls C htab hk B Zs hl
  have hl : lv_has ls 7 [(0, .ref o), (1, .int (iZ (f))), (2, .int (iZ (z)))] := hl
  refine lv_aload_n C.1 C.2.1 dX3_order_0 rfl (lv_at hl 0 rfl) ?_
  refine lv_iload_n C.1 C.2.1 dX3_order_1 rfl (lv_at hl 1 rfl) ?_
  by_cases hq2 : 0 ≤ (f) ∧ (f) ≤ 5
  rotate_left
  · exact zx_callI C B Zs htab hk (c_X3_polyIn_bad l hlq D cJ o a (c) ac re kn (f) (by first | omega | assumption) (by first | omega | assumption)) ml_X3_43 rfl ⟨Nat.le_of_ble_eq_true rfl, Nat.le_of_ble_eq_true rfl⟩ ⟨Nat.le_of_ble_eq_true rfl, Nat.le_of_ble_eq_true rfl⟩ ⟨Nat.le_of_ble_eq_true rfl, Nat.le_of_ble_eq_true rfl⟩ hl (Nat.le_of_ble_eq_true rfl) rfl dX3_order_2
  refine zo_callD C B (r := some (.long (lN ((c) (f).toNat)))) (c_X3_polyIn l D cJ o a (c) (ac) (re) (kn) (f) (by first | assumption | omega | rfl | exact decide_eq_false (by omega) | exact decide_eq_true (by assumption) | exact decide_eq_true (by omega) | exact one_shl33 (by omega) | exact pm_lt _ _ | exact rm_lt (by first | assumption | exact pm_lt _ _) | exact Nat.lt_of_le_of_lt (Nat.shiftRight_le _ _) (by assumption) | exact Nat.lt_of_le_of_lt Nat.and_le_right (by omega))) ml_X3_43 rfl ⟨Nat.le_of_ble_eq_true rfl, Nat.le_of_ble_eq_true rfl⟩ ⟨Nat.le_of_ble_eq_true rfl, Nat.le_of_ble_eq_true rfl⟩ hl (Nat.le_of_ble_eq_true rfl) rfl dX3_order_2 (fun H locs B => ?_)
  have q2_0 := B.1.2.2.2 ((f)).toNat
  refine lv_lstore_n (lv' := [(3, .long (lN ((c) (f).toNat))), (0, .ref o), (1, .int (iZ (f))), (2, .int (iZ (z)))]) C.1 C.2.1 dX3_order_5 rfl hl (by decide) rfl (fun ls hl => ?_)
  refine lv_aload_n C.1 C.2.1 dX3_order_6 rfl (lv_at hl 1 rfl) ?_
  refine lv_iload_n C.1 C.2.1 dX3_order_7 rfl (lv_at hl 3 rfl) ?_
  by_cases hq8 : 0 ≤ (z) ∧ (z) ≤ 5
  rotate_left
  · exact zx_callI C B Zs htab hk (c_X3_polyIn_bad l hlq D cJ o a (c) ac re kn (z) (by first | omega | assumption) (by first | omega | assumption)) ml_X3_43 rfl ⟨Nat.le_of_ble_eq_true rfl, Nat.le_of_ble_eq_true rfl⟩ ⟨Nat.le_of_ble_eq_true rfl, Nat.le_of_ble_eq_true rfl⟩ ⟨Nat.le_of_ble_eq_true rfl, Nat.le_of_ble_eq_true rfl⟩ hl (Nat.le_of_ble_eq_true rfl) rfl dX3_order_8
  exfalso; omega

set_option maxHeartbeats 4000000 in
set_option maxRecDepth 100000 in
theorem c_X3_isSame_badc (l : Launch) (hlq : l.stackTraces = false) (D : va_G) (cJ : ClassId) (o a : Nat) (c : Nat → Nat) (ac : Int32) (re : Int32) (kn : Int32) (f : Int) (z : Int) (r9f : -2147483648 ≤ f ∧ f ≤ 2147483647) (r9z : -2147483648 ≤ z ∧ z ≤ 2147483647) (hbad : ¬ ((0 ≤ f ∧ f ≤ 5) ∧ (0 ≤ z ∧ z ≤ 5))) : zXI l yX3_isSame 8 146 D cJ o a [.int (iZ (f)), .int (iZ (z))] c [.int (ac), .int (re), .int (kn)] "java/lang/IndexOutOfBoundsException" := by
  refine zXI.intro (lo := 124) (nA := 2) (own := RX3) zi_X3_isSame (by decide) rfl rfl (by decide +kernel) rfl (Nat.le_of_ble_eq_true rfl) ?_
  intro p e s m below meth c0 ls C htab hk B Zs hl
  have hl : lv_has ls 3 [(0, .ref o), (1, .int (iZ (f))), (2, .int (iZ (z)))] := hl
  refine lv_aload_n C.1 C.2.1 dX3_isSame_0 rfl (lv_at hl 0 rfl) ?_
  refine lv_iload_n C.1 C.2.1 dX3_isSame_1 rfl (lv_at hl 1 rfl) ?_
  by_cases hq2 : 0 ≤ (f) ∧ (f) ≤ 5
  rotate_left
  · exact zx_callI C B Zs htab hk (c_X3_polyIn_bad l hlq D cJ o a (c) ac re kn (f) (by first | omega | assumption) (by first | omega | assumption)) ml_X3_43 rfl ⟨Nat.le_of_ble_eq_true rfl, Nat.le_of_ble_eq_true rfl⟩ ⟨Nat.le_of_ble_eq_true rfl, Nat.le_of_ble_eq_true rfl⟩ ⟨Nat.le_of_ble_eq_true rfl, Nat.le_of_ble_eq_true rfl⟩ hl (Nat.le_of_ble_eq_true rfl) rfl dX3_isSame_2
  refine zo_callD C B (r := some (.long (lN ((c) (f).toNat)))) (c_X3_polyIn l D cJ o a (c) (ac) (re) (kn) (f) (by first | assumption | omega | rfl | exact decide_eq_false (by omega) | exact decide_eq_true (by assumption) | exact decide_eq_true (by omega) | exact one_shl33 (by omega) | exact pm_lt _ _ | exact rm_lt (by first | assumption | exact pm_lt _ _) | exact Nat.lt_of_le_of_lt (Nat.shiftRight_le _ _) (by assumption) | exact Nat.lt_of_le_of_lt Nat.and_le_right (by omega))) ml_X3_43 rfl ⟨Nat.le_of_ble_eq_true rfl, Nat.le_of_ble_eq_true rfl⟩ ⟨Nat.le_of_ble_eq_true rfl, Nat.le_of_ble_eq_true rfl⟩ hl (Nat.le_of_ble_eq_true rfl) rfl dX3_isSame_2 (fun H locs B => ?_)
  have q2_0 := B.1.2.2.2 ((f)).toNat
  refine lv_aload_n C.1 C.2.1 dX3_isSame_5 rfl (lv_at hl 0 rfl) ?_
  refine lv_iload_n C.1 C.2.1 dX3_isSame_6 rfl (lv_at hl 2 rfl) ?_
  by_cases hq7 : 0 ≤ (z) ∧ (z) ≤ 5
  rotate_left
  · exact zx_callI C B Zs htab hk (c_X3_polyIn_bad l hlq D cJ o a (c) ac re kn (z) (by first | omega | assumption) (by first | omega | assumption)) ml_X3_43 rfl ⟨Nat.le_of_ble_eq_true rfl, Nat.le_of_ble_eq_true rfl⟩ ⟨Nat.le_of_ble_eq_true rfl, Nat.le_of_ble_eq_true rfl⟩ ⟨Nat.le_of_ble_eq_true rfl, Nat.le_of_ble_eq_true rfl⟩ hl (Nat.le_of_ble_eq_true rfl) rfl dX3_isSame_7
  exfalso; omega

set_option maxHeartbeats 4000000 in
set_option maxRecDepth 100000 in
theorem c_X3_value_badc (l : Launch) (hlq : l.stackTraces = false) (D : va_G) (cJ : ClassId) (o a : Nat) (c : Nat → Nat) (ac : Int32) (re : Int32) (kn : Int32) (z : Int) (b : Bool) (r9z : -2147483648 ≤ z ∧ z ≤ 2147483647) (hbad : ¬ ((0 ≤ z ∧ z ≤ 5))) : zXI l yX3_value 8 148 D cJ o a [.int (iZ (z)), .int (iZ (zB (b)))] c [.int (ac), .int (re), .int (kn)] "java/lang/IndexOutOfBoundsException" := by
  refine zXI.intro (lo := 124) (nA := 2) (own := RX3) zi_X3_value (by decide) rfl rfl (by decide +kernel) rfl (Nat.le_of_ble_eq_true rfl) ?_
  intro p e s m below meth c0 ls C htab hk B Zs hl
  have hl : lv_has ls 5 [(0, .ref o), (1, .int (iZ (z))), (2, .int (iZ (zB (b))))] := hl
  refine lv_aload_n C.1 C.2.1 dX3_value_0 rfl (lv_at hl 0 rfl) ?_
  refine lv_iload_n C.1 C.2.1 dX3_value_1 rfl (lv_at hl 1 rfl) ?_
  by_cases hq2 : 0 ≤ (z) ∧ (z) ≤ 5
  rotate_left
  · exact zx_callI C B Zs htab hk (c_X3_polyIn_bad l hlq D cJ o a (c) ac re kn (z) (by first | omega | assumption) (by first | omega | assumption)) ml_X3_43 rfl ⟨Nat.le_of_ble_eq_true rfl, Nat.le_of_ble_eq_true rfl⟩ ⟨Nat.le_of_ble_eq_true rfl, Nat.le_of_ble_eq_true rfl⟩ ⟨Nat.le_of_ble_eq_true rfl, Nat.le_of_ble_eq_true rfl⟩ hl (Nat.le_of_ble_eq_true rfl) rfl dX3_value_2
  exfalso; omega

set_option maxHeartbeats 4000000 in
set_option maxRecDepth 100000 in
theorem c_X3_divides_badc (l : Launch) (hlq : l.stackTraces = false) (D : va_G) (cJ : ClassId) (o a : Nat) (c : Nat → Nat) (ac : Int32) (re : Int32) (kn : Int32) (f : Int) (z : Int) (r9f : -2147483648 ≤ f ∧ f ≤ 2147483647) (r9z : -2147483648 ≤ z ∧ z ≤ 2147483647) (hbad : ¬ ((0 ≤ f ∧ f ≤ 5) ∧ (0 ≤ z ∧ z ≤ 5))) : zXI l yX3_divides 8 146 D cJ o a [.int (iZ (f)), .int (iZ (z))] c [.int (ac), .int (re), .int (kn)] "java/lang/IndexOutOfBoundsException" := by
  refine zXI.intro (lo := 124) (nA := 2) (own := RX3) zi_X3_divides (by decide) rfl rfl (by decide +kernel) rfl (Nat.le_of_ble_eq_true rfl) ?_
  intro p e s m below meth c0 ls C htab hk B Zs hl
  have hl : lv_has ls 3 [(0, .ref o), (1, .int (iZ (f))), (2, .int (iZ (z)))] := hl
  refine lv_aload_n C.1 C.2.1 dX3_divides_0 rfl (lv_at hl 0 rfl) ?_
  refine lv_iload_n C.1 C.2.1 dX3_divides_1 rfl (lv_at hl 1 rfl) ?_
  by_cases hq2 : 0 ≤ (f) ∧ (f) ≤ 5
  rotate_left
  · exact zx_callI C B Zs htab hk (c_X3_polyIn_bad l hlq D cJ o a (c) ac re kn (f) (by first | omega | assumption) (by first | omega | assumption)) ml_X3_43 rfl ⟨Nat.le_of_ble_eq_true rfl, Nat.le_of_ble_eq_true rfl⟩ ⟨Nat.le_of_ble_eq_true rfl, Nat.le_of_ble_eq_true rfl⟩ ⟨Nat.le_of_ble_eq_true rfl, Nat.le_of_ble_eq_true rfl⟩ hl (Nat.le_of_ble_eq_true rfl) rfl dX3_divides_2
  refine zo_callD C B (r := some (.long (lN ((c) (f).toNat)))) (c_X3_polyIn l D cJ o a (c) (ac) (re) (kn) (f) (by first | assumption | omega | rfl | exact decide_eq_false (by omega) | exact decide_eq_true (by assumption) | exact decide_eq_true (by omega) | exact one_shl33 (by omega) | exact pm_lt _ _ | exact rm_lt (by first | assumption | exact pm_lt _ _) | exact Nat.lt_of_le_of_lt (Nat.shiftRight_le _ _) (by assumption) | exact Nat.lt_of_le_of_lt Nat.and_le_right (by omega))) ml_X3_43 rfl ⟨Nat.le_of_ble_eq_true rfl, Nat.le_of_ble_eq_true rfl⟩ ⟨Nat.le_of_ble_eq_true rfl, Nat.le_of_ble_eq_true rfl⟩ hl (Nat.le_of_ble_eq_true rfl) rfl dX3_divides_2 (fun H locs B => ?_)
  have q2_0 := B.1.2.2.2 ((f)).toNat
  refine lv_aload_n C.1 C.2.1 dX3_divides_5 rfl (lv_at hl 0 rfl) ?_
  refine lv_iload_n C.1 C.2.1 dX3_divides_6 rfl (lv_at hl 2 rfl) ?_
  by_cases hq7 : 0 ≤ (z) ∧ (z) ≤ 5
  rotate_left
  · exact zx_callI C B Zs htab hk (c_X3_polyIn_bad l hlq D cJ o a (c) ac re kn (z) (by first | omega | assumption) (by first | omega | assumption)) ml_X3_43 rfl ⟨Nat.le_of_ble_eq_true rfl, Nat.le_of_ble_eq_true rfl⟩ ⟨Nat.le_of_ble_eq_true rfl, Nat.le_of_ble_eq_true rfl⟩ ⟨Nat.le_of_ble_eq_true rfl, Nat.le_of_ble_eq_true rfl⟩ hl (Nat.le_of_ble_eq_true rfl) rfl dX3_divides_7
  exfalso; omega

set_option maxHeartbeats 4000000 in
set_option maxRecDepth 100000 in
theorem c_X3_isFree_badc (l : Launch) (hlq : l.stackTraces = false) (D : va_G) (cJ : ClassId) (o a : Nat) (c : Nat → Nat) (ac : Int32) (re : Int32) (kn : Int32) (z : Int) (r9z : -2147483648 ≤ z ∧ z ≤ 2147483647) (hbad : ¬ ((0 ≤ z ∧ z ≤ 5))) : zXI l yX3_isFree 8 147 D cJ o a [.int (iZ (z))] c [.int (ac), .int (re), .int (kn)] "java/lang/IndexOutOfBoundsException" := by
  refine zXI.intro (lo := 124) (nA := 1) (own := RX3) zi_X3_isFree (by decide) rfl rfl (by decide +kernel) rfl (Nat.le_of_ble_eq_true rfl) ?_
  intro p e s m below meth c0 ls C htab hk B Zs hl
  have hl : lv_has ls 4 [(0, .ref o), (1, .int (iZ (z)))] := hl
  refine lv_aload_n C.1 C.2.1 dX3_isFree_0 rfl (lv_at hl 0 rfl) ?_
  refine lv_iload_n C.1 C.2.1 dX3_isFree_1 rfl (lv_at hl 1 rfl) ?_
  by_cases hq2 : 0 ≤ (z) ∧ (z) ≤ 5
  rotate_left
  · exact zx_callI C B Zs htab hk (c_X3_polyIn_bad l hlq D cJ o a (c) ac re kn (z) (by first | omega | assumption) (by first | omega | assumption)) ml_X3_43 rfl ⟨Nat.le_of_ble_eq_true rfl, Nat.le_of_ble_eq_true rfl⟩ ⟨Nat.le_of_ble_eq_true rfl, Nat.le_of_ble_eq_true rfl⟩ ⟨Nat.le_of_ble_eq_true rfl, Nat.le_of_ble_eq_true rfl⟩ hl (Nat.le_of_ble_eq_true rfl) rfl dX3_isFree_2
  exfalso; omega

set_option maxHeartbeats 4000000 in
set_option maxRecDepth 100000 in
theorem c_X3_irreducible_badc (l : Launch) (hlq : l.stackTraces = false) (D : va_G) (cJ : ClassId) (o a : Nat) (c : Nat → Nat) (ac : Int32) (re : Int32) (kn : Int32) (z : Int) (r9z : -2147483648 ≤ z ∧ z ≤ 2147483647) (hbad : ¬ ((0 ≤ z ∧ z ≤ 5))) : zXI l yX3_irreducible 8 147 D cJ o a [.int (iZ (z))] c [.int (ac), .int (re), .int (kn)] "java/lang/IndexOutOfBoundsException" := by
  refine zXI.intro (lo := 124) (nA := 1) (own := RX3) zi_X3_irreducible (by decide) rfl rfl (by decide +kernel) rfl (Nat.le_of_ble_eq_true rfl) ?_
  intro p e s m below meth c0 ls C htab hk B Zs hl
  have hl : lv_has ls 4 [(0, .ref o), (1, .int (iZ (z)))] := hl
  refine lv_aload_n C.1 C.2.1 dX3_irreducible_0 rfl (lv_at hl 0 rfl) ?_
  refine lv_iload_n C.1 C.2.1 dX3_irreducible_1 rfl (lv_at hl 1 rfl) ?_
  by_cases hq2 : 0 ≤ (z) ∧ (z) ≤ 5
  rotate_left
  · exact zx_callI C B Zs htab hk (c_X3_polyIn_bad l hlq D cJ o a (c) ac re kn (z) (by first | omega | assumption) (by first | omega | assumption)) ml_X3_43 rfl ⟨Nat.le_of_ble_eq_true rfl, Nat.le_of_ble_eq_true rfl⟩ ⟨Nat.le_of_ble_eq_true rfl, Nat.le_of_ble_eq_true rfl⟩ ⟨Nat.le_of_ble_eq_true rfl, Nat.le_of_ble_eq_true rfl⟩ hl (Nat.le_of_ble_eq_true rfl) rfl dX3_irreducible_2
  exfalso; omega

set_option maxHeartbeats 4000000 in
set_option maxRecDepth 100000 in
theorem c_X3_rank_badc (l : Launch) (hlq : l.stackTraces = false) (D : va_G) (cJ : ClassId) (o a : Nat) (c : Nat → Nat) (ac : Int32) (re : Int32) (kn : Int32) (z : Int) (r9z : -2147483648 ≤ z ∧ z ≤ 2147483647) (hbad : ¬ ((0 ≤ z ∧ z ≤ 5))) : zXI l yX3_rank 8 147 D cJ o a [.int (iZ (z))] c [.int (ac), .int (re), .int (kn)] "java/lang/IndexOutOfBoundsException" := by
  refine zXI.intro (lo := 124) (nA := 1) (own := RX3) zi_X3_rank (by decide) rfl rfl (by decide +kernel) rfl (Nat.le_of_ble_eq_true rfl) ?_
  intro p e s m below meth c0 ls C htab hk B Zs hl
  have hl : lv_has ls 4 [(0, .ref o), (1, .int (iZ (z)))] := hl
  refine lv_aload_n C.1 C.2.1 dX3_rank_0 rfl (lv_at hl 0 rfl) ?_
  refine lv_iload_n C.1 C.2.1 dX3_rank_1 rfl (lv_at hl 1 rfl) ?_
  by_cases hq2 : 0 ≤ (z) ∧ (z) ≤ 5
  rotate_left
  · exact zx_callI C B Zs htab hk (c_X3_polyIn_bad l hlq D cJ o a (c) ac re kn (z) (by first | omega | assumption) (by first | omega | assumption)) ml_X3_43 rfl ⟨Nat.le_of_ble_eq_true rfl, Nat.le_of_ble_eq_true rfl⟩ ⟨Nat.le_of_ble_eq_true rfl, Nat.le_of_ble_eq_true rfl⟩ ⟨Nat.le_of_ble_eq_true rfl, Nat.le_of_ble_eq_true rfl⟩ hl (Nat.le_of_ble_eq_true rfl) rfl dX3_rank_2
  exfalso; omega

set_option maxHeartbeats 4000000 in
set_option maxRecDepth 100000 in
theorem c_X3_period_badc (l : Launch) (hlq : l.stackTraces = false) (D : va_G) (cJ : ClassId) (o a : Nat) (c : Nat → Nat) (ac : Int32) (re : Int32) (kn : Int32) (z : Int) (r9z : -2147483648 ≤ z ∧ z ≤ 2147483647) (hbad : ¬ ((0 ≤ z ∧ z ≤ 5))) : zXI l yX3_period 8 147 D cJ o a [.int (iZ (z))] c [.int (ac), .int (re), .int (kn)] "java/lang/IndexOutOfBoundsException" := by
  refine zXI.intro (lo := 124) (nA := 1) (own := RX3) zi_X3_period (by decide) rfl rfl (by decide +kernel) rfl (Nat.le_of_ble_eq_true rfl) ?_
  intro p e s m below meth c0 ls C htab hk B Zs hl
  have hl : lv_has ls 4 [(0, .ref o), (1, .int (iZ (z)))] := hl
  refine lv_aload_n C.1 C.2.1 dX3_period_0 rfl (lv_at hl 0 rfl) ?_
  refine lv_iload_n C.1 C.2.1 dX3_period_1 rfl (lv_at hl 1 rfl) ?_
  by_cases hq2 : 0 ≤ (z) ∧ (z) ≤ 5
  rotate_left
  · exact zx_callI C B Zs htab hk (c_X3_polyIn_bad l hlq D cJ o a (c) ac re kn (z) (by first | omega | assumption) (by first | omega | assumption)) ml_X3_43 rfl ⟨Nat.le_of_ble_eq_true rfl, Nat.le_of_ble_eq_true rfl⟩ ⟨Nat.le_of_ble_eq_true rfl, Nat.le_of_ble_eq_true rfl⟩ ⟨Nat.le_of_ble_eq_true rfl, Nat.le_of_ble_eq_true rfl⟩ hl (Nat.le_of_ble_eq_true rfl) rfl dX3_period_2
  exfalso; omega

set_option maxHeartbeats 4000000 in
set_option maxRecDepth 100000 in
theorem c_X3_find_badc (l : Launch) (hlq : l.stackTraces = false) (D : va_G) (cJ : ClassId) (o a : Nat) (c : Nat → Nat) (ac : Int32) (re : Int32) (kn : Int32) (z : Int) (b : Bool) (r9z : -2147483648 ≤ z ∧ z ≤ 2147483647) (hbad : ¬ ((0 ≤ z ∧ z ≤ 5))) : zXI l yX3_find 8 150 D cJ o a [.int (iZ (z)), .int (iZ (zB (b)))] c [.int (ac), .int (re), .int (kn)] "java/lang/IndexOutOfBoundsException" := by
  refine zXI.intro (lo := 124) (nA := 2) (own := RX3) zi_X3_find (by decide) rfl rfl (by decide +kernel) rfl (Nat.le_of_ble_eq_true rfl) ?_
  intro p e s m below meth c0 ls C htab hk B Zs hl
  have hl : lv_has ls 7 [(0, .ref o), (1, .int (iZ (z))), (2, .int (iZ (zB (b))))] := hl
  refine lv_aload_n C.1 C.2.1 dX3_find_0 rfl (lv_at hl 0 rfl) ?_
  refine lv_iload_n C.1 C.2.1 dX3_find_1 rfl (lv_at hl 1 rfl) ?_
  by_cases hq2 : 0 ≤ (z) ∧ (z) ≤ 5
  rotate_left
  · exact zx_callI C B Zs htab hk (c_X3_polyIn_bad l hlq D cJ o a (c) ac re kn (z) (by first | omega | assumption) (by first | omega | assumption)) ml_X3_43 rfl ⟨Nat.le_of_ble_eq_true rfl, Nat.le_of_ble_eq_true rfl⟩ ⟨Nat.le_of_ble_eq_true rfl, Nat.le_of_ble_eq_true rfl⟩ ⟨Nat.le_of_ble_eq_true rfl, Nat.le_of_ble_eq_true rfl⟩ hl (Nat.le_of_ble_eq_true rfl) rfl dX3_find_2
  exfalso; omega

set_option maxHeartbeats 4000000 in
set_option maxRecDepth 100000 in
theorem c_X3_text_badc (l : Launch) (hlq : l.stackTraces = false) (D : va_G) (cJ : ClassId) (o a : Nat) (c : Nat → Nat) (ac : Int32) (re : Int32) (kn : Int32) (z : Int) (r9z : -2147483648 ≤ z ∧ z ≤ 2147483647) (hbad : ¬ ((0 ≤ z ∧ z ≤ 5))) : zXI l yX3_text 8 145 D cJ o a [.int (iZ (z))] c [.int (ac), .int (re), .int (kn)] "java/lang/IndexOutOfBoundsException" := by
  refine zXI.intro (lo := 124) (nA := 1) (own := RX3) zi_X3_text (by decide) rfl rfl (by decide +kernel) rfl (Nat.le_of_ble_eq_true rfl) ?_
  intro p e s m below meth c0 ls C htab hk B Zs hl
  have hl : lv_has ls 2 [(0, .ref o), (1, .int (iZ (z)))] := hl
  refine lv_aload_n C.1 C.2.1 dX3_text_0 rfl (lv_at hl 0 rfl) ?_
  refine lv_iload_n C.1 C.2.1 dX3_text_1 rfl (lv_at hl 1 rfl) ?_
  by_cases hq2 : 0 ≤ (z) ∧ (z) ≤ 5
  rotate_left
  · exact zx_callI C B Zs htab hk (c_X3_polyIn_bad l hlq D cJ o a (c) ac re kn (z) (by first | omega | assumption) (by first | omega | assumption)) ml_X3_43 rfl ⟨Nat.le_of_ble_eq_true rfl, Nat.le_of_ble_eq_true rfl⟩ ⟨Nat.le_of_ble_eq_true rfl, Nat.le_of_ble_eq_true rfl⟩ ⟨Nat.le_of_ble_eq_true rfl, Nat.le_of_ble_eq_true rfl⟩ hl (Nat.le_of_ble_eq_true rfl) rfl dX3_text_2
  exfalso; omega

set_option maxHeartbeats 4000000 in
set_option maxRecDepth 100000 in
theorem c_X3_code_badc (l : Launch) (hlq : l.stackTraces = false) (D : va_G) (cJ : ClassId) (o a : Nat) (c : Nat → Nat) (ac : Int32) (re : Int32) (kn : Int32) (z : Int) (r : Int) (r9z : -2147483648 ≤ z ∧ z ≤ 2147483647) (r9r : -2147483648 ≤ r ∧ r ≤ 2147483647) (hbad : ¬ ((0 ≤ z ∧ z ≤ 5))) : zXI l yX3_code 8 148 D cJ o a [.int (iZ (z)), .int (iZ (r))] c [.int (ac), .int (re), .int (kn)] "java/lang/IndexOutOfBoundsException" := by
  refine zXI.intro (lo := 124) (nA := 2) (own := RX3) zi_X3_code (by decide) rfl rfl (by decide +kernel) rfl (Nat.le_of_ble_eq_true rfl) ?_
  intro p e s m below meth c0 ls C htab hk B Zs hl
  have hl : lv_has ls 5 [(0, .ref o), (1, .int (iZ (z))), (2, .int (iZ (r)))] := hl
  refine lv_aload_n C.1 C.2.1 dX3_code_0 rfl (lv_at hl 0 rfl) ?_
  refine lv_iload_n C.1 C.2.1 dX3_code_1 rfl (lv_at hl 1 rfl) ?_
  by_cases hq2 : 0 ≤ (z) ∧ (z) ≤ 5
  rotate_left
  · exact zx_callI C B Zs htab hk (c_X3_polyIn_bad l hlq D cJ o a (c) ac re kn (z) (by first | omega | assumption) (by first | omega | assumption)) ml_X3_43 rfl ⟨Nat.le_of_ble_eq_true rfl, Nat.le_of_ble_eq_true rfl⟩ ⟨Nat.le_of_ble_eq_true rfl, Nat.le_of_ble_eq_true rfl⟩ ⟨Nat.le_of_ble_eq_true rfl, Nat.le_of_ble_eq_true rfl⟩ hl (Nat.le_of_ble_eq_true rfl) rfl dX3_code_2
  exfalso; omega

set_option maxHeartbeats 4000000 in
set_option maxRecDepth 100000 in
theorem c_X3_code_badr (l : Launch) (hlq : l.stackTraces = false) (D : va_G) (cJ : ClassId) (o a : Nat) (c : Nat → Nat) (ac : Int32) (re : Int32) (kn : Int32) (z : Int) (r : Int) (r9z : -2147483648 ≤ z ∧ z ≤ 2147483647) (r9r : -2147483648 ≤ r ∧ r ≤ 2147483647) (hz : 0 ≤ z ∧ z ≤ 5) (hbad : ¬ ((2 ≤ r ∧ r ≤ 36))) : zXI l yX3_code 7 128 D cJ o a [.int (iZ (z)), .int (iZ (r))] c [.int (ac), .int (re), .int (kn)] "java/lang/IllegalArgumentException" := by
  refine zXI.intro (lo := 104) (nA := 2) (own := RX3) zi_X3_code (by decide) rfl rfl (by decide +kernel) rfl (Nat.le_of_ble_eq_true rfl) ?_
  intro p e s m below meth c0 ls C htab hk B Zs hl
  have hl : lv_has ls 5 [(0, .ref o), (1, .int (iZ (z))), (2, .int (iZ (r)))] := hl
  refine lv_aload_n C.1 C.2.1 dX3_code_0 rfl (lv_at hl 0 rfl) ?_
  refine lv_iload_n C.1 C.2.1 dX3_code_1 rfl (lv_at hl 1 rfl) ?_
  refine zo_callD C B (r := some (.long (lN ((c) (z).toNat)))) (c_X3_polyIn l D cJ o a (c) (ac) (re) (kn) (z) (by first | assumption | omega | rfl | exact decide_eq_false (by omega) | exact decide_eq_true (by assumption) | exact decide_eq_true (by omega) | exact one_shl33 (by omega) | exact pm_lt _ _ | exact rm_lt (by first | assumption | exact pm_lt _ _) | exact Nat.lt_of_le_of_lt (Nat.shiftRight_le _ _) (by assumption) | exact Nat.lt_of_le_of_lt Nat.and_le_right (by omega))) ml_X3_43 rfl ⟨Nat.le_of_ble_eq_true rfl, Nat.le_of_ble_eq_true rfl⟩ ⟨Nat.le_of_ble_eq_true rfl, Nat.le_of_ble_eq_true rfl⟩ hl (Nat.le_of_ble_eq_true rfl) rfl dX3_code_2 (fun H locs B => ?_)
  have q2_0 := B.1.2.2.2 ((z)).toNat
  refine lv_lstore_n (lv' := [(3, .long (lN ((c) (z).toNat))), (0, .ref o), (1, .int (iZ (z))), (2, .int (iZ (r)))]) C.1 C.2.1 dX3_code_5 rfl hl (by decide) rfl (fun ls hl => ?_)
  refine lv_iload_n C.1 C.2.1 dX3_code_6 rfl (lv_at hl 3 rfl) ?_
  refine z_iconst C dX3_code_7 ?_
  refine z_bipush C dX3_code_8 (by decide) ?_
  by_cases hq10 : (2 : Int) ≤ (r) ∧ (r) ≤ (36 : Int)
  rotate_left
  · exact zx_callS C B Zs htab hk (c_X3_checkRange_bad l hlq (r) (2 : Int) (36 : Int) (by first | omega | assumption) (by first | omega | assumption) (by first | omega | assumption) (by first | omega | assumption)) ml_X3_33 ⟨Nat.le_of_ble_eq_true rfl, Nat.le_of_ble_eq_true rfl⟩ ⟨Nat.le_of_ble_eq_true rfl, Nat.le_of_ble_eq_true rfl⟩ ⟨Nat.le_of_ble_eq_true rfl, Nat.le_of_ble_eq_true rfl⟩ hl (Nat.le_of_ble_eq_true rfl) rfl dX3_code_10
  exfalso; omega

set_option maxHeartbeats 4000000 in
set_option maxRecDepth 100000 in
theorem c_X3_factors_badc (l : Launch) (hlq : l.stackTraces = false) (D : va_G) (cJ : ClassId) (o a : Nat) (c : Nat → Nat) (ac : Int32) (re : Int32) (kn : Int32) (z : Int) (r9z : -2147483648 ≤ z ∧ z ≤ 2147483647) (hbad : ¬ ((0 ≤ z ∧ z ≤ 5))) : zXI l yX3_factors 8 147 D cJ o a [.int (iZ (z))] c [.int (ac), .int (re), .int (kn)] "java/lang/IndexOutOfBoundsException" := by
  refine zXI.intro (lo := 124) (nA := 1) (own := RX3) zi_X3_factors (by decide) rfl rfl (by decide +kernel) rfl (Nat.le_of_ble_eq_true rfl) ?_
  intro p e s m below meth c0 ls C htab hk B Zs hl
  have hl : lv_has ls 4 [(0, .ref o), (1, .int (iZ (z)))] := hl
  refine lv_aload_n C.1 C.2.1 dX3_factors_0 rfl (lv_at hl 0 rfl) ?_
  refine lv_iload_n C.1 C.2.1 dX3_factors_1 rfl (lv_at hl 1 rfl) ?_
  by_cases hq2 : 0 ≤ (z) ∧ (z) ≤ 5
  rotate_left
  · exact zx_callI C B Zs htab hk (c_X3_polyIn_bad l hlq D cJ o a (c) ac re kn (z) (by first | omega | assumption) (by first | omega | assumption)) ml_X3_43 rfl ⟨Nat.le_of_ble_eq_true rfl, Nat.le_of_ble_eq_true rfl⟩ ⟨Nat.le_of_ble_eq_true rfl, Nat.le_of_ble_eq_true rfl⟩ ⟨Nat.le_of_ble_eq_true rfl, Nat.le_of_ble_eq_true rfl⟩ hl (Nat.le_of_ble_eq_true rfl) rfl dX3_factors_2
  exfalso; omega

set_option maxHeartbeats 4000000 in
set_option maxRecDepth 100000 in
theorem c_X3_many_badr (l : Launch) (hlq : l.stackTraces = false) (D : va_G) (cJ : ClassId) (o a : Nat) (c : Nat → Nat) (ac : Int32) (re : Int32) (kn : Int32) (z : Int) (r9z : -2147483648 ≤ z ∧ z ≤ 2147483647) (hbad : ¬ (1 ≤ z ∧ z ≤ 8)) : zXI l yX3_many 7 125 D cJ o a [.int (iZ (z))] c [.int (ac), .int (re), .int (kn)] "java/lang/IllegalArgumentException" := by
  refine zXI.intro (lo := 104) (nA := 1) (own := RX3) zi_X3_many (by decide) rfl rfl (by decide +kernel) rfl (Nat.le_of_ble_eq_true rfl) ?_
  intro p e s m below meth c0 ls C htab hk B Zs hl
  have hl : lv_has ls 2 [(0, .ref o), (1, .int (iZ (z)))] := hl
  refine lv_iload_n C.1 C.2.1 dX3_many_0 rfl (lv_at hl 1 rfl) ?_
  refine z_iconst C dX3_many_1 ?_
  refine z_bipush C dX3_many_2 (by decide) ?_
  by_cases hq4 : (1 : Int) ≤ (z) ∧ (z) ≤ (8 : Int)
  rotate_left
  · exact zx_callS C B Zs htab hk (c_X3_checkRange_bad l hlq (z) (1 : Int) (8 : Int) (by first | omega | assumption) (by first | omega | assumption) (by first | omega | assumption) (by first | omega | assumption)) ml_X3_33 ⟨Nat.le_of_ble_eq_true rfl, Nat.le_of_ble_eq_true rfl⟩ ⟨Nat.le_of_ble_eq_true rfl, Nat.le_of_ble_eq_true rfl⟩ ⟨Nat.le_of_ble_eq_true rfl, Nat.le_of_ble_eq_true rfl⟩ hl (Nat.le_of_ble_eq_true rfl) rfl dX3_many_4
  exfalso; omega

set_option maxHeartbeats 4000000 in
set_option maxRecDepth 100000 in
theorem c_X3_house_badr (l : Launch) (hlq : l.stackTraces = false) (D : va_G) (cJ : ClassId) (o a : Nat) (c : Nat → Nat) (ac : Int32) (re : Int32) (kn : Int32) (z : Int) (r9z : -2147483648 ≤ z ∧ z ≤ 2147483647) (hbad : ¬ (0 ≤ z ∧ z ≤ 4)) : zXI l yX3_house 7 125 D cJ o a [.int (iZ (z))] c [.int (ac), .int (re), .int (kn)] "java/lang/IllegalArgumentException" := by
  refine zXI.intro (lo := 104) (nA := 1) (own := RX3) zi_X3_house (by decide) rfl rfl (by decide +kernel) rfl (Nat.le_of_ble_eq_true rfl) ?_
  intro p e s m below meth c0 ls C htab hk B Zs hl
  have hl : lv_has ls 2 [(0, .ref o), (1, .int (iZ (z)))] := hl
  refine lv_iload_n C.1 C.2.1 dX3_house_0 rfl (lv_at hl 1 rfl) ?_
  refine z_iconst C dX3_house_1 ?_
  refine z_iconst C dX3_house_2 ?_
  by_cases hq3 : (0 : Int) ≤ (z) ∧ (z) ≤ (4 : Int)
  rotate_left
  · exact zx_callS C B Zs htab hk (c_X3_checkRange_bad l hlq (z) (0 : Int) (4 : Int) (by first | omega | assumption) (by first | omega | assumption) (by first | omega | assumption) (by first | omega | assumption)) ml_X3_33 ⟨Nat.le_of_ble_eq_true rfl, Nat.le_of_ble_eq_true rfl⟩ ⟨Nat.le_of_ble_eq_true rfl, Nat.le_of_ble_eq_true rfl⟩ ⟨Nat.le_of_ble_eq_true rfl, Nat.le_of_ble_eq_true rfl⟩ hl (Nat.le_of_ble_eq_true rfl) rfl dX3_house_3
  exfalso; omega

set_option maxHeartbeats 4000000 in
set_option maxRecDepth 100000 in
theorem c_X3_formula_badr (l : Launch) (hlq : l.stackTraces = false) (D : va_G) (cJ : ClassId) (o a : Nat) (c : Nat → Nat) (ac : Int32) (re : Int32) (kn : Int32) (z : Int) (r9z : -2147483648 ≤ z ∧ z ≤ 2147483647) (hbad : ¬ (1 ≤ z ∧ z ≤ 8)) : zXI l yX3_formula 7 125 D cJ o a [.int (iZ (z))] c [.int (ac), .int (re), .int (kn)] "java/lang/IllegalArgumentException" := by
  refine zXI.intro (lo := 104) (nA := 1) (own := RX3) zi_X3_formula (by decide) rfl rfl (by decide +kernel) rfl (Nat.le_of_ble_eq_true rfl) ?_
  intro p e s m below meth c0 ls C htab hk B Zs hl
  have hl : lv_has ls 2 [(0, .ref o), (1, .int (iZ (z)))] := hl
  refine lv_iload_n C.1 C.2.1 dX3_formula_0 rfl (lv_at hl 1 rfl) ?_
  refine z_iconst C dX3_formula_1 ?_
  refine z_bipush C dX3_formula_2 (by decide) ?_
  by_cases hq4 : (1 : Int) ≤ (z) ∧ (z) ≤ (8 : Int)
  rotate_left
  · exact zx_callS C B Zs htab hk (c_X3_checkRange_bad l hlq (z) (1 : Int) (8 : Int) (by first | omega | assumption) (by first | omega | assumption) (by first | omega | assumption) (by first | omega | assumption)) ml_X3_33 ⟨Nat.le_of_ble_eq_true rfl, Nat.le_of_ble_eq_true rfl⟩ ⟨Nat.le_of_ble_eq_true rfl, Nat.le_of_ble_eq_true rfl⟩ ⟨Nat.le_of_ble_eq_true rfl, Nat.le_of_ble_eq_true rfl⟩ hl (Nat.le_of_ble_eq_true rfl) rfl dX3_formula_4
  exfalso; omega
