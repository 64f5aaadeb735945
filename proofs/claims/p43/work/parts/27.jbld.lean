section JC
set_option maxHeartbeats 4000000 in
set_option maxRecDepth 100000 in
theorem c_J5_isLatin1_aae02 (l : Launch) (D : va_G) (cB : ClassId)  (n k : Nat) : zBM l yJ5_isLatin1_aae02 0 20 0 0 D cB [] n k (fun _ _ => some (.int (iZ (1)))) (n) (fun v v2 k2 => v = v2 ∧ k = k2) := by
  refine zBM.intro (lo := 0) (nA := 0) (own := RJ5) ⟨im_J5_isLatin1_aae02, ini_J5, cd_J5_isLatin1_aae02⟩ (by decide) rfl rfl (by decide +kernel) rfl (fun _ => Nat.le_of_ble_eq_true rfl) ?_
  intro b v0 p e s m below meth c0 ls C hr hk B V hl
  have hl : lv_has ls 1 [(0, .ref b)] := hl
  refine zv_cs C V B.2.1 fl_J5_18 dJ5_isLatin1_aae02_0 ?_
  refine z_if_eq (tgt := 17) C (by omega) dJ5_isLatin1_aae02_3 (by decide) (fun h3 => ?_) (fun h3 => ?_)
  · exfalso; omega
  · refine lv_aload_n C.1 C.2.1 dJ5_isLatin1_aae02_6 rfl (lv_at hl 0 rfl) ?_
    refine zj_getC C B.1 fl_J5_22 dJ5_isLatin1_aae02_7 ?_
    refine z_if_ne (tgt := 17) C (by omega) dJ5_isLatin1_aae02_10 (by decide) (fun h10 => ?_) (fun h10 => ?_)
    · exfalso; omega
    · refine z_iconst C dJ5_isLatin1_aae02_13 ?_
      refine lv_goto (tgt := 18) C.1 C.2.1 dJ5_isLatin1_aae02_14 (by decide) ?_
      exact zj_zret C B hr hk (Nat.le_of_ble_eq_true rfl) (Nat.le_of_ble_eq_true rfl) dJ5_isLatin1_aae02_18 (by decide) (by rfl) (by rfl) (by exact ⟨rfl, rfl⟩)

set_option maxHeartbeats 4000000 in
set_option maxRecDepth 100000 in
theorem c_J5_length_8abf5 (l : Launch) (D : va_G) (cB : ClassId)  (n k : Nat) : zBM l yJ5_length_8abf5 0 20 0 0 D cB [] n k (fun _ _ => some (.int (iZ (((n : Nat) : Int))))) (n) (fun v v2 k2 => v = v2 ∧ k = k2) := by
  refine zBM.intro (lo := 0) (nA := 0) (own := RJ5) ⟨im_J5_length_8abf5, ini_J5, cd_J5_length_8abf5⟩ (by decide) rfl rfl (by decide +kernel) rfl (fun _ => Nat.le_of_ble_eq_true rfl) ?_
  intro b v0 p e s m below meth c0 ls C hr hk B V hl
  have hl : lv_has ls 1 [(0, .ref b)] := hl
  refine lv_aload_n C.1 C.2.1 dJ5_length_8abf5_0 rfl (lv_at hl 0 rfl) ?_
  refine zj_getN C B.1 fl_J5_79 dJ5_length_8abf5_1 ?_
  exact zj_iret C B hr hk (Nat.le_of_ble_eq_true rfl) (Nat.le_of_ble_eq_true rfl) dJ5_length_8abf5_4 (by rfl) (by rfl) (by exact ⟨rfl, rfl⟩)

set_option maxHeartbeats 4000000 in
set_option maxRecDepth 100000 in
theorem c_J5_getValue_6d5f1 (l : Launch) (D : va_G) (cB : ClassId)  (n k : Nat) : zBM l yJ5_getValue_6d5f1 0 20 0 0 D cB [] n k (fun _ v => some (.ref v)) (n) (fun v v2 k2 => v = v2 ∧ k = k2) := by
  refine zBM.intro (lo := 0) (nA := 0) (own := RJ5) ⟨im_J5_getValue_6d5f1, ini_J5, cd_J5_getValue_6d5f1⟩ (by decide) rfl rfl (by decide +kernel) rfl (fun _ => Nat.le_of_ble_eq_true rfl) ?_
  intro b v0 p e s m below meth c0 ls C hr hk B V hl
  have hl : lv_has ls 1 [(0, .ref b)] := hl
  refine lv_aload_n C.1 C.2.1 dJ5_getValue_6d5f1_0 rfl (lv_at hl 0 rfl) ?_
  refine zj_getV C B.1 fl_J5_15 dJ5_getValue_6d5f1_1 ?_
  exact zj_aret C B hr (by first | exact Or.inl ⟨_, rfl⟩ | exact Or.inr ⟨_, rfl⟩) hk (Nat.le_of_ble_eq_true rfl) (Nat.le_of_ble_eq_true rfl) dJ5_getValue_6d5f1_4 (by rfl) (by rfl) (by exact ⟨rfl, rfl⟩)

set_option maxHeartbeats 4000000 in
set_option maxRecDepth 100000 in
theorem c_J5_newCapacity_0f7a4 (l : Launch) (D : va_G) (cB : ClassId) (q : Int) (n k : Nat) (hq : (k : Int) < q ∧ q ≤ 255) (hk9 : k ≤ 520) : zBM l yJ5_newCapacity_0f7a4 2 79 0 0 D cB [.int (iZ (q))] n k (fun _ _ => some (.int (iZ (((ncp q k : Nat) : Int))))) (n) (fun v v2 k2 => v = v2 ∧ k = k2) := by
  refine zBM.intro (lo := 54) (nA := 1) (own := RJ5) ⟨im_J5_newCapacity_0f7a4, ini_J5, cd_J5_newCapacity_0f7a4⟩ (by decide) rfl rfl (by decide +kernel) rfl (fun _ => Nat.le_of_ble_eq_true rfl) ?_
  intro b v0 p e s m below meth c0 ls C hr hk B V hl
  have hl : lv_has ls 6 [(0, .ref b), (1, .int (iZ (q)))] := hl
  refine lv_aload_n C.1 C.2.1 dJ5_newCapacity_0f7a4_0 rfl (lv_at hl 0 rfl) ?_
  refine zj_getV C B.1 fl_J5_15 dJ5_newCapacity_0f7a4_1 ?_
  refine zr_alen C B.1.1 dJ5_newCapacity_0f7a4_4 ?_
  refine lv_istore_n (lv' := [(2, .int (iZ (((k : Nat) : Int)))), (0, .ref b), (1, .int (iZ (q)))]) C.1 C.2.1 dJ5_newCapacity_0f7a4_5 rfl hl (by decide) rfl (fun ls hl => ?_)
  refine lv_iload_n C.1 C.2.1 dJ5_newCapacity_0f7a4_6 rfl (lv_at hl 2 rfl) ?_
  refine lv_aload_n C.1 C.2.1 dJ5_newCapacity_0f7a4_7 rfl (lv_at hl 1 rfl) ?_
  refine zj_getC C B.1 fl_J5_22 dJ5_newCapacity_0f7a4_8 ?_
  refine z_ishl0 C dJ5_newCapacity_0f7a4_11 ?_
  refine lv_istore_n (lv' := [(3, .int (iZ (q))), (2, .int (iZ (((k : Nat) : Int)))), (0, .ref b), (1, .int (iZ (q)))]) C.1 C.2.1 dJ5_newCapacity_0f7a4_12 rfl hl (by decide) rfl (fun ls hl => ?_)
  refine lv_iload_n C.1 C.2.1 dJ5_newCapacity_0f7a4_13 rfl (lv_at hl 0 rfl) ?_
  refine lv_iload_n C.1 C.2.1 dJ5_newCapacity_0f7a4_14 rfl (lv_at hl 1 rfl) ?_
  refine z_isub C dJ5_newCapacity_0f7a4_15 ?_
  refine lv_istore (lv' := [(4, .int (iZ ((q) - (((k : Nat) : Int))))), (3, .int (iZ (q))), (2, .int (iZ (((k : Nat) : Int)))), (0, .ref b), (1, .int (iZ (q)))]) C.1 C.2.1 dJ5_newCapacity_0f7a4_16 hl (by decide) rfl (fun ls hl => ?_)
  refine lv_iload_n C.1 C.2.1 dJ5_newCapacity_0f7a4_18 rfl (lv_at hl 2 rfl) ?_
  refine lv_iload C.1 C.2.1 dJ5_newCapacity_0f7a4_19 (lv_at hl 0 rfl) ?_
  refine lv_iload_n C.1 C.2.1 dJ5_newCapacity_0f7a4_21 rfl (lv_at hl 2 rfl) ?_
  refine z_iconst C dJ5_newCapacity_0f7a4_22 ?_
  refine lv_aload_n C.1 C.2.1 dJ5_newCapacity_0f7a4_23 rfl (lv_at hl 3 rfl) ?_
  refine zj_getC C B.1 fl_J5_22 dJ5_newCapacity_0f7a4_24 ?_
  refine z_ishl0 C dJ5_newCapacity_0f7a4_27 ?_
  refine z_iadd C dJ5_newCapacity_0f7a4_28 ?_
  refine z_call C (c_J8_newLength_cabcc l (((k : Nat) : Int)) ((q) - (((k : Nat) : Int))) ((((k : Nat) : Int)) + (2)) (by first | assumption | omega | rfl | exact decide_eq_false (by omega) | exact decide_eq_true (by assumption) | exact decide_eq_true (by omega) | exact one_shl33 (by omega) | exact pm_lt _ _ | exact rm_lt (by first | assumption | exact pm_lt _ _) | exact Nat.lt_of_le_of_lt (Nat.shiftRight_le _ _) (by assumption) | exact Nat.lt_of_le_of_lt Nat.and_le_right (by omega)) (by first | assumption | omega | rfl | exact decide_eq_false (by omega) | exact decide_eq_true (by assumption) | exact decide_eq_true (by omega) | exact one_shl33 (by omega) | exact pm_lt _ _ | exact rm_lt (by first | assumption | exact pm_lt _ _) | exact Nat.lt_of_le_of_lt (Nat.shiftRight_le _ _) (by assumption) | exact Nat.lt_of_le_of_lt Nat.and_le_right (by omega)) (by first | assumption | omega | rfl | exact decide_eq_false (by omega) | exact decide_eq_true (by assumption) | exact decide_eq_true (by omega) | exact one_shl33 (by omega) | exact pm_lt _ _ | exact rm_lt (by first | assumption | exact pm_lt _ _) | exact Nat.lt_of_le_of_lt (Nat.shiftRight_le _ _) (by assumption) | exact Nat.lt_of_le_of_lt Nat.and_le_right (by omega))) ml_J5_114 ⟨by decide, by decide⟩ ⟨Nat.le_of_ble_eq_true rfl, Nat.le_of_ble_eq_true rfl⟩ hl (Nat.le_of_ble_eq_true rfl) rfl dJ5_newCapacity_0f7a4_29 ?_
  have q29_0 := mxi_rng ((q) - (((k : Nat) : Int))) ((((k : Nat) : Int)) + (2))
  refine lv_istore (lv' := [(5, .int (iZ ((((k : Nat) : Int)) + mxi ((q) - (((k : Nat) : Int))) ((((k : Nat) : Int)) + (2))))), (4, .int (iZ ((q) - (((k : Nat) : Int))))), (3, .int (iZ (q))), (2, .int (iZ (((k : Nat) : Int)))), (0, .ref b), (1, .int (iZ (q)))]) C.1 C.2.1 dJ5_newCapacity_0f7a4_32 hl (by decide) rfl (fun ls hl => ?_)
  refine lv_iload C.1 C.2.1 dJ5_newCapacity_0f7a4_34 (lv_at hl 0 rfl) ?_
  refine z_ldc C (2147483647) ki_J5_39 rfl dJ5_newCapacity_0f7a4_36 ?_
  refine z_icmp_ne (tgt := 51) C (by omega) (by omega) dJ5_newCapacity_0f7a4_38 (by decide) (fun h38 => ?_) (fun h38 => ?_)
  · refine lv_iload C.1 C.2.1 dJ5_newCapacity_0f7a4_51 (lv_at hl 0 rfl) ?_
    refine lv_aload_n C.1 C.2.1 dJ5_newCapacity_0f7a4_53 rfl (lv_at hl 4 rfl) ?_
    refine zj_getC C B.1 fl_J5_22 dJ5_newCapacity_0f7a4_54 ?_
    refine z_ishr0 C dJ5_newCapacity_0f7a4_57 ?_
    exact zj_iret C B hr hk (Nat.le_of_ble_eq_true rfl) (Nat.le_of_ble_eq_true rfl) dJ5_newCapacity_0f7a4_58 (by exact congrArg (fun z : Int => some (Value.int (iZ z))) (by rw [ncp]; omega)) (by rfl) (by exact ⟨rfl, rfl⟩)
  · exfalso; omega

set_option maxHeartbeats 4000000 in
set_option maxRecDepth 100000 in
theorem c_J5_ensureCapacityInternal_d00df (l : Launch) (D : va_G) (cB : ClassId) (q : Int) (n k : Nat) (hq : 0 ≤ q ∧ q ≤ 255) (hk9 : k ≤ 520) : zBM l yJ5_ensureCapacityInternal_d00df 3 101 1 520 D cB [.int (iZ (q))] n k (fun _ _ => none) (n) (fun v v2 k2 => q ≤ (k2 : Int) ∧ (k2 = k ∨ (k2 : Int) ≤ 2 * q)) := by
  refine zBM.intro (lo := 79) (nA := 1) (own := RJ5) ⟨im_J5_ensureCapacityInternal_d00df, ini_J5, cd_J5_ensureCapacityInternal_d00df⟩ (by decide) rfl rfl (by decide +kernel) rfl (fun _ => Nat.le_of_ble_eq_true rfl) ?_
  intro b v0 p e s m below meth c0 ls C hr hk B V hl
  have hl : lv_has ls 3 [(0, .ref b), (1, .int (iZ (q)))] := hl
  refine lv_aload_n C.1 C.2.1 dJ5_ensureCapacityInternal_d00df_0 rfl (lv_at hl 0 rfl) ?_
  refine zj_getV C B.1 fl_J5_15 dJ5_ensureCapacityInternal_d00df_1 ?_
  refine zr_alen C B.1.1 dJ5_ensureCapacityInternal_d00df_4 ?_
  refine lv_aload_n C.1 C.2.1 dJ5_ensureCapacityInternal_d00df_5 rfl (lv_at hl 0 rfl) ?_
  refine zj_getC C B.1 fl_J5_22 dJ5_ensureCapacityInternal_d00df_6 ?_
  refine z_ishr0 C dJ5_ensureCapacityInternal_d00df_9 ?_
  refine lv_istore_n (lv' := [(2, .int (iZ (((k : Nat) : Int)))), (0, .ref b), (1, .int (iZ (q)))]) C.1 C.2.1 dJ5_ensureCapacityInternal_d00df_10 rfl hl (by decide) rfl (fun ls hl => ?_)
  refine lv_iload_n C.1 C.2.1 dJ5_ensureCapacityInternal_d00df_11 rfl (lv_at hl 2 rfl) ?_
  refine lv_iload_n C.1 C.2.1 dJ5_ensureCapacityInternal_d00df_12 rfl (lv_at hl 0 rfl) ?_
  refine z_isub C dJ5_ensureCapacityInternal_d00df_13 ?_
  refine z_if_le (tgt := 38) C (by omega) dJ5_ensureCapacityInternal_d00df_14 (by decide) (fun h14 => ?_) (fun h14 => ?_)
  · exact zj_vret C B hr hk (Nat.le_of_ble_eq_true rfl) (Nat.le_of_ble_eq_true rfl) dJ5_ensureCapacityInternal_d00df_38 (by rfl) (by rfl) (by show _ ≤ _ ∧ (_ ∨ _); omega)
  · refine lv_aload_n C.1 C.2.1 dJ5_ensureCapacityInternal_d00df_17 rfl (lv_at hl 1 rfl) ?_
    refine lv_aload_n C.1 C.2.1 dJ5_ensureCapacityInternal_d00df_18 rfl (lv_at hl 1 rfl) ?_
    refine zj_getV C B.1 fl_J5_15 dJ5_ensureCapacityInternal_d00df_19 ?_
    refine lv_aload_n C.1 C.2.1 dJ5_ensureCapacityInternal_d00df_22 rfl (lv_at hl 1 rfl) ?_
    refine lv_iload_n C.1 C.2.1 dJ5_ensureCapacityInternal_d00df_23 rfl (lv_at hl 2 rfl) ?_
    refine zj_callV C B V (c_J5_newCapacity_0f7a4 l D cB (q) (n) (k) (by first | assumption | omega | rfl | exact decide_eq_false (by omega) | exact decide_eq_true (by assumption) | exact decide_eq_true (by omega) | exact one_shl33 (by omega) | exact pm_lt _ _ | exact rm_lt (by first | assumption | exact pm_lt _ _) | exact Nat.lt_of_le_of_lt (Nat.shiftRight_le _ _) (by assumption) | exact Nat.lt_of_le_of_lt Nat.and_le_right (by omega)) (by first | assumption | omega | rfl | exact decide_eq_false (by omega) | exact decide_eq_true (by assumption) | exact decide_eq_true (by omega) | exact one_shl33 (by omega) | exact pm_lt _ _ | exact rm_lt (by first | assumption | exact pm_lt _ _) | exact Nat.lt_of_le_of_lt (Nat.shiftRight_le _ _) (by assumption) | exact Nat.lt_of_le_of_lt Nat.and_le_right (by omega))) ml_J5_104 (V.t.s2) ⟨Nat.le_of_ble_eq_true rfl, Nat.le_of_ble_eq_true rfl⟩ ⟨Nat.le_of_ble_eq_true rfl, Nat.le_of_ble_eq_true rfl⟩ hl (Nat.le_of_ble_eq_true rfl) rfl dJ5_ensureCapacityInternal_d00df_24 (fun v24 k24 H locs hp24 B => ?_)
    obtain ⟨rfl, rfl⟩ := hp24
    have q24_0 := ncpE (q) (k) (by omega)
    refine lv_aload_n C.1 C.2.1 dJ5_ensureCapacityInternal_d00df_27 rfl (lv_at hl 1 rfl) ?_
    refine zj_getC C B.1 fl_J5_22 dJ5_ensureCapacityInternal_d00df_28 ?_
    refine z_ishl0 C dJ5_ensureCapacityInternal_d00df_31 ?_
    refine zr_callN C B.1.1 V.2.2.2.2.2.2 B.2.1 (fun q h => Or.inr (Or.inr (Nat.le_trans B.2.1.1 h))) (c_J7_copyOf_9075b l D cB (k) (ncp (q) (k)) (by omega) (by omega) (by trivial)) ml_J5_108 ⟨Nat.le_of_ble_eq_true rfl, Nat.le_of_ble_eq_true rfl⟩ ⟨Nat.le_of_ble_eq_true rfl, Nat.le_of_ble_eq_true rfl⟩ hl (Nat.le_of_ble_eq_true rfl) rfl dJ5_ensureCapacityInternal_d00df_32 (fun w H1 locs1 hwn hw S1 hq hz => ?_)
    have hwn2 : s.heap.size ≤ w := Nat.le_trans B.2.1.1 hwn
    have hbw : b ≠ w := by have := B.1.lt.1; omega
    have B : zJn D cB b v0 v0 ((n)) k s H1 locs1 := ⟨B.1.kept (hq _ B.1.lt.1) (hq _ B.1.lt.2), S1, B.2.2⟩
    refine zj_putV C B.1 B.2.1 (Or.inl rfl) hw hbw fl_J5_15 dJ5_ensureCapacityInternal_d00df_35 (fun H locs B1 S1 => ?_)
    have B : zJn D cB b v0 w ((n)) (ncp (q) (k)) s H locs := ⟨B1, S1, (Or.inr hwn2)⟩
    exact zj_vret C B hr hk (Nat.le_of_ble_eq_true rfl) (Nat.le_of_ble_eq_true rfl) dJ5_ensureCapacityInternal_d00df_38 (by rfl) (by rfl) (by show _ ≤ _ ∧ (_ ∨ _); omega)

set_option maxHeartbeats 4000000 in
set_option maxRecDepth 100000 in
theorem c_J5_append_3fe6f (l : Launch) (D : va_G) (cB : ClassId) (z : Int) (n k : Nat) (hz : 0 ≤ z ∧ z ≤ 255) (hn : n ≤ 250) (hk9 : n ≤ k ∧ k ≤ 2 * n + 16) : zBM l yJ5_append_3fe6f 4 122 1 520 D cB [.int (iZ (z))] n k (fun b _ => some (.ref b)) (n + 1) (fun v v2 k2 => n + 1 ≤ k2 ∧ k2 ≤ 2 * (n + 1) + 16) := by
  refine zBM.intro (lo := 101) (nA := 1) (own := RJ5) ⟨im_J5_append_3fe6f, ini_J5, cd_J5_append_3fe6f⟩ (by decide) rfl rfl (by decide +kernel) rfl (fun _ => Nat.le_of_ble_eq_true rfl) ?_
  intro b v0 p e s m below meth c0 ls C hr hk B V hl
  have hl : lv_has ls 2 [(0, .ref b), (1, .int (iZ (z)))] := hl
  refine lv_aload_n C.1 C.2.1 dJ5_append_3fe6f_0 rfl (lv_at hl 0 rfl) ?_
  refine lv_aload_n C.1 C.2.1 dJ5_append_3fe6f_1 rfl (lv_at hl 0 rfl) ?_
  refine zj_getN C B.1 fl_J5_79 dJ5_append_3fe6f_2 ?_
  refine z_iconst C dJ5_append_3fe6f_5 ?_
  refine z_iadd C dJ5_append_3fe6f_6 ?_
  refine zj_callV C B V (c_J5_ensureCapacityInternal_d00df l D cB ((((n : Nat) : Int)) + (1)) (n) (k) (by first | assumption | omega | rfl | exact decide_eq_false (by omega) | exact decide_eq_true (by assumption) | exact decide_eq_true (by omega) | exact one_shl33 (by omega) | exact pm_lt _ _ | exact rm_lt (by first | assumption | exact pm_lt _ _) | exact Nat.lt_of_le_of_lt (Nat.shiftRight_le _ _) (by assumption) | exact Nat.lt_of_le_of_lt Nat.and_le_right (by omega)) (by first | assumption | omega | rfl | exact decide_eq_false (by omega) | exact decide_eq_true (by assumption) | exact decide_eq_true (by omega) | exact one_shl33 (by omega) | exact pm_lt _ _ | exact rm_lt (by first | assumption | exact pm_lt _ _) | exact Nat.lt_of_le_of_lt (Nat.shiftRight_le _ _) (by assumption) | exact Nat.lt_of_le_of_lt Nat.and_le_right (by omega))) ml_J5_100 (V.t.s1) ⟨Nat.le_of_ble_eq_true rfl, Nat.le_of_ble_eq_true rfl⟩ ⟨Nat.le_of_ble_eq_true rfl, Nat.le_of_ble_eq_true rfl⟩ hl (Nat.le_of_ble_eq_true rfl) rfl dJ5_append_3fe6f_7 (fun v7 k7 H locs hp7 B => ?_)
  have hp7 : ((((n : Nat) : Int)) + (1)) ≤ ((k7) : Int) ∧ ((k7) = (k) ∨ ((k7) : Int) ≤ 2 * ((((n : Nat) : Int)) + (1))) := hp7
  refine lv_aload_n C.1 C.2.1 dJ5_append_3fe6f_10 rfl (lv_at hl 0 rfl) ?_
  refine zj_callV C B V (c_J5_isLatin1_aae02 l D cB  ((n)) (k7) ) ml_J5_83 (C.2.2.2.2 _ (T0_of sl_J4_J5_isLatin1_aae02 rfl)) ⟨Nat.le_of_ble_eq_true rfl, Nat.le_of_ble_eq_true rfl⟩ ⟨Nat.le_of_ble_eq_true rfl, Nat.le_of_ble_eq_true rfl⟩ hl (Nat.le_of_ble_eq_true rfl) rfl dJ5_append_3fe6f_11 (fun v11 k11 H locs hp11 B => ?_)
  obtain ⟨rfl, rfl⟩ := hp11
  refine z_if_eq (tgt := 45) C (by omega) dJ5_append_3fe6f_14 (by decide) (fun h14 => ?_) (fun h14 => ?_)
  · exfalso; omega
  · refine lv_iload_n C.1 C.2.1 dJ5_append_3fe6f_17 rfl (lv_at hl 1 rfl) ?_
    refine z_call C (c_J1_canEncode_fc78d l (z) (by first | assumption | omega | rfl | exact decide_eq_false (by omega) | exact decide_eq_true (by assumption) | exact decide_eq_true (by omega) | exact one_shl33 (by omega) | exact pm_lt _ _ | exact rm_lt (by first | assumption | exact pm_lt _ _) | exact Nat.lt_of_le_of_lt (Nat.shiftRight_le _ _) (by assumption) | exact Nat.lt_of_le_of_lt Nat.and_le_right (by omega))) ml_J5_191 ⟨by decide, by decide⟩ ⟨Nat.le_of_ble_eq_true rfl, Nat.le_of_ble_eq_true rfl⟩ hl (Nat.le_of_ble_eq_true rfl) rfl dJ5_append_3fe6f_18 ?_
    refine z_ifB_eq (tgt := 45) C dJ5_append_3fe6f_21 (by decide) (fun h21 => ?_) (fun h21 => ?_)
    · exact absurd h21 (by decide)
    · refine lv_aload_n C.1 C.2.1 dJ5_append_3fe6f_24 rfl (lv_at hl 0 rfl) ?_
      refine zj_getV C B.1 fl_J5_15 dJ5_append_3fe6f_25 ?_
      refine lv_aload_n C.1 C.2.1 dJ5_append_3fe6f_28 rfl (lv_at hl 0 rfl) ?_
      refine lv_dup C.1 C.2.1 dJ5_append_3fe6f_29 rfl ?_
      refine zj_getN C B.1 fl_J5_79 dJ5_append_3fe6f_30 ?_
      refine lv_dup_x1 C.1 C.2.1 dJ5_append_3fe6f_33 rfl rfl ?_
      refine z_iconst C dJ5_append_3fe6f_34 ?_
      refine z_iadd C dJ5_append_3fe6f_35 ?_
      refine zj_putN C B.1 B.2.1 (Or.inl rfl) fl_J5_79 (n + 1) (by omega) dJ5_append_3fe6f_36 (fun H locs B1 S1 => ?_)
      have B : zJn D cB b v0 v7 (n + 1) k7 s H locs := ⟨B1, S1, B.2.2⟩
      refine lv_iload_n C.1 C.2.1 dJ5_append_3fe6f_39 rfl (lv_at hl 1 rfl) ?_
      refine lv_i2b C.1 C.2.1 dJ5_append_3fe6f_40 rfl ?_
      refine zr_bast C B.1.1 B.2.1 B.Av (((n))) (by omega) (by omega) (by omega) dJ5_append_3fe6f_41 (fun H locs R1 S1 hq => ?_)
      have B : zJn D cB b v0 v7 (n + 1) k7 s H locs := ⟨⟨R1, B.1.2.1, B.1.2.2.imp fun _ g => wK1 g (hq b B.1.2.1)⟩, S1, B.2.2⟩
      refine lv_goto (tgt := 75) C.1 C.2.1 dJ5_append_3fe6f_42 (by decide) ?_
      refine lv_aload_n C.1 C.2.1 dJ5_append_3fe6f_75 rfl (lv_at hl 0 rfl) ?_
      exact zj_aret C B hr (by first | exact Or.inl ⟨_, rfl⟩ | exact Or.inr ⟨_, rfl⟩) hk (Nat.le_of_ble_eq_true rfl) (Nat.le_of_ble_eq_true rfl) dJ5_append_3fe6f_76 (by rfl) (by rfl) (by show _ ∧ _; omega)

set_option maxHeartbeats 4000000 in
set_option maxRecDepth 100000 in
theorem c_J5_append_c97b9 (l : Launch) (D : va_G) (cB : ClassId) (z : Int) (n k : Nat) (hz : 0 ≤ z ∧ z ≤ 999) (hn : n ≤ 250) (hk9 : n ≤ k ∧ k ≤ 2 * n + 16) : zBM l yJ5_append_c97b9 4 124 1 520 D cB [.int (iZ (z))] n k (fun b _ => some (.ref b)) (n + (ssz z).toNat) (fun v v2 k2 => n + (ssz z).toNat ≤ k2 ∧ k2 ≤ 2 * (n + (ssz z).toNat) + 16) := by
  refine zBM.intro (lo := 101) (nA := 1) (own := RJ5) ⟨im_J5_append_c97b9, ini_J5, cd_J5_append_c97b9⟩ (by decide) rfl rfl (by decide +kernel) rfl (fun _ => Nat.le_of_ble_eq_true rfl) ?_
  intro b v0 p e s m below meth c0 ls C hr hk B V hl
  have hl : lv_has ls 4 [(0, .ref b), (1, .int (iZ (z)))] := hl
  refine lv_aload_n C.1 C.2.1 dJ5_append_c97b9_0 rfl (lv_at hl 0 rfl) ?_
  refine zj_getN C B.1 fl_J5_79 dJ5_append_c97b9_1 ?_
  refine lv_istore_n (lv' := [(2, .int (iZ (((n : Nat) : Int)))), (0, .ref b), (1, .int (iZ (z)))]) C.1 C.2.1 dJ5_append_c97b9_4 rfl hl (by decide) rfl (fun ls hl => ?_)
  refine lv_iload_n C.1 C.2.1 dJ5_append_c97b9_5 rfl (lv_at hl 0 rfl) ?_
  refine lv_iload_n C.1 C.2.1 dJ5_append_c97b9_6 rfl (lv_at hl 2 rfl) ?_
  refine z_call C (c_J6_stringSize_0f7a4 l (z) (by first | assumption | omega | rfl | exact decide_eq_false (by omega) | exact decide_eq_true (by assumption) | exact decide_eq_true (by omega) | exact one_shl33 (by omega) | exact pm_lt _ _ | exact rm_lt (by first | assumption | exact pm_lt _ _) | exact Nat.lt_of_le_of_lt (Nat.shiftRight_le _ _) (by assumption) | exact Nat.lt_of_le_of_lt Nat.and_le_right (by omega))) ml_J5_245 ⟨by decide, by decide⟩ ⟨Nat.le_of_ble_eq_true rfl, Nat.le_of_ble_eq_true rfl⟩ hl (Nat.le_of_ble_eq_true rfl) rfl dJ5_append_c97b9_7 ?_
  have q7_0 := ssz_rng (z)
  refine z_iadd C dJ5_append_c97b9_10 ?_
  refine lv_istore_n (lv' := [(3, .int (iZ ((((n : Nat) : Int)) + (ssz (z))))), (2, .int (iZ (((n : Nat) : Int)))), (0, .ref b), (1, .int (iZ (z)))]) C.1 C.2.1 dJ5_append_c97b9_11 rfl hl (by decide) rfl (fun ls hl => ?_)
  refine lv_aload_n C.1 C.2.1 dJ5_append_c97b9_12 rfl (lv_at hl 2 rfl) ?_
  refine lv_iload_n C.1 C.2.1 dJ5_append_c97b9_13 rfl (lv_at hl 0 rfl) ?_
  refine zj_callV C B V (c_J5_ensureCapacityInternal_d00df l D cB ((((n : Nat) : Int)) + (ssz (z))) (n) (k) (by first | assumption | omega | rfl | exact decide_eq_false (by omega) | exact decide_eq_true (by assumption) | exact decide_eq_true (by omega) | exact one_shl33 (by omega) | exact pm_lt _ _ | exact rm_lt (by first | assumption | exact pm_lt _ _) | exact Nat.lt_of_le_of_lt (Nat.shiftRight_le _ _) (by assumption) | exact Nat.lt_of_le_of_lt Nat.and_le_right (by omega)) (by first | assumption | omega | rfl | exact decide_eq_false (by omega) | exact decide_eq_true (by assumption) | exact decide_eq_true (by omega) | exact one_shl33 (by omega) | exact pm_lt _ _ | exact rm_lt (by first | assumption | exact pm_lt _ _) | exact Nat.lt_of_le_of_lt (Nat.shiftRight_le _ _) (by assumption) | exact Nat.lt_of_le_of_lt Nat.and_le_right (by omega))) ml_J5_100 (V.t.s1) ⟨Nat.le_of_ble_eq_true rfl, Nat.le_of_ble_eq_true rfl⟩ ⟨Nat.le_of_ble_eq_true rfl, Nat.le_of_ble_eq_true rfl⟩ hl (Nat.le_of_ble_eq_true rfl) rfl dJ5_append_c97b9_14 (fun v14 k14 H locs hp14 B => ?_)
  have hp14 : ((((n : Nat) : Int)) + (ssz (z))) ≤ ((k14) : Int) ∧ ((k14) = (k) ∨ ((k14) : Int) ≤ 2 * ((((n : Nat) : Int)) + (ssz (z)))) := hp14
  refine lv_aload_n C.1 C.2.1 dJ5_append_c97b9_17 rfl (lv_at hl 2 rfl) ?_
  refine zj_callV C B V (c_J5_isLatin1_aae02 l D cB  ((n)) (k14) ) ml_J5_83 (C.2.2.2.2 _ (T0_of sl_J4_J5_isLatin1_aae02 rfl)) ⟨Nat.le_of_ble_eq_true rfl, Nat.le_of_ble_eq_true rfl⟩ ⟨Nat.le_of_ble_eq_true rfl, Nat.le_of_ble_eq_true rfl⟩ hl (Nat.le_of_ble_eq_true rfl) rfl dJ5_append_c97b9_18 (fun v18 k18 H locs hp18 B => ?_)
  obtain ⟨rfl, rfl⟩ := hp18
  refine z_if_eq (tgt := 37) C (by omega) dJ5_append_c97b9_21 (by decide) (fun h21 => ?_) (fun h21 => ?_)
  · exfalso; omega
  · refine lv_iload_n C.1 C.2.1 dJ5_append_c97b9_24 rfl (lv_at hl 3 rfl) ?_
    refine lv_iload_n C.1 C.2.1 dJ5_append_c97b9_25 rfl (lv_at hl 0 rfl) ?_
    refine lv_aload_n C.1 C.2.1 dJ5_append_c97b9_26 rfl (lv_at hl 2 rfl) ?_
    refine zj_getV C B.1 fl_J5_15 dJ5_append_c97b9_27 ?_
    refine zr_callG C B.1.1 V B.2.1 B.Av (c_J6_getChars_ba4f3 l D cB (z) ((((n : Nat) : Int)) + (ssz (z))) k14 (by omega) (by omega) (by omega)) ml_J5_248 ⟨Nat.le_of_ble_eq_true rfl, Nat.le_of_ble_eq_true rfl⟩ ⟨Nat.le_of_ble_eq_true rfl, Nat.le_of_ble_eq_true rfl⟩ hl (Nat.le_of_ble_eq_true rfl) rfl dJ5_append_c97b9_30 (fun x H locs R1 S1 hq => ?_)
    have B : zJn D cB b v0 v14 (((n))) k14 s H locs := ⟨⟨R1, B.1.2.1, B.1.2.2.imp fun _ g => wK1 g (hq b B.1.2.1 B.1.lt.1)⟩, S1, B.2.2⟩
    refine lv_pop C.1 C.2.1 dJ5_append_c97b9_33 rfl ?_
    refine lv_goto (tgt := 48) C.1 C.2.1 dJ5_append_c97b9_34 (by decide) ?_
    refine lv_aload_n C.1 C.2.1 dJ5_append_c97b9_48 rfl (lv_at hl 2 rfl) ?_
    refine lv_iload_n C.1 C.2.1 dJ5_append_c97b9_49 rfl (lv_at hl 0 rfl) ?_
    refine zj_putN C B.1 B.2.1 (Or.inl rfl) fl_J5_79 (n + (ssz z).toNat) (by omega) dJ5_append_c97b9_50 (fun H locs B1 S1 => ?_)
    have B : zJn D cB b v0 v14 (n + (ssz z).toNat) k14 s H locs := ⟨B1, S1, B.2.2⟩
    refine lv_aload_n C.1 C.2.1 dJ5_append_c97b9_53 rfl (lv_at hl 2 rfl) ?_
    exact zj_aret C B hr (by first | exact Or.inl ⟨_, rfl⟩ | exact Or.inr ⟨_, rfl⟩) hk (Nat.le_of_ble_eq_true rfl) (Nat.le_of_ble_eq_true rfl) dJ5_append_c97b9_54 (by rfl) (by rfl) (by show _ ∧ _; omega)

set_option maxHeartbeats 4000000 in
set_option maxRecDepth 100000 in
theorem c_J5_reverse_278bc (l : Launch) (D : va_G) (cB : ClassId)  (n k : Nat) (hk9 : n ≤ k ∧ k ≤ 520) : zBM l yJ5_reverse_278bc 1 46 0 0 D cB [] n k (fun b _ => some (.ref b)) (n) (fun v v2 k2 => v = v2 ∧ k = k2) := by
  refine zBM.intro (lo := 20) (nA := 0) (own := RJ5) ⟨im_J5_reverse_278bc, ini_J5, cd_J5_reverse_278bc⟩ (by decide) rfl rfl (by decide +kernel) rfl (fun _ => Nat.le_of_ble_eq_true rfl) ?_
  intro b v0 p e s m below meth c0 ls C hr hk B V hl
  have hl : lv_has ls 7 [(0, .ref b)] := hl
  refine lv_aload_n C.1 C.2.1 dJ5_reverse_278bc_0 rfl (lv_at hl 0 rfl) ?_
  refine zj_getV C B.1 fl_J5_15 dJ5_reverse_278bc_1 ?_
  refine lv_astore_n (lv' := [(1, .ref v0), (0, .ref b)]) C.1 C.2.1 dJ5_reverse_278bc_4 rfl hl (by decide) rfl (fun ls hl => ?_)
  refine lv_aload_n C.1 C.2.1 dJ5_reverse_278bc_5 rfl (lv_at hl 1 rfl) ?_
  refine zj_getN C B.1 fl_J5_79 dJ5_reverse_278bc_6 ?_
  refine lv_istore_n (lv' := [(2, .int (iZ (((n : Nat) : Int)))), (1, .ref v0), (0, .ref b)]) C.1 C.2.1 dJ5_reverse_278bc_9 rfl hl (by decide) rfl (fun ls hl => ?_)
  refine lv_iload_n C.1 C.2.1 dJ5_reverse_278bc_10 rfl (lv_at hl 0 rfl) ?_
  refine z_iconst C dJ5_reverse_278bc_11 ?_
  refine z_isub C dJ5_reverse_278bc_12 ?_
  refine lv_istore_n (lv' := [(3, .int (iZ ((((n : Nat) : Int)) - (1)))), (2, .int (iZ (((n : Nat) : Int)))), (1, .ref v0), (0, .ref b)]) C.1 C.2.1 dJ5_reverse_278bc_13 rfl hl (by decide) rfl (fun ls hl => ?_)
  refine lv_aload_n C.1 C.2.1 dJ5_reverse_278bc_14 rfl (lv_at hl 3 rfl) ?_
  refine zj_callV C B V (c_J5_isLatin1_aae02 l D cB  (n) (k) ) ml_J5_83 (C.2.2.2.2 _ (T0_of sl_J4_J5_isLatin1_aae02 rfl)) ⟨Nat.le_of_ble_eq_true rfl, Nat.le_of_ble_eq_true rfl⟩ ⟨Nat.le_of_ble_eq_true rfl, Nat.le_of_ble_eq_true rfl⟩ hl (Nat.le_of_ble_eq_true rfl) rfl dJ5_reverse_278bc_15 (fun v15 k15 H locs hp15 B => ?_)
  obtain ⟨rfl, rfl⟩ := hp15
  refine z_if_eq (tgt := 68) C (by omega) dJ5_reverse_278bc_18 (by decide) (fun h18 => ?_) (fun h18 => ?_)
  · exfalso; omega
  · refine lv_iload_n C.1 C.2.1 dJ5_reverse_278bc_21 rfl (lv_at hl 0 rfl) ?_
    refine z_iconst C dJ5_reverse_278bc_22 ?_
    refine z_isub C dJ5_reverse_278bc_23 ?_
    refine z_iconst C dJ5_reverse_278bc_24 ?_
    refine z_ishr1 C (by omega) dJ5_reverse_278bc_25 ?_
    refine lv_istore (lv' := [(4, .int (iZ ((((((n : Nat) : Int)) - (1)) - (1)) / 2))), (3, .int (iZ ((((n : Nat) : Int)) - (1)))), (2, .int (iZ (((n : Nat) : Int)))), (1, .ref v0), (0, .ref b)]) C.1 C.2.1 dJ5_reverse_278bc_26 hl (by decide) rfl (fun ls hl => ?_)
    have L28 : ∀ (j : Nat) (j0 : Nat) (x4 : Int) (H : Heap) (locs : List Loc) (ls : Array Slot), j0 < j → (x4 + 1 = (j0 : Int)) → (x4 ≤ ((n : Int) - 2) / 2) → (zJn D cB b v0 v0 n k s H locs) → lv_has ls 7 [(0, .ref b), (1, .ref v0), (2, .int (iZ (((n : Nat) : Int)))), (3, .int (iZ ((((n : Nat) : Int)) - (1)))), (4, .int (iZ (x4)))] → W p l e { frames := 1, cells := 0, slots := 0, locals := 20 } s m (Value.ref b :: ([] : List Value)).toArray below meth c0 H locs (0 + 0) (0 + 0) (zB1 below D cB b v0 (Value.ref b :: ([] : List Value)).toArray s 0 0 (fun b _ => some (.ref b)) (n) (fun v v2 k2 => v = v2 ∧ k = k2)) (F0 m 28 ls []) := by
      intro j
      induction j with
      | zero => intro j0 x4 H locs ls hmu; exact absurd hmu (Nat.not_lt_zero _)
      | succ j ih28 =>
        intro j0 x4 H locs ls hmu i28_0 i28_1 B hl
        refine lv_iload C.1 C.2.1 dJ5_reverse_278bc_28 (lv_at hl 4 rfl) ?_
        refine z_if_lt (tgt := 65) C (by omega) dJ5_reverse_278bc_30 (by decide) (fun h30 => ?_) (fun h30 => ?_)
        · refine lv_goto (tgt := 73) C.1 C.2.1 dJ5_reverse_278bc_65 (by decide) ?_
          refine lv_aload_n C.1 C.2.1 dJ5_reverse_278bc_73 rfl (lv_at hl 0 rfl) ?_
          exact zj_aret C B hr (by first | exact Or.inl ⟨_, rfl⟩ | exact Or.inr ⟨_, rfl⟩) hk (Nat.le_of_ble_eq_true rfl) (Nat.le_of_ble_eq_true rfl) dJ5_reverse_278bc_74 (by rfl) (by rfl) (by exact ⟨rfl, rfl⟩)
        · refine lv_iload_n C.1 C.2.1 dJ5_reverse_278bc_33 rfl (lv_at hl 3 rfl) ?_
          refine lv_iload C.1 C.2.1 dJ5_reverse_278bc_34 (lv_at hl 4 rfl) ?_
          refine z_isub C dJ5_reverse_278bc_36 ?_
          refine lv_istore (lv' := [(5, .int (iZ (((((n : Nat) : Int)) - (1)) - (x4)))), (0, .ref b), (1, .ref v0), (2, .int (iZ (((n : Nat) : Int)))), (3, .int (iZ ((((n : Nat) : Int)) - (1)))), (4, .int (iZ (x4)))]) C.1 C.2.1 dJ5_reverse_278bc_37 hl (by decide) rfl (fun ls hl => ?_)
          refine lv_aload_n C.1 C.2.1 dJ5_reverse_278bc_39 rfl (lv_at hl 2 rfl) ?_
          refine lv_iload C.1 C.2.1 dJ5_reverse_278bc_40 (lv_at hl 5 rfl) ?_
          refine zr_bald C B.1.1 ((x4).toNat) (by omega) (by omega) (by omega) dJ5_reverse_278bc_42 (fun x42 => ?_)
          refine lv_istore (lv' := [(6, .int (x42)), (5, .int (iZ (((((n : Nat) : Int)) - (1)) - (x4)))), (0, .ref b), (1, .ref v0), (2, .int (iZ (((n : Nat) : Int)))), (3, .int (iZ ((((n : Nat) : Int)) - (1)))), (4, .int (iZ (x4)))]) C.1 C.2.1 dJ5_reverse_278bc_43 hl (by decide) rfl (fun ls hl => ?_)
          refine lv_aload_n C.1 C.2.1 dJ5_reverse_278bc_45 rfl (lv_at hl 3 rfl) ?_
          refine lv_iload C.1 C.2.1 dJ5_reverse_278bc_46 (lv_at hl 6 rfl) ?_
          refine lv_aload_n C.1 C.2.1 dJ5_reverse_278bc_48 rfl (lv_at hl 3 rfl) ?_
          refine lv_iload C.1 C.2.1 dJ5_reverse_278bc_49 (lv_at hl 1 rfl) ?_
          refine zr_bald C B.1.1 ((((((n : Nat) : Int)) - (1)) - (x4)).toNat) (by omega) (by omega) (by omega) dJ5_reverse_278bc_51 (fun x51 => ?_)
          refine zr_bast C B.1.1 B.2.1 B.Av ((x4).toNat) (by omega) (by omega) (by omega) dJ5_reverse_278bc_52 (fun H locs R1 S1 hq => ?_)
          have B : zJn D cB b v0 v0 ((n)) k s H locs := ⟨⟨R1, B.1.2.1, B.1.2.2.imp fun _ g => wK1 g (hq b B.1.2.1)⟩, S1, B.2.2⟩
          refine lv_aload_n C.1 C.2.1 dJ5_reverse_278bc_53 rfl (lv_at hl 3 rfl) ?_
          refine lv_iload C.1 C.2.1 dJ5_reverse_278bc_54 (lv_at hl 1 rfl) ?_
          refine lv_iload C.1 C.2.1 dJ5_reverse_278bc_56 (lv_at hl 0 rfl) ?_
          refine zr_bast C B.1.1 B.2.1 B.Av ((((((n : Nat) : Int)) - (1)) - (x4)).toNat) (by omega) (by omega) (by omega) dJ5_reverse_278bc_58 (fun H locs R1 S1 hq => ?_)
          have B : zJn D cB b v0 v0 ((n)) k s H locs := ⟨⟨R1, B.1.2.1, B.1.2.2.imp fun _ g => wK1 g (hq b B.1.2.1)⟩, S1, B.2.2⟩
          refine z_iinc (j := 6) (lv' := [(4, .int (iZ (x4 + (-1)))), (6, .int (x42)), (5, .int (iZ (((((n : Nat) : Int)) - (1)) - (x4)))), (0, .ref b), (1, .ref v0), (2, .int (iZ (((n : Nat) : Int)))), (3, .int (iZ ((((n : Nat) : Int)) - (1))))]) C dJ5_reverse_278bc_59 hl rfl (by decide) rfl (fun ls hl => ?_)
          refine lv_goto (tgt := 28) C.1 C.2.1 dJ5_reverse_278bc_62 (by decide) ?_
          obtain ⟨j1, rfl⟩ : ∃ g, j0 = g + 1 := ⟨j0 - 1, by omega⟩
          exact ih28 (j1) _ _ _ _ (by omega) (by omega) (by omega) B (lv_sub hl [3, 4, 5, 6, 0] rfl)
    exact L28 _ ((((n : Int) - 1 - 1) / 2 + 1).toNat) _ _ _ _ (by exact Nat.lt_succ_self _) (by omega) (by omega) B (lv_sub hl [4, 3, 2, 1, 0] rfl)

set_option maxHeartbeats 4000000 in
set_option maxRecDepth 100000 in
theorem c_J4_length_8abf5 (l : Launch) (D : va_G) (cB : ClassId)  (n k : Nat) : zBM l yJ4_length_8abf5 1 40 0 0 D cB [] n k (fun _ _ => some (.int (iZ (((n : Nat) : Int))))) (n) (fun v v2 k2 => v = v2 ∧ k = k2) := by
  refine zBM.intro (lo := 20) (nA := 0) (own := RJ4) ⟨zi_J4_length_8abf5.1, zi_J4_length_8abf5.2.2.1, zi_J4_length_8abf5.2.2.2⟩ (by decide) rfl rfl (by decide +kernel) rfl (fun _ => Nat.le_of_ble_eq_true rfl) ?_
  intro b v0 p e s m below meth c0 ls C hr hk B V hl
  have hl : lv_has ls 1 [(0, .ref b)] := hl
  refine lv_aload_n C.1 C.2.1 dJ4_length_8abf5_0 rfl (lv_at hl 0 rfl) ?_
  refine zj_callS C B V (c_J5_length_8abf5 l D cB  (n) (k) ) ml_J4_343 sm_J5_length_8abf5 sp_J4 (by decide) ⟨Nat.le_of_ble_eq_true rfl, Nat.le_of_ble_eq_true rfl⟩ ⟨Nat.le_of_ble_eq_true rfl, Nat.le_of_ble_eq_true rfl⟩ hl (Nat.le_of_ble_eq_true rfl) rfl dJ4_length_8abf5_1 (fun v1 k1 H locs hp1 B => ?_)
  obtain ⟨rfl, rfl⟩ := hp1
  exact zj_iret C B hr hk (Nat.le_of_ble_eq_true rfl) (Nat.le_of_ble_eq_true rfl) dJ4_length_8abf5_4 (by rfl) (by rfl) (by exact ⟨rfl, rfl⟩)

set_option maxHeartbeats 4000000 in
set_option maxRecDepth 100000 in
theorem c_J4_append_cf468 (l : Launch) (D : va_G) (cB : ClassId) (z : Int) (n k : Nat) (hz : 0 ≤ z ∧ z ≤ 255) (hn : n ≤ 250) (hk9 : n ≤ k ∧ k ≤ 2 * n + 16) : zBM l yJ4_append_cf468 5 143 1 520 D cB [.int (iZ (z))] n k (fun b _ => some (.ref b)) (n + 1) (fun v v2 k2 => n + 1 ≤ k2 ∧ k2 ≤ 2 * (n + 1) + 16) := by
  refine zBM.intro (lo := 122) (nA := 1) (own := RJ4) ⟨zi_J4_append_cf468.1, zi_J4_append_cf468.2.2.1, zi_J4_append_cf468.2.2.2⟩ (by decide) rfl rfl (by decide +kernel) rfl (fun _ => Nat.le_of_ble_eq_true rfl) ?_
  intro b v0 p e s m below meth c0 ls C hr hk B V hl
  have hl : lv_has ls 2 [(0, .ref b), (1, .int (iZ (z)))] := hl
  refine lv_aload_n C.1 C.2.1 dJ4_append_cf468_0 rfl (lv_at hl 0 rfl) ?_
  refine lv_iload_n C.1 C.2.1 dJ4_append_cf468_1 rfl (lv_at hl 1 rfl) ?_
  refine zj_callS C B V (c_J5_append_3fe6f l D cB (z) (n) (k) (by first | assumption | omega | rfl | exact decide_eq_false (by omega) | exact decide_eq_true (by assumption) | exact decide_eq_true (by omega) | exact one_shl33 (by omega) | exact pm_lt _ _ | exact rm_lt (by first | assumption | exact pm_lt _ _) | exact Nat.lt_of_le_of_lt (Nat.shiftRight_le _ _) (by assumption) | exact Nat.lt_of_le_of_lt Nat.and_le_right (by omega)) (by first | assumption | omega | rfl | exact decide_eq_false (by omega) | exact decide_eq_true (by assumption) | exact decide_eq_true (by omega) | exact one_shl33 (by omega) | exact pm_lt _ _ | exact rm_lt (by first | assumption | exact pm_lt _ _) | exact Nat.lt_of_le_of_lt (Nat.shiftRight_le _ _) (by assumption) | exact Nat.lt_of_le_of_lt Nat.and_le_right (by omega)) (by first | assumption | omega | rfl | exact decide_eq_false (by omega) | exact decide_eq_true (by assumption) | exact decide_eq_true (by omega) | exact one_shl33 (by omega) | exact pm_lt _ _ | exact rm_lt (by first | assumption | exact pm_lt _ _) | exact Nat.lt_of_le_of_lt (Nat.shiftRight_le _ _) (by assumption) | exact Nat.lt_of_le_of_lt Nat.and_le_right (by omega))) ml_J4_50 sm_J5_append_3fe6f sp_J4 (by decide) ⟨Nat.le_of_ble_eq_true rfl, Nat.le_of_ble_eq_true rfl⟩ ⟨Nat.le_of_ble_eq_true rfl, Nat.le_of_ble_eq_true rfl⟩ hl (Nat.le_of_ble_eq_true rfl) rfl dJ4_append_cf468_2 (fun v2 k2 H locs hp2 B => ?_)
  have hp2 : (n) + 1 ≤ (k2) ∧ (k2) ≤ 2 * ((n) + 1) + 16 := hp2
  refine lv_pop C.1 C.2.1 dJ4_append_cf468_5 rfl ?_
  refine lv_aload_n C.1 C.2.1 dJ4_append_cf468_6 rfl (lv_at hl 0 rfl) ?_
  exact zj_aret C B hr (by first | exact Or.inl ⟨_, rfl⟩ | exact Or.inr ⟨_, rfl⟩) hk (Nat.le_of_ble_eq_true rfl) (Nat.le_of_ble_eq_true rfl) dJ4_append_cf468_7 (by rfl) (by rfl) (by show _ ∧ _; omega)

set_option maxHeartbeats 4000000 in
set_option maxRecDepth 100000 in
theorem c_J4_append_bf812 (l : Launch) (D : va_G) (cB : ClassId) (z : Int) (n k : Nat) (hz : 0 ≤ z ∧ z ≤ 999) (hn : n ≤ 250) (hk9 : n ≤ k ∧ k ≤ 2 * n + 16) : zBM l yJ4_append_bf812 5 145 1 520 D cB [.int (iZ (z))] n k (fun b _ => some (.ref b)) (n + (ssz z).toNat) (fun v v2 k2 => n + (ssz z).toNat ≤ k2 ∧ k2 ≤ 2 * (n + (ssz z).toNat) + 16) := by
  refine zBM.intro (lo := 124) (nA := 1) (own := RJ4) ⟨zi_J4_append_bf812.1, zi_J4_append_bf812.2.2.1, zi_J4_append_bf812.2.2.2⟩ (by decide) rfl rfl (by decide +kernel) rfl (fun _ => Nat.le_of_ble_eq_true rfl) ?_
  intro b v0 p e s m below meth c0 ls C hr hk B V hl
  have hl : lv_has ls 2 [(0, .ref b), (1, .int (iZ (z)))] := hl
  refine lv_aload_n C.1 C.2.1 dJ4_append_bf812_0 rfl (lv_at hl 0 rfl) ?_
  refine lv_iload_n C.1 C.2.1 dJ4_append_bf812_1 rfl (lv_at hl 1 rfl) ?_
  refine zj_callS C B V (c_J5_append_c97b9 l D cB (z) (n) (k) (by first | assumption | omega | rfl | exact decide_eq_false (by omega) | exact decide_eq_true (by assumption) | exact decide_eq_true (by omega) | exact one_shl33 (by omega) | exact pm_lt _ _ | exact rm_lt (by first | assumption | exact pm_lt _ _) | exact Nat.lt_of_le_of_lt (Nat.shiftRight_le _ _) (by assumption) | exact Nat.lt_of_le_of_lt Nat.and_le_right (by omega)) (by first | assumption | omega | rfl | exact decide_eq_false (by omega) | exact decide_eq_true (by assumption) | exact decide_eq_true (by omega) | exact one_shl33 (by omega) | exact pm_lt _ _ | exact rm_lt (by first | assumption | exact pm_lt _ _) | exact Nat.lt_of_le_of_lt (Nat.shiftRight_le _ _) (by assumption) | exact Nat.lt_of_le_of_lt Nat.and_le_right (by omega)) (by first | assumption | omega | rfl | exact decide_eq_false (by omega) | exact decide_eq_true (by assumption) | exact decide_eq_true (by omega) | exact one_shl33 (by omega) | exact pm_lt _ _ | exact rm_lt (by first | assumption | exact pm_lt _ _) | exact Nat.lt_of_le_of_lt (Nat.shiftRight_le _ _) (by assumption) | exact Nat.lt_of_le_of_lt Nat.and_le_right (by omega))) ml_J4_53 sm_J5_append_c97b9 sp_J4 (by decide) ⟨Nat.le_of_ble_eq_true rfl, Nat.le_of_ble_eq_true rfl⟩ ⟨Nat.le_of_ble_eq_true rfl, Nat.le_of_ble_eq_true rfl⟩ hl (Nat.le_of_ble_eq_true rfl) rfl dJ4_append_bf812_2 (fun v2 k2 H locs hp2 B => ?_)
  have hp2 : (n) + (ssz (z)).toNat ≤ (k2) ∧ (k2) ≤ 2 * ((n) + (ssz (z)).toNat) + 16 := hp2
  refine lv_pop C.1 C.2.1 dJ4_append_bf812_5 rfl ?_
  refine lv_aload_n C.1 C.2.1 dJ4_append_bf812_6 rfl (lv_at hl 0 rfl) ?_
  exact zj_aret C B hr (by first | exact Or.inl ⟨_, rfl⟩ | exact Or.inr ⟨_, rfl⟩) hk (Nat.le_of_ble_eq_true rfl) (Nat.le_of_ble_eq_true rfl) dJ4_append_bf812_7 (by rfl) (by rfl) (by show _ ∧ _; omega)

set_option maxHeartbeats 4000000 in
set_option maxRecDepth 100000 in
theorem c_J4_reverse_43fcb (l : Launch) (D : va_G) (cB : ClassId)  (n k : Nat) (hk9 : n ≤ k ∧ k ≤ 520) : zBM l yJ4_reverse_43fcb 2 66 0 0 D cB [] n k (fun b _ => some (.ref b)) (n) (fun v v2 k2 => v = v2 ∧ k = k2) := by
  refine zBM.intro (lo := 46) (nA := 0) (own := RJ4) ⟨zi_J4_reverse_43fcb.1, zi_J4_reverse_43fcb.2.2.1, zi_J4_reverse_43fcb.2.2.2⟩ (by decide) rfl rfl (by decide +kernel) rfl (fun _ => Nat.le_of_ble_eq_true rfl) ?_
  intro b v0 p e s m below meth c0 ls C hr hk B V hl
  have hl : lv_has ls 1 [(0, .ref b)] := hl
  refine lv_aload_n C.1 C.2.1 dJ4_reverse_43fcb_0 rfl (lv_at hl 0 rfl) ?_
  refine zj_callS C B V (c_J5_reverse_278bc l D cB  (n) (k) (by first | assumption | omega | rfl | exact decide_eq_false (by omega) | exact decide_eq_true (by assumption) | exact decide_eq_true (by omega) | exact one_shl33 (by omega) | exact pm_lt _ _ | exact rm_lt (by first | assumption | exact pm_lt _ _) | exact Nat.lt_of_le_of_lt (Nat.shiftRight_le _ _) (by assumption) | exact Nat.lt_of_le_of_lt Nat.and_le_right (by omega))) ml_J4_127 sm_J5_reverse_278bc sp_J4 (by decide) ⟨Nat.le_of_ble_eq_true rfl, Nat.le_of_ble_eq_true rfl⟩ ⟨Nat.le_of_ble_eq_true rfl, Nat.le_of_ble_eq_true rfl⟩ hl (Nat.le_of_ble_eq_true rfl) rfl dJ4_reverse_43fcb_1 (fun v1 k1 H locs hp1 B => ?_)
  obtain ⟨rfl, rfl⟩ := hp1
  refine lv_pop C.1 C.2.1 dJ4_reverse_43fcb_4 rfl ?_
  refine lv_aload_n C.1 C.2.1 dJ4_reverse_43fcb_5 rfl (lv_at hl 0 rfl) ?_
  exact zj_aret C B hr (by first | exact Or.inl ⟨_, rfl⟩ | exact Or.inr ⟨_, rfl⟩) hk (Nat.le_of_ble_eq_true rfl) (Nat.le_of_ble_eq_true rfl) dJ4_reverse_43fcb_6 (by rfl) (by rfl) (by exact ⟨rfl, rfl⟩)

end JC
