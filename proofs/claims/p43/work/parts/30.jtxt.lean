section JD
set_option maxHeartbeats 4000000 in
set_option maxRecDepth 100000 in
theorem c_X2_placesOf (l : Launch) (D : va_G) (cB : ClassId) (x : Nat) (hx : x < 8589934592) : zTS l yX2_placesOf 6 188 72 34864 D cB [.long (lN (x))] := by
  refine zTS.intro (lo := 165) (nA := 1) (own := RX2) zs_X2_placesOf (by decide) rfl rfl (by decide +kernel) rfl (Nat.le_of_ble_eq_true rfl) ?_
  intro p e s m below meth c ls C hr hk K V S hl
  have hA : ∀ q, s.heap.size ≤ q → (fun z => s.heap.size ≤ z) q := fun _ h => h
  have hl : lv_has ls 4 [(0, .long (lN (x)))] := hl
  refine lv_lload_n C.1 C.2.1 dX2_placesOf_0 rfl (lv_at hl 0 rfl) ?_
  refine z_lconst (k0 := 0) C dX2_placesOf_1 rfl ?_
  refine z_lc_ne (tgt := 9) C (by first | assumption | omega | rfl | exact decide_eq_false (by omega) | exact decide_eq_true (by assumption) | exact decide_eq_true (by omega) | exact one_shl33 (by omega) | exact pm_lt _ _ | exact rm_lt (by first | assumption | exact pm_lt _ _) | exact Nat.lt_of_le_of_lt (Nat.shiftRight_le _ _) (by assumption) | exact Nat.lt_of_le_of_lt Nat.and_le_right (by omega)) (by first | assumption | omega | rfl | exact decide_eq_false (by omega) | exact decide_eq_true (by assumption) | exact decide_eq_true (by omega) | exact one_shl33 (by omega) | exact pm_lt _ _ | exact rm_lt (by first | assumption | exact pm_lt _ _) | exact Nat.lt_of_le_of_lt (Nat.shiftRight_le _ _) (by assumption) | exact Nat.lt_of_le_of_lt Nat.and_le_right (by omega)) dX2_placesOf_2 dX2_placesOf_3 (by decide) (fun h2 => ?_) (fun h2 => ?_)
  · refine zt_new C K V S hA cl_X2_9 ml_X2_11 ⟨Nat.le_of_ble_eq_true rfl, Nat.le_of_ble_eq_true rfl⟩ ⟨Nat.le_of_ble_eq_true rfl, Nat.le_of_ble_eq_true rfl⟩ hl (Nat.le_of_ble_eq_true rfl) dX2_placesOf_9 dX2_placesOf_12 dX2_placesOf_13 (fun b v H locs B hq => ?_)
    refine lv_astore_n (lv' := [(2, .ref b), (0, .long (lN (x)))]) C.1 C.2.1 dX2_placesOf_16 rfl hl (by decide) rfl (fun ls hl => ?_)
    refine lv_lload_n C.1 C.2.1 dX2_placesOf_17 rfl (lv_at hl 1 rfl) ?_
    refine z_call C (c_X1_topPlace l (x) (by first | assumption | omega | rfl | exact decide_eq_false (by omega) | exact decide_eq_true (by assumption) | exact decide_eq_true (by omega) | exact one_shl33 (by omega) | exact pm_lt _ _ | exact rm_lt (by first | assumption | exact pm_lt _ _) | exact Nat.lt_of_le_of_lt (Nat.shiftRight_le _ _) (by assumption) | exact Nat.lt_of_le_of_lt Nat.and_le_right (by omega))) ml_X2_12 ⟨by decide, by decide⟩ ⟨Nat.le_of_ble_eq_true rfl, Nat.le_of_ble_eq_true rfl⟩ hl (Nat.le_of_ble_eq_true rfl) rfl dX2_placesOf_18 ?_
    have q18_0 := tp_rngE (x) (by first | assumption | omega)
    refine lv_istore_n (lv' := [(3, .int (iZ (tp (x)))), (2, .ref b), (0, .long (lN (x)))]) C.1 C.2.1 dX2_placesOf_21 rfl hl (by decide) rfl (fun ls hl => ?_)
    have L22 : ∀ (j : Nat) (j0 : Nat) (v : Nat) (n : Nat) (k : Nat) (ce : Nat) (sl : Nat) (x3 : Int) (H : Heap) (locs : List Loc) (ls : Array Slot), j0 < j → (x3 + 1 = (j0 : Int)) → (j0 ≤ 33) → (n + 4 * j0 ≤ 132) → (n ≤ k ∧ k ≤ 2 * n + 16) → (ce + 2 * j0 ≤ 70) → (sl + 1040 * j0 ≤ 34340) → (zTn (fun z => s.heap.size ≤ z) D cB b v n k s H locs) → lv_has ls 4 [(0, .long (lN (x))), (2, .ref b), (3, .int (iZ (x3)))] → W p l e { frames := 6, cells := 72, slots := 34864, locals := 165 } s m ([.long (lN (x))] : List Value).toArray below meth c H locs ce sl (zT1 below ([.long (lN (x))] : List Value).toArray s 72 34864) (F0 m 22 ls []) := by
      intro j
      induction j with
      | zero => intro j0 v n k ce sl x3 H locs ls hmu; exact absurd hmu (Nat.not_lt_zero _)
      | succ j ih22 =>
        intro j0 v n k ce sl x3 H locs ls hmu i22_0 i22_1 i22_2 i22_3 i22_4 i22_5 B hl
        refine lv_iload_n C.1 C.2.1 dX2_placesOf_22 rfl (lv_at hl 2 rfl) ?_
        refine z_if_lt (tgt := 60) C (by omega) dX2_placesOf_23 (by decide) (fun h23 => ?_) (fun h23 => ?_)
        · refine lv_aload_n C.1 C.2.1 dX2_placesOf_60 rfl (lv_at hl 1 rfl) ?_
          refine zt_str C B V hA (c_J4_toString_0e30d l D cB (n) (k) (by omega)) ml_X2_33 ⟨Nat.le_of_ble_eq_true rfl, Nat.le_of_ble_eq_true rfl⟩ ⟨by show ce + 2 ≤ 72; omega, by show sl + 524 ≤ 34864; omega⟩ hl (Nat.le_of_ble_eq_true rfl) dX2_placesOf_61 (fun q H locs S hq => ?_)
          exact zt_aret C S hr hk (by omega) (by omega) dX2_placesOf_64
        · refine lv_lload_n C.1 C.2.1 dX2_placesOf_26 rfl (lv_at hl 0 rfl) ?_
          refine lv_iload_n C.1 C.2.1 dX2_placesOf_27 rfl (lv_at hl 2 rfl) ?_
          refine z_call C (c_X1_hasOne l (x) (x3) (by first | assumption | omega | rfl | exact decide_eq_false (by omega) | exact decide_eq_true (by assumption) | exact decide_eq_true (by omega) | exact one_shl33 (by omega) | exact pm_lt _ _ | exact rm_lt (by first | assumption | exact pm_lt _ _) | exact Nat.lt_of_le_of_lt (Nat.shiftRight_le _ _) (by assumption) | exact Nat.lt_of_le_of_lt Nat.and_le_right (by omega)) (by first | assumption | omega | rfl | exact decide_eq_false (by omega) | exact decide_eq_true (by assumption) | exact decide_eq_true (by omega) | exact one_shl33 (by omega) | exact pm_lt _ _ | exact rm_lt (by first | assumption | exact pm_lt _ _) | exact Nat.lt_of_le_of_lt (Nat.shiftRight_le _ _) (by assumption) | exact Nat.lt_of_le_of_lt Nat.and_le_right (by omega))) ml_X2_18 ⟨by decide, by decide⟩ ⟨by show ce + 0 ≤ 72; omega, by show sl + 0 ≤ 34864; omega⟩ hl (Nat.le_of_ble_eq_true rfl) rfl dX2_placesOf_28 ?_
          refine z_ifB_eq (tgt := 54) C dX2_placesOf_31 (by decide) (fun h31 => ?_) (fun h31 => ?_)
          · refine z_iinc (j := 2) (lv' := [(3, .int (iZ (x3 + (-1)))), (0, .long (lN (x))), (2, .ref b)]) C dX2_placesOf_54 hl rfl (by decide) rfl (fun ls hl => ?_)
            refine lv_goto (tgt := 22) C.1 C.2.1 dX2_placesOf_57 (by decide) ?_
            obtain ⟨j1, rfl⟩ : ∃ g, j0 = g + 1 := ⟨j0 - 1, by omega⟩
            exact ih22 (j1) (v) (n) (k) (ce) (sl) _ _ _ _ (by omega) (by omega) (by omega) (by omega) (by omega) (by omega) (by omega) B (lv_sub hl [1, 2, 0] rfl)
          · refine lv_aload_n C.1 C.2.1 dX2_placesOf_34 rfl (lv_at hl 1 rfl) ?_
            refine zt_call C B V hA (c_J4_length_8abf5 l D cB  (n) (k) ) ml_X2_22 (C.2.2.2.2 _ (T0_of zi_J4_length_8abf5.2.1 rfl)) ⟨Nat.le_of_ble_eq_true rfl, Nat.le_of_ble_eq_true rfl⟩ ⟨by show ce + 0 ≤ 72; omega, by show sl + 0 ≤ 34864; omega⟩ hl (Nat.le_of_ble_eq_true rfl) rfl dX2_placesOf_35 (fun v35 k35 H locs hp35 B hq => ?_)
            obtain ⟨rfl, rfl⟩ := hp35
            refine z_if_le (tgt := 48) C (by omega) dX2_placesOf_38 (by decide) (fun h38 => ?_) (fun h38 => ?_)
            · refine lv_aload_n C.1 C.2.1 dX2_placesOf_48 rfl (lv_at hl 1 rfl) ?_
              refine lv_iload_n C.1 C.2.1 dX2_placesOf_49 rfl (lv_at hl 2 rfl) ?_
              refine zt_call C B V hA (c_J4_append_bf812 l D cB (x3) ((n)) (k) (by first | assumption | omega | rfl | exact decide_eq_false (by omega) | exact decide_eq_true (by assumption) | exact decide_eq_true (by omega) | exact one_shl33 (by omega) | exact pm_lt _ _ | exact rm_lt (by first | assumption | exact pm_lt _ _) | exact Nat.lt_of_le_of_lt (Nat.shiftRight_le _ _) (by assumption) | exact Nat.lt_of_le_of_lt Nat.and_le_right (by omega)) (by first | assumption | omega | rfl | exact decide_eq_false (by omega) | exact decide_eq_true (by assumption) | exact decide_eq_true (by omega) | exact one_shl33 (by omega) | exact pm_lt _ _ | exact rm_lt (by first | assumption | exact pm_lt _ _) | exact Nat.lt_of_le_of_lt (Nat.shiftRight_le _ _) (by assumption) | exact Nat.lt_of_le_of_lt Nat.and_le_right (by omega)) (by first | assumption | omega | rfl | exact decide_eq_false (by omega) | exact decide_eq_true (by assumption) | exact decide_eq_true (by omega) | exact one_shl33 (by omega) | exact pm_lt _ _ | exact rm_lt (by first | assumption | exact pm_lt _ _) | exact Nat.lt_of_le_of_lt (Nat.shiftRight_le _ _) (by assumption) | exact Nat.lt_of_le_of_lt Nat.and_le_right (by omega))) ml_X2_30 (C.2.2.2.2 _ (T0_of zi_J4_append_bf812.2.1 rfl)) ⟨Nat.le_of_ble_eq_true rfl, Nat.le_of_ble_eq_true rfl⟩ ⟨by show (ce + 0) + 1 ≤ 72; omega, by show (sl + 0) + 520 ≤ 34864; omega⟩ hl (Nat.le_of_ble_eq_true rfl) rfl dX2_placesOf_50 (fun v50 k50 H locs hp50 B hq => ?_)
              have hp50 : ((n)) + (ssz (x3)).toNat ≤ (k50) ∧ (k50) ≤ 2 * (((n)) + (ssz (x3)).toNat) + 16 := hp50
              have q50_0 := ssz_rng (x3)
              refine lv_pop C.1 C.2.1 dX2_placesOf_53 rfl ?_
              refine z_iinc (j := 2) (lv' := [(3, .int (iZ (x3 + (-1)))), (0, .long (lN (x))), (2, .ref b)]) C dX2_placesOf_54 hl rfl (by decide) rfl (fun ls hl => ?_)
              refine lv_goto (tgt := 22) C.1 C.2.1 dX2_placesOf_57 (by decide) ?_
              obtain ⟨j1, rfl⟩ : ∃ g, j0 = g + 1 := ⟨j0 - 1, by omega⟩
              exact ih22 (j1) (v50) (((n)) + (ssz (x3)).toNat) (k50) (((ce + 0) + 1)) (((sl + 0) + 520)) _ _ _ _ (by omega) (by omega) (by omega) (by omega) (by omega) (by omega) (by omega) B (lv_sub hl [1, 2, 0] rfl)
            · refine lv_aload_n C.1 C.2.1 dX2_placesOf_41 rfl (lv_at hl 1 rfl) ?_
              refine z_bipush C dX2_placesOf_42 (by decide) ?_
              refine zt_call C B V hA (c_J4_append_cf468 l D cB (32 : Int) ((n)) (k) (by first | assumption | omega | rfl | exact decide_eq_false (by omega) | exact decide_eq_true (by assumption) | exact decide_eq_true (by omega) | exact one_shl33 (by omega) | exact pm_lt _ _ | exact rm_lt (by first | assumption | exact pm_lt _ _) | exact Nat.lt_of_le_of_lt (Nat.shiftRight_le _ _) (by assumption) | exact Nat.lt_of_le_of_lt Nat.and_le_right (by omega)) (by first | assumption | omega | rfl | exact decide_eq_false (by omega) | exact decide_eq_true (by assumption) | exact decide_eq_true (by omega) | exact one_shl33 (by omega) | exact pm_lt _ _ | exact rm_lt (by first | assumption | exact pm_lt _ _) | exact Nat.lt_of_le_of_lt (Nat.shiftRight_le _ _) (by assumption) | exact Nat.lt_of_le_of_lt Nat.and_le_right (by omega)) (by first | assumption | omega | rfl | exact decide_eq_false (by omega) | exact decide_eq_true (by assumption) | exact decide_eq_true (by omega) | exact one_shl33 (by omega) | exact pm_lt _ _ | exact rm_lt (by first | assumption | exact pm_lt _ _) | exact Nat.lt_of_le_of_lt (Nat.shiftRight_le _ _) (by assumption) | exact Nat.lt_of_le_of_lt Nat.and_le_right (by omega))) ml_X2_26 (C.2.2.2.2 _ (T0_of zi_J4_append_cf468.2.1 rfl)) ⟨Nat.le_of_ble_eq_true rfl, Nat.le_of_ble_eq_true rfl⟩ ⟨by show (ce + 0) + 1 ≤ 72; omega, by show (sl + 0) + 520 ≤ 34864; omega⟩ hl (Nat.le_of_ble_eq_true rfl) rfl dX2_placesOf_44 (fun v44 k44 H locs hp44 B hq => ?_)
              have hp44 : ((n)) + 1 ≤ (k44) ∧ (k44) ≤ 2 * (((n)) + 1) + 16 := hp44
              refine lv_pop C.1 C.2.1 dX2_placesOf_47 rfl ?_
              refine lv_aload_n C.1 C.2.1 dX2_placesOf_48 rfl (lv_at hl 1 rfl) ?_
              refine lv_iload_n C.1 C.2.1 dX2_placesOf_49 rfl (lv_at hl 2 rfl) ?_
              refine zt_call C B V hA (c_J4_append_bf812 l D cB (x3) (((n)) + 1) (k44) (by first | assumption | omega | rfl | exact decide_eq_false (by omega) | exact decide_eq_true (by assumption) | exact decide_eq_true (by omega) | exact one_shl33 (by omega) | exact pm_lt _ _ | exact rm_lt (by first | assumption | exact pm_lt _ _) | exact Nat.lt_of_le_of_lt (Nat.shiftRight_le _ _) (by assumption) | exact Nat.lt_of_le_of_lt Nat.and_le_right (by omega)) (by first | assumption | omega | rfl | exact decide_eq_false (by omega) | exact decide_eq_true (by assumption) | exact decide_eq_true (by omega) | exact one_shl33 (by omega) | exact pm_lt _ _ | exact rm_lt (by first | assumption | exact pm_lt _ _) | exact Nat.lt_of_le_of_lt (Nat.shiftRight_le _ _) (by assumption) | exact Nat.lt_of_le_of_lt Nat.and_le_right (by omega)) (by first | assumption | omega | rfl | exact decide_eq_false (by omega) | exact decide_eq_true (by assumption) | exact decide_eq_true (by omega) | exact one_shl33 (by omega) | exact pm_lt _ _ | exact rm_lt (by first | assumption | exact pm_lt _ _) | exact Nat.lt_of_le_of_lt (Nat.shiftRight_le _ _) (by assumption) | exact Nat.lt_of_le_of_lt Nat.and_le_right (by omega))) ml_X2_30 (C.2.2.2.2 _ (T0_of zi_J4_append_bf812.2.1 rfl)) ⟨Nat.le_of_ble_eq_true rfl, Nat.le_of_ble_eq_true rfl⟩ ⟨by show ((ce + 0) + 1) + 1 ≤ 72; omega, by show ((sl + 0) + 520) + 520 ≤ 34864; omega⟩ hl (Nat.le_of_ble_eq_true rfl) rfl dX2_placesOf_50 (fun v50 k50 H locs hp50 B hq => ?_)
              have hp50 : (((n)) + 1) + (ssz (x3)).toNat ≤ (k50) ∧ (k50) ≤ 2 * ((((n)) + 1) + (ssz (x3)).toNat) + 16 := hp50
              have q50_0 := ssz_rng (x3)
              refine lv_pop C.1 C.2.1 dX2_placesOf_53 rfl ?_
              refine z_iinc (j := 2) (lv' := [(3, .int (iZ (x3 + (-1)))), (0, .long (lN (x))), (2, .ref b)]) C dX2_placesOf_54 hl rfl (by decide) rfl (fun ls hl => ?_)
              refine lv_goto (tgt := 22) C.1 C.2.1 dX2_placesOf_57 (by decide) ?_
              obtain ⟨j1, rfl⟩ : ∃ g, j0 = g + 1 := ⟨j0 - 1, by omega⟩
              exact ih22 (j1) (v50) ((((n)) + 1) + (ssz (x3)).toNat) (k50) ((((ce + 0) + 1) + 1)) ((((sl + 0) + 520) + 520)) _ _ _ _ (by omega) (by omega) (by omega) (by omega) (by omega) (by omega) (by omega) B (lv_sub hl [1, 2, 0] rfl)
    have ht := tp33.mp hx
    have ht2 := tp_ge x
    exact L22 _ ((tp x + 1).toNat) (v) (0) (16) ((0 + 2)) ((0 + 20)) _ _ _ _ (by exact Nat.lt_succ_self _) (by omega) (by omega) (by omega) (by omega) (by omega) (by omega) B (lv_sub hl [2, 1, 0] rfl)
  · refine zt_ldc C V.t.1 dX2_placesOf_6 (fun q => ?_)
    exact zt_aret C S hr hk (Nat.le_of_ble_eq_true rfl) (Nat.le_of_ble_eq_true rfl) dX2_placesOf_8

set_option maxHeartbeats 4000000 in
set_option maxRecDepth 100000 in
theorem c_X2_numberIn (l : Launch) (D : va_G) (cB : ClassId) (x : Nat) (r : Int) (hx : x < 8589934592) (hr0 : 2 ≤ r ∧ r ≤ 36) : zTS l yX2_numberIn 6 191 70 33900 D cB [.long (lN (x)), .int (iZ (r))] := by
  refine zTS.intro (lo := 165) (nA := 2) (own := RX2) zs_X2_numberIn (by decide) rfl rfl (by decide +kernel) rfl (Nat.le_of_ble_eq_true rfl) ?_
  intro p e s m below meth c ls C hr hk K V S hl
  have hA : ∀ q, s.heap.size ≤ q → (fun z => s.heap.size ≤ z) q := fun _ h => h
  have hl : lv_has ls 7 [(0, .long (lN (x))), (2, .int (iZ (r)))] := hl
  refine lv_lload_n C.1 C.2.1 dX2_numberIn_0 rfl (lv_at hl 0 rfl) ?_
  refine z_lconst (k0 := 0) C dX2_numberIn_1 rfl ?_
  refine z_lc_le (tgt := 11) C (by first | assumption | omega | rfl | exact decide_eq_false (by omega) | exact decide_eq_true (by assumption) | exact decide_eq_true (by omega) | exact one_shl33 (by omega) | exact pm_lt _ _ | exact rm_lt (by first | assumption | exact pm_lt _ _) | exact Nat.lt_of_le_of_lt (Nat.shiftRight_le _ _) (by assumption) | exact Nat.lt_of_le_of_lt Nat.and_le_right (by omega)) (by first | assumption | omega | rfl | exact decide_eq_false (by omega) | exact decide_eq_true (by assumption) | exact decide_eq_true (by omega) | exact one_shl33 (by omega) | exact pm_lt _ _ | exact rm_lt (by first | assumption | exact pm_lt _ _) | exact Nat.lt_of_le_of_lt (Nat.shiftRight_le _ _) (by assumption) | exact Nat.lt_of_le_of_lt Nat.and_le_right (by omega)) dX2_numberIn_2 dX2_numberIn_3 (by decide) (fun h2 => ?_) (fun h2 => ?_)
  · refine zt_ldc C V.t.2.1 dX2_numberIn_11 (fun q => ?_)
    exact zt_aret C S hr hk (Nat.le_of_ble_eq_true rfl) (Nat.le_of_ble_eq_true rfl) dX2_numberIn_13
  · refine lv_iload_n C.1 C.2.1 dX2_numberIn_6 rfl (lv_at hl 1 rfl) ?_
    refine z_iconst C dX2_numberIn_7 ?_
    refine z_icmp_ge (tgt := 14) C (by omega) (by omega) dX2_numberIn_8 (by decide) (fun h8 => ?_) (fun h8 => ?_)
    · refine zt_new C K V S hA cl_X2_9 ml_X2_11 ⟨Nat.le_of_ble_eq_true rfl, Nat.le_of_ble_eq_true rfl⟩ ⟨Nat.le_of_ble_eq_true rfl, Nat.le_of_ble_eq_true rfl⟩ hl (Nat.le_of_ble_eq_true rfl) dX2_numberIn_14 dX2_numberIn_17 dX2_numberIn_18 (fun b v H locs B hq => ?_)
      refine lv_astore_n (lv' := [(3, .ref b), (0, .long (lN (x))), (2, .int (iZ (r)))]) C.1 C.2.1 dX2_numberIn_21 rfl hl (by decide) rfl (fun ls hl => ?_)
      refine lv_lload_n C.1 C.2.1 dX2_numberIn_22 rfl (lv_at hl 1 rfl) ?_
      refine lv_lstore (lv' := [(4, .long (lN (x))), (3, .ref b), (0, .long (lN (x))), (2, .int (iZ (r)))]) C.1 C.2.1 dX2_numberIn_23 hl (by decide) rfl (fun ls hl => ?_)
      refine z_iconst C dX2_numberIn_25 ?_
      refine lv_istore (lv' := [(6, .int (iZ (0))), (4, .long (lN (x))), (3, .ref b), (0, .long (lN (x))), (2, .int (iZ (r)))]) C.1 C.2.1 dX2_numberIn_26 hl (by decide) rfl (fun ls hl => ?_)
      have L28 : ∀ (j : Nat) (v : Nat) (n : Nat) (k : Nat) (ce : Nat) (sl : Nat) (x4 : Nat) (x6 : Int) (H : Heap) (locs : List Loc) (ls : Array Slot), 64 - n < j → (x6 = (n : Int)) → (n ≤ 64) → (x4 < 8589934592) → (n ≤ k ∧ k ≤ 2 * n + 16) → (ce = 2 + n) → (sl = 20 + 520 * n) → (zTn (fun z => s.heap.size ≤ z) D cB b v n k s H locs) → lv_has ls 7 [(0, .long (lN (x))), (2, .int (iZ (r))), (3, .ref b), (4, .long (lN (x4))), (6, .int (iZ (x6)))] → W p l e { frames := 6, cells := 70, slots := 33900, locals := 165 } s m ([.long (lN (x)), .int (iZ (r))] : List Value).toArray below meth c H locs ce sl (zT1 below ([.long (lN (x)), .int (iZ (r))] : List Value).toArray s 70 33900) (F0 m 28 ls []) := by
        intro j
        induction j with
        | zero => intro v n k ce sl x4 x6 H locs ls hmu; exact absurd hmu (Nat.not_lt_zero _)
        | succ j ih28 =>
          intro v n k ce sl x4 x6 H locs ls hmu i28_0 i28_1 i28_2 i28_3 i28_4 i28_5 B hl
          refine lv_iload C.1 C.2.1 dX2_numberIn_28 (lv_at hl 4 rfl) ?_
          refine z_bipush C dX2_numberIn_30 (by decide) ?_
          refine z_icmp_ge (tgt := 69) C (by omega) (by omega) dX2_numberIn_32 (by decide) (fun h32 => ?_) (fun h32 => ?_)
          · refine lv_aload_n C.1 C.2.1 dX2_numberIn_69 rfl (lv_at hl 2 rfl) ?_
            refine zt_call C B V hA (c_J4_reverse_43fcb l D cB  (n) (k) (by first | assumption | omega | rfl | exact decide_eq_false (by omega) | exact decide_eq_true (by assumption) | exact decide_eq_true (by omega) | exact one_shl33 (by omega) | exact pm_lt _ _ | exact rm_lt (by first | assumption | exact pm_lt _ _) | exact Nat.lt_of_le_of_lt (Nat.shiftRight_le _ _) (by assumption) | exact Nat.lt_of_le_of_lt Nat.and_le_right (by omega))) ml_X2_45 (C.2.2.2.2 _ (T0_of zi_J4_reverse_43fcb.2.1 rfl)) ⟨Nat.le_of_ble_eq_true rfl, Nat.le_of_ble_eq_true rfl⟩ ⟨by show ce + 0 ≤ 70; omega, by show sl + 0 ≤ 33900; omega⟩ hl (Nat.le_of_ble_eq_true rfl) rfl dX2_numberIn_70 (fun v70 k70 H locs hp70 B hq => ?_)
            obtain ⟨rfl, rfl⟩ := hp70
            refine zt_str C B V hA (c_J4_toString_0e30d l D cB ((n)) (k) (by omega)) ml_X2_33 ⟨Nat.le_of_ble_eq_true rfl, Nat.le_of_ble_eq_true rfl⟩ ⟨by show (ce + 0) + 2 ≤ 70; omega, by show (sl + 0) + 524 ≤ 33900; omega⟩ hl (Nat.le_of_ble_eq_true rfl) dX2_numberIn_73 (fun q H locs S hq => ?_)
            exact zt_aret C S hr hk (by omega) (by omega) dX2_numberIn_76
          · refine lv_lload C.1 C.2.1 dX2_numberIn_35 (lv_at hl 3 rfl) ?_
            refine z_lconst (k0 := 0) C dX2_numberIn_37 rfl ?_
            refine z_lc_le (tgt := 69) C (by first | assumption | omega | rfl | exact decide_eq_false (by omega) | exact decide_eq_true (by assumption) | exact decide_eq_true (by omega) | exact one_shl33 (by omega) | exact pm_lt _ _ | exact rm_lt (by first | assumption | exact pm_lt _ _) | exact Nat.lt_of_le_of_lt (Nat.shiftRight_le _ _) (by assumption) | exact Nat.lt_of_le_of_lt Nat.and_le_right (by omega)) (by first | assumption | omega | rfl | exact decide_eq_false (by omega) | exact decide_eq_true (by assumption) | exact decide_eq_true (by omega) | exact one_shl33 (by omega) | exact pm_lt _ _ | exact rm_lt (by first | assumption | exact pm_lt _ _) | exact Nat.lt_of_le_of_lt (Nat.shiftRight_le _ _) (by assumption) | exact Nat.lt_of_le_of_lt Nat.and_le_right (by omega)) dX2_numberIn_38 dX2_numberIn_39 (by decide) (fun h38 => ?_) (fun h38 => ?_)
            · refine lv_aload_n C.1 C.2.1 dX2_numberIn_69 rfl (lv_at hl 2 rfl) ?_
              refine zt_call C B V hA (c_J4_reverse_43fcb l D cB  (n) (k) (by first | assumption | omega | rfl | exact decide_eq_false (by omega) | exact decide_eq_true (by assumption) | exact decide_eq_true (by omega) | exact one_shl33 (by omega) | exact pm_lt _ _ | exact rm_lt (by first | assumption | exact pm_lt _ _) | exact Nat.lt_of_le_of_lt (Nat.shiftRight_le _ _) (by assumption) | exact Nat.lt_of_le_of_lt Nat.and_le_right (by omega))) ml_X2_45 (C.2.2.2.2 _ (T0_of zi_J4_reverse_43fcb.2.1 rfl)) ⟨Nat.le_of_ble_eq_true rfl, Nat.le_of_ble_eq_true rfl⟩ ⟨by show ce + 0 ≤ 70; omega, by show sl + 0 ≤ 33900; omega⟩ hl (Nat.le_of_ble_eq_true rfl) rfl dX2_numberIn_70 (fun v70 k70 H locs hp70 B hq => ?_)
              obtain ⟨rfl, rfl⟩ := hp70
              refine zt_str C B V hA (c_J4_toString_0e30d l D cB ((n)) (k) (by omega)) ml_X2_33 ⟨Nat.le_of_ble_eq_true rfl, Nat.le_of_ble_eq_true rfl⟩ ⟨by show (ce + 0) + 2 ≤ 70; omega, by show (sl + 0) + 524 ≤ 33900; omega⟩ hl (Nat.le_of_ble_eq_true rfl) dX2_numberIn_73 (fun q H locs S hq => ?_)
              exact zt_aret C S hr hk (by omega) (by omega) dX2_numberIn_76
            · refine lv_aload_n C.1 C.2.1 dX2_numberIn_42 rfl (lv_at hl 2 rfl) ?_
              have hm9 := Nat.mod_lt x4 (y := r.toNat) (by omega)
              refine lv_lload C.1 C.2.1 dX2_numberIn_43 (lv_at hl 3 rfl) ?_
              refine lv_iload_n C.1 C.2.1 dX2_numberIn_45 rfl (lv_at hl 1 rfl) ?_
              refine z_i2l C ((r).toNat) (by omega) (by omega) dX2_numberIn_46 ?_
              refine z_lrem C (by omega) (by omega) dX2_numberIn_47 ?_
              refine z_l2i C dX2_numberIn_48 ?_
              refine z_call C (c_X2_signOf l ((((x4) % ((r).toNat) : Nat) : Int)) (by first | assumption | omega | rfl | exact decide_eq_false (by omega) | exact decide_eq_true (by assumption) | exact decide_eq_true (by omega) | exact one_shl33 (by omega) | exact pm_lt _ _ | exact rm_lt (by first | assumption | exact pm_lt _ _) | exact Nat.lt_of_le_of_lt (Nat.shiftRight_le _ _) (by assumption) | exact Nat.lt_of_le_of_lt Nat.and_le_right (by omega))) ml_X2_39 ⟨by decide, by decide⟩ ⟨by show ce + 0 ≤ 70; omega, by show sl + 0 ≤ 33900; omega⟩ hl (Nat.le_of_ble_eq_true rfl) rfl dX2_numberIn_49 ?_
              have q49_0 := sgn_rng ((((x4) % ((r).toNat) : Nat) : Int)) (by first | assumption | omega)
              refine zt_call C B V hA (c_J4_append_cf468 l D cB (sgn ((((x4) % ((r).toNat) : Nat) : Int))) (n) (k) (by first | assumption | omega | rfl | exact decide_eq_false (by omega) | exact decide_eq_true (by assumption) | exact decide_eq_true (by omega) | exact one_shl33 (by omega) | exact pm_lt _ _ | exact rm_lt (by first | assumption | exact pm_lt _ _) | exact Nat.lt_of_le_of_lt (Nat.shiftRight_le _ _) (by assumption) | exact Nat.lt_of_le_of_lt Nat.and_le_right (by omega)) (by first | assumption | omega | rfl | exact decide_eq_false (by omega) | exact decide_eq_true (by assumption) | exact decide_eq_true (by omega) | exact one_shl33 (by omega) | exact pm_lt _ _ | exact rm_lt (by first | assumption | exact pm_lt _ _) | exact Nat.lt_of_le_of_lt (Nat.shiftRight_le _ _) (by assumption) | exact Nat.lt_of_le_of_lt Nat.and_le_right (by omega)) (by first | assumption | omega | rfl | exact decide_eq_false (by omega) | exact decide_eq_true (by assumption) | exact decide_eq_true (by omega) | exact one_shl33 (by omega) | exact pm_lt _ _ | exact rm_lt (by first | assumption | exact pm_lt _ _) | exact Nat.lt_of_le_of_lt (Nat.shiftRight_le _ _) (by assumption) | exact Nat.lt_of_le_of_lt Nat.and_le_right (by omega))) ml_X2_26 (C.2.2.2.2 _ (T0_of zi_J4_append_cf468.2.1 rfl)) ⟨Nat.le_of_ble_eq_true rfl, Nat.le_of_ble_eq_true rfl⟩ ⟨by show ce + 1 ≤ 70; omega, by show sl + 520 ≤ 33900; omega⟩ hl (Nat.le_of_ble_eq_true rfl) rfl dX2_numberIn_52 (fun v52 k52 H locs hp52 B hq => ?_)
              have hp52 : (n) + 1 ≤ (k52) ∧ (k52) ≤ 2 * ((n) + 1) + 16 := hp52
              refine lv_pop C.1 C.2.1 dX2_numberIn_55 rfl ?_
              refine lv_lload C.1 C.2.1 dX2_numberIn_56 (lv_at hl 3 rfl) ?_
              refine lv_iload_n C.1 C.2.1 dX2_numberIn_58 rfl (lv_at hl 1 rfl) ?_
              refine z_i2l C ((r).toNat) (by omega) (by omega) dX2_numberIn_59 ?_
              refine z_ldiv C (by omega) (by omega) dX2_numberIn_60 ?_
              refine lv_lstore (lv' := [(4, .long (lN ((x4) / ((r).toNat)))), (0, .long (lN (x))), (2, .int (iZ (r))), (3, .ref b), (6, .int (iZ (x6)))]) C.1 C.2.1 dX2_numberIn_61 hl (by decide) rfl (fun ls hl => ?_)
              refine z_iinc (j := 4) (lv' := [(6, .int (iZ (x6 + 1))), (4, .long (lN ((x4) / ((r).toNat)))), (0, .long (lN (x))), (2, .int (iZ (r))), (3, .ref b)]) C dX2_numberIn_63 hl rfl (by decide) rfl (fun ls hl => ?_)
              refine lv_goto (tgt := 28) C.1 C.2.1 dX2_numberIn_66 (by decide) ?_
              exact ih28 (v52) ((n) + 1) (k52) ((ce + 1)) ((sl + 520)) _ _ _ _ _ (by omega) (by omega) (by omega) (by exact Nat.lt_of_le_of_lt (Nat.div_le_self _ _) (by omega)) (by omega) (by omega) (by omega) B (lv_sub hl [2, 3, 4, 1, 0] rfl)
      exact L28 _ (v) (0) (16) ((0 + 2)) ((0 + 20)) _ _ _ _ _ (by exact Nat.lt_succ_self _) (by rfl) (by omega) (by exact hx) (by omega) (by rfl) (by rfl) B (lv_sub hl [3, 4, 2, 1, 0] rfl)
    · exfalso; omega

set_option maxHeartbeats 4000000 in
set_option maxRecDepth 100000 in
theorem c_X0_factorsOf (l : Launch) (D : va_G) (cB : ClassId) (x : Nat) (hx : 1 ≤ x ∧ x < 512) : zTS l yX0_factorsOf 6 191 24 10000 D cB [.long (lN (x))] := by
  refine zTS.intro (lo := 165) (nA := 1) (own := RX0) zs_X0_factorsOf (by decide) rfl rfl (by decide +kernel) rfl (Nat.le_of_ble_eq_true rfl) ?_
  intro p e s m below meth c ls C hr hk K V S hl
  have hA : ∀ q, s.heap.size ≤ q → (fun z => s.heap.size ≤ z) q := fun _ h => h
  have hl : lv_has ls 7 [(0, .long (lN (x)))] := hl
  refine zt_new C K V S hA cl_X0_39 ml_X0_41 ⟨Nat.le_of_ble_eq_true rfl, Nat.le_of_ble_eq_true rfl⟩ ⟨Nat.le_of_ble_eq_true rfl, Nat.le_of_ble_eq_true rfl⟩ hl (Nat.le_of_ble_eq_true rfl) dX0_factorsOf_0 dX0_factorsOf_3 dX0_factorsOf_4 (fun b v H locs B hq => ?_)
  refine lv_astore_n (lv' := [(2, .ref b), (0, .long (lN (x)))]) C.1 C.2.1 dX0_factorsOf_7 rfl hl (by decide) rfl (fun ls hl => ?_)
  refine lv_lload_n C.1 C.2.1 dX0_factorsOf_8 rfl (lv_at hl 1 rfl) ?_
  refine lv_lstore_n (lv' := [(3, .long (lN (x))), (2, .ref b), (0, .long (lN (x)))]) C.1 C.2.1 dX0_factorsOf_9 rfl hl (by decide) rfl (fun ls hl => ?_)
  refine z_iconst C dX0_factorsOf_10 ?_
  refine lv_istore (lv' := [(5, .int (iZ (2))), (3, .long (lN (x))), (2, .ref b), (0, .long (lN (x)))]) C.1 C.2.1 dX0_factorsOf_11 hl (by decide) rfl (fun ls hl => ?_)
  have L13 : ∀ (j : Nat) (v : Nat) (n : Nat) (k : Nat) (ce : Nat) (sl : Nat) (x3 : Nat) (x5 : Int) (H : Heap) (locs : List Loc) (ls : Array Slot), (512 - x5).toNat < j → (2 ≤ x5 ∧ x5 ≤ 512) → (x3 < 512) → ((n : Int) + 4 * tp x3 ≤ 32) → (n ≤ k ∧ k ≤ 2 * n + 16) → ((ce : Int) + 2 * tp x3 ≤ 18) → ((sl : Int) + 1040 * tp x3 ≤ 8340) → (zTn (fun z => s.heap.size ≤ z) D cB b v n k s H locs) → lv_has ls 7 [(0, .long (lN (x))), (2, .ref b), (3, .long (lN (x3))), (5, .int (iZ (x5)))] → W p l e { frames := 6, cells := 24, slots := 10000, locals := 165 } s m ([.long (lN (x))] : List Value).toArray below meth c H locs ce sl (zT1 below ([.long (lN (x))] : List Value).toArray s 24 10000) (F0 m 13 ls []) := by
    intro j
    induction j with
    | zero => intro v n k ce sl x3 x5 H locs ls hmu; exact absurd hmu (Nat.not_lt_zero _)
    | succ j ih13 =>
      intro v n k ce sl x3 x5 H locs ls hmu i13_0 i13_1 i13_2 i13_3 i13_4 i13_5 B hl
      have ht2 := tp_ge x3
      refine lv_iload C.1 C.2.1 dX0_factorsOf_13 (lv_at hl 3 rfl) ?_
      refine z_sipush C dX0_factorsOf_15 (by decide) ?_
      refine z_icmp_ge (tgt := 88) C (by omega) (by omega) dX0_factorsOf_18 (by decide) (fun h18 => ?_) (fun h18 => ?_)
      · refine lv_aload_n C.1 C.2.1 dX0_factorsOf_88 rfl (lv_at hl 1 rfl) ?_
        refine zt_str C B V hA (c_J4_toString_0e30d l D cB (n) (k) (by omega)) ml_X0_56 ⟨Nat.le_of_ble_eq_true rfl, Nat.le_of_ble_eq_true rfl⟩ ⟨by show ce + 2 ≤ 24; omega, by show sl + 524 ≤ 10000; omega⟩ hl (Nat.le_of_ble_eq_true rfl) dX0_factorsOf_89 (fun q H locs S hq => ?_)
        exact zt_aret C S hr hk (by omega) (by omega) dX0_factorsOf_92
      · refine z_iconst C dX0_factorsOf_21 ?_
        refine lv_istore (lv' := [(6, .int (iZ (0))), (0, .long (lN (x))), (2, .ref b), (3, .long (lN (x3))), (5, .int (iZ (x5)))]) C.1 C.2.1 dX0_factorsOf_22 hl (by decide) rfl (fun ls hl => ?_)
        have L24 : ∀ (j : Nat) (v : Nat) (n : Nat) (k : Nat) (ce : Nat) (sl : Nat) (x3 : Nat) (x6 : Int) (H : Heap) (locs : List Loc) (ls : Array Slot), (64 - x6).toNat < j → (0 ≤ x6 ∧ x6 ≤ 64) → (x3 < 512) → ((n : Int) + 4 * tp x3 ≤ 32) → (n ≤ k ∧ k ≤ 2 * n + 16) → ((ce : Int) + 2 * tp x3 ≤ 18) → ((sl : Int) + 1040 * tp x3 ≤ 8340) → (zTn (fun z => s.heap.size ≤ z) D cB b v n k s H locs) → lv_has ls 7 [(0, .long (lN (x))), (2, .ref b), (3, .long (lN (x3))), (5, .int (iZ (x5))), (6, .int (iZ (x6)))] → W p l e { frames := 6, cells := 24, slots := 10000, locals := 165 } s m ([.long (lN (x))] : List Value).toArray below meth c H locs ce sl (zT1 below ([.long (lN (x))] : List Value).toArray s 24 10000) (F0 m 24 ls []) := by
          intro j
          induction j with
          | zero => intro v n k ce sl x3 x6 H locs ls hmu; exact absurd hmu (Nat.not_lt_zero _)
          | succ j ih24 =>
            intro v n k ce sl x3 x6 H locs ls hmu i24_0 i24_1 i24_2 i24_3 i24_4 i24_5 B hl
            have ht2 := tp_ge x3
            refine lv_iload C.1 C.2.1 dX0_factorsOf_24 (lv_at hl 4 rfl) ?_
            refine z_bipush C dX0_factorsOf_26 (by decide) ?_
            refine z_icmp_ge (tgt := 82) C (by omega) (by omega) dX0_factorsOf_28 (by decide) (fun h28 => ?_) (fun h28 => ?_)
            · refine z_iinc (j := 3) (lv' := [(5, .int (iZ (x5 + 1))), (0, .long (lN (x))), (2, .ref b), (3, .long (lN (x3))), (6, .int (iZ (x6)))]) C dX0_factorsOf_82 hl rfl (by decide) rfl (fun ls hl => ?_)
              refine lv_goto (tgt := 13) C.1 C.2.1 dX0_factorsOf_85 (by decide) ?_
              exact ih13 (v) (n) (k) (ce) (sl) _ _ _ _ _ (by omega) (by omega) (by omega) (by omega) (by omega) (by omega) (by omega) B (lv_sub hl [1, 2, 3, 0] rfl)
            · refine lv_lload_n C.1 C.2.1 dX0_factorsOf_31 rfl (lv_at hl 2 rfl) ?_
              refine z_lconst (k0 := 1) C dX0_factorsOf_32 rfl ?_
              refine z_lc_le (tgt := 82) C (by first | assumption | omega | rfl | exact decide_eq_false (by omega) | exact decide_eq_true (by assumption) | exact decide_eq_true (by omega) | exact one_shl33 (by omega) | exact pm_lt _ _ | exact rm_lt (by first | assumption | exact pm_lt _ _) | exact Nat.lt_of_le_of_lt (Nat.shiftRight_le _ _) (by assumption) | exact Nat.lt_of_le_of_lt Nat.and_le_right (by omega)) (by first | assumption | omega | rfl | exact decide_eq_false (by omega) | exact decide_eq_true (by assumption) | exact decide_eq_true (by omega) | exact one_shl33 (by omega) | exact pm_lt _ _ | exact rm_lt (by first | assumption | exact pm_lt _ _) | exact Nat.lt_of_le_of_lt (Nat.shiftRight_le _ _) (by assumption) | exact Nat.lt_of_le_of_lt Nat.and_le_right (by omega)) dX0_factorsOf_33 dX0_factorsOf_34 (by decide) (fun h33 => ?_) (fun h33 => ?_)
              · refine z_iinc (j := 3) (lv' := [(5, .int (iZ (x5 + 1))), (0, .long (lN (x))), (2, .ref b), (3, .long (lN (x3))), (6, .int (iZ (x6)))]) C dX0_factorsOf_82 hl rfl (by decide) rfl (fun ls hl => ?_)
                refine lv_goto (tgt := 13) C.1 C.2.1 dX0_factorsOf_85 (by decide) ?_
                exact ih13 (v) (n) (k) (ce) (sl) _ _ _ _ _ (by omega) (by omega) (by omega) (by omega) (by omega) (by omega) (by omega) B (lv_sub hl [1, 2, 3, 0] rfl)
              · refine lv_iload C.1 C.2.1 dX0_factorsOf_37 (lv_at hl 3 rfl) ?_
                refine z_i2l C ((x5).toNat) (by omega) (by omega) dX0_factorsOf_39 ?_
                refine lv_lload_n C.1 C.2.1 dX0_factorsOf_40 rfl (lv_at hl 2 rfl) ?_
                refine z_call C (c_X1_isDivisor l ((x5).toNat) (x3) (by first | assumption | omega | rfl | exact decide_eq_false (by omega) | exact decide_eq_true (by assumption) | exact decide_eq_true (by omega) | exact one_shl33 (by omega) | exact pm_lt _ _ | exact rm_lt (by first | assumption | exact pm_lt _ _) | exact Nat.lt_of_le_of_lt (Nat.shiftRight_le _ _) (by assumption) | exact Nat.lt_of_le_of_lt Nat.and_le_right (by omega)) (by first | assumption | omega | rfl | exact decide_eq_false (by omega) | exact decide_eq_true (by assumption) | exact decide_eq_true (by omega) | exact one_shl33 (by omega) | exact pm_lt _ _ | exact rm_lt (by first | assumption | exact pm_lt _ _) | exact Nat.lt_of_le_of_lt (Nat.shiftRight_le _ _) (by assumption) | exact Nat.lt_of_le_of_lt Nat.and_le_right (by omega))) ml_X0_21 ⟨by decide, by decide⟩ ⟨by show ce + 0 ≤ 24; omega, by show sl + 0 ≤ 10000; omega⟩ hl (Nat.le_of_ble_eq_true rfl) rfl dX0_factorsOf_41 ?_
                refine z_ifB_eq (tgt := 82) C dX0_factorsOf_44 (by decide) (fun h44 => ?_) (fun h44 => ?_)
                · refine z_iinc (j := 3) (lv' := [(5, .int (iZ (x5 + 1))), (0, .long (lN (x))), (2, .ref b), (3, .long (lN (x3))), (6, .int (iZ (x6)))]) C dX0_factorsOf_82 hl rfl (by decide) rfl (fun ls hl => ?_)
                  refine lv_goto (tgt := 13) C.1 C.2.1 dX0_factorsOf_85 (by decide) ?_
                  exact ih13 (v) (n) (k) (ce) (sl) _ _ _ _ _ (by omega) (by omega) (by omega) (by omega) (by omega) (by omega) (by omega) B (lv_sub hl [1, 2, 3, 0] rfl)
                · have hg9 := tp_2 (p := x3) (by omega)
                  refine lv_aload_n C.1 C.2.1 dX0_factorsOf_47 rfl (lv_at hl 1 rfl) ?_
                  refine zt_call C B V hA (c_J4_length_8abf5 l D cB  (n) (k) ) ml_X0_42 (C.2.2.2.2 _ (T0_of zi_J4_length_8abf5.2.1 rfl)) ⟨Nat.le_of_ble_eq_true rfl, Nat.le_of_ble_eq_true rfl⟩ ⟨by show ce + 0 ≤ 24; omega, by show sl + 0 ≤ 10000; omega⟩ hl (Nat.le_of_ble_eq_true rfl) rfl dX0_factorsOf_48 (fun v48 k48 H locs hp48 B hq => ?_)
                  obtain ⟨rfl, rfl⟩ := hp48
                  refine z_if_le (tgt := 61) C (by omega) dX0_factorsOf_51 (by decide) (fun h51 => ?_) (fun h51 => ?_)
                  · refine lv_aload_n C.1 C.2.1 dX0_factorsOf_61 rfl (lv_at hl 1 rfl) ?_
                    refine lv_iload C.1 C.2.1 dX0_factorsOf_62 (lv_at hl 3 rfl) ?_
                    refine zt_call C B V hA (c_J4_append_bf812 l D cB (x5) ((n)) (k) (by first | assumption | omega | rfl | exact decide_eq_false (by omega) | exact decide_eq_true (by assumption) | exact decide_eq_true (by omega) | exact one_shl33 (by omega) | exact pm_lt _ _ | exact rm_lt (by first | assumption | exact pm_lt _ _) | exact Nat.lt_of_le_of_lt (Nat.shiftRight_le _ _) (by assumption) | exact Nat.lt_of_le_of_lt Nat.and_le_right (by omega)) (by first | assumption | omega | rfl | exact decide_eq_false (by omega) | exact decide_eq_true (by assumption) | exact decide_eq_true (by omega) | exact one_shl33 (by omega) | exact pm_lt _ _ | exact rm_lt (by first | assumption | exact pm_lt _ _) | exact Nat.lt_of_le_of_lt (Nat.shiftRight_le _ _) (by assumption) | exact Nat.lt_of_le_of_lt Nat.and_le_right (by omega)) (by first | assumption | omega | rfl | exact decide_eq_false (by omega) | exact decide_eq_true (by assumption) | exact decide_eq_true (by omega) | exact one_shl33 (by omega) | exact pm_lt _ _ | exact rm_lt (by first | assumption | exact pm_lt _ _) | exact Nat.lt_of_le_of_lt (Nat.shiftRight_le _ _) (by assumption) | exact Nat.lt_of_le_of_lt Nat.and_le_right (by omega))) ml_X0_50 (C.2.2.2.2 _ (T0_of zi_J4_append_bf812.2.1 rfl)) ⟨Nat.le_of_ble_eq_true rfl, Nat.le_of_ble_eq_true rfl⟩ ⟨by show (ce + 0) + 1 ≤ 24; omega, by show (sl + 0) + 520 ≤ 10000; omega⟩ hl (Nat.le_of_ble_eq_true rfl) rfl dX0_factorsOf_64 (fun v64 k64 H locs hp64 B hq => ?_)
                    have hp64 : ((n)) + (ssz (x5)).toNat ≤ (k64) ∧ (k64) ≤ 2 * (((n)) + (ssz (x5)).toNat) + 16 := hp64
                    have q64_0 := ssz_rng (x5)
                    refine lv_pop C.1 C.2.1 dX0_factorsOf_67 rfl ?_
                    refine lv_lload_n C.1 C.2.1 dX0_factorsOf_68 rfl (lv_at hl 2 rfl) ?_
                    refine lv_iload C.1 C.2.1 dX0_factorsOf_69 (lv_at hl 3 rfl) ?_
                    refine z_i2l C ((x5).toNat) (by omega) (by omega) dX0_factorsOf_71 ?_
                    refine z_call C (c_X1_quotientOf l (x3) ((x5).toNat) (by first | assumption | omega | rfl | exact decide_eq_false (by omega) | exact decide_eq_true (by assumption) | exact decide_eq_true (by omega) | exact one_shl33 (by omega) | exact pm_lt _ _ | exact rm_lt (by first | assumption | exact pm_lt _ _) | exact Nat.lt_of_le_of_lt (Nat.shiftRight_le _ _) (by assumption) | exact Nat.lt_of_le_of_lt Nat.and_le_right (by omega)) (by first | assumption | omega | rfl | exact decide_eq_false (by omega) | exact decide_eq_true (by assumption) | exact decide_eq_true (by omega) | exact one_shl33 (by omega) | exact pm_lt _ _ | exact rm_lt (by first | assumption | exact pm_lt _ _) | exact Nat.lt_of_le_of_lt (Nat.shiftRight_le _ _) (by assumption) | exact Nat.lt_of_le_of_lt Nat.and_le_right (by omega))) ml_X0_53 ⟨by decide, by decide⟩ ⟨by show ((ce + 0) + 1) + 0 ≤ 24; omega, by show ((sl + 0) + 520) + 0 ≤ 10000; omega⟩ hl (Nat.le_of_ble_eq_true rfl) rfl dX0_factorsOf_72 ?_
                    refine lv_lstore_n (lv' := [(3, .long (lN (qo (x3) ((x5).toNat)))), (0, .long (lN (x))), (2, .ref b), (5, .int (iZ (x5))), (6, .int (iZ (x6)))]) C.1 C.2.1 dX0_factorsOf_75 rfl hl (by decide) rfl (fun ls hl => ?_)
                    refine z_iinc (j := 4) (lv' := [(6, .int (iZ (x6 + 1))), (3, .long (lN (qo (x3) ((x5).toNat)))), (0, .long (lN (x))), (2, .ref b), (5, .int (iZ (x5)))]) C dX0_factorsOf_76 hl rfl (by decide) rfl (fun ls hl => ?_)
                    refine lv_goto (tgt := 24) C.1 C.2.1 dX0_factorsOf_79 (by decide) ?_
                    have hf := fq_rng (a := x3) (b := x5.toNat) (by omega) (by omega) (by omega)
                    exact ih24 (v64) (((n)) + (ssz (x5)).toNat) (k64) (((ce + 0) + 1)) (((sl + 0) + 520)) _ _ _ _ _ (by omega) (by omega) (by omega) (by omega) (by omega) (by omega) (by omega) B (lv_sub hl [2, 3, 1, 4, 0] rfl)
                  · refine lv_aload_n C.1 C.2.1 dX0_factorsOf_54 rfl (lv_at hl 1 rfl) ?_
                    refine z_bipush C dX0_factorsOf_55 (by decide) ?_
                    refine zt_call C B V hA (c_J4_append_cf468 l D cB (32 : Int) ((n)) (k) (by first | assumption | omega | rfl | exact decide_eq_false (by omega) | exact decide_eq_true (by assumption) | exact decide_eq_true (by omega) | exact one_shl33 (by omega) | exact pm_lt _ _ | exact rm_lt (by first | assumption | exact pm_lt _ _) | exact Nat.lt_of_le_of_lt (Nat.shiftRight_le _ _) (by assumption) | exact Nat.lt_of_le_of_lt Nat.and_le_right (by omega)) (by first | assumption | omega | rfl | exact decide_eq_false (by omega) | exact decide_eq_true (by assumption) | exact decide_eq_true (by omega) | exact one_shl33 (by omega) | exact pm_lt _ _ | exact rm_lt (by first | assumption | exact pm_lt _ _) | exact Nat.lt_of_le_of_lt (Nat.shiftRight_le _ _) (by assumption) | exact Nat.lt_of_le_of_lt Nat.and_le_right (by omega)) (by first | assumption | omega | rfl | exact decide_eq_false (by omega) | exact decide_eq_true (by assumption) | exact decide_eq_true (by omega) | exact one_shl33 (by omega) | exact pm_lt _ _ | exact rm_lt (by first | assumption | exact pm_lt _ _) | exact Nat.lt_of_le_of_lt (Nat.shiftRight_le _ _) (by assumption) | exact Nat.lt_of_le_of_lt Nat.and_le_right (by omega))) ml_X0_46 (C.2.2.2.2 _ (T0_of zi_J4_append_cf468.2.1 rfl)) ⟨Nat.le_of_ble_eq_true rfl, Nat.le_of_ble_eq_true rfl⟩ ⟨by show (ce + 0) + 1 ≤ 24; omega, by show (sl + 0) + 520 ≤ 10000; omega⟩ hl (Nat.le_of_ble_eq_true rfl) rfl dX0_factorsOf_57 (fun v57 k57 H locs hp57 B hq => ?_)
                    have hp57 : ((n)) + 1 ≤ (k57) ∧ (k57) ≤ 2 * (((n)) + 1) + 16 := hp57
                    refine lv_pop C.1 C.2.1 dX0_factorsOf_60 rfl ?_
                    refine lv_aload_n C.1 C.2.1 dX0_factorsOf_61 rfl (lv_at hl 1 rfl) ?_
                    refine lv_iload C.1 C.2.1 dX0_factorsOf_62 (lv_at hl 3 rfl) ?_
                    refine zt_call C B V hA (c_J4_append_bf812 l D cB (x5) (((n)) + 1) (k57) (by first | assumption | omega | rfl | exact decide_eq_false (by omega) | exact decide_eq_true (by assumption) | exact decide_eq_true (by omega) | exact one_shl33 (by omega) | exact pm_lt _ _ | exact rm_lt (by first | assumption | exact pm_lt _ _) | exact Nat.lt_of_le_of_lt (Nat.shiftRight_le _ _) (by assumption) | exact Nat.lt_of_le_of_lt Nat.and_le_right (by omega)) (by first | assumption | omega | rfl | exact decide_eq_false (by omega) | exact decide_eq_true (by assumption) | exact decide_eq_true (by omega) | exact one_shl33 (by omega) | exact pm_lt _ _ | exact rm_lt (by first | assumption | exact pm_lt _ _) | exact Nat.lt_of_le_of_lt (Nat.shiftRight_le _ _) (by assumption) | exact Nat.lt_of_le_of_lt Nat.and_le_right (by omega)) (by first | assumption | omega | rfl | exact decide_eq_false (by omega) | exact decide_eq_true (by assumption) | exact decide_eq_true (by omega) | exact one_shl33 (by omega) | exact pm_lt _ _ | exact rm_lt (by first | assumption | exact pm_lt _ _) | exact Nat.lt_of_le_of_lt (Nat.shiftRight_le _ _) (by assumption) | exact Nat.lt_of_le_of_lt Nat.and_le_right (by omega))) ml_X0_50 (C.2.2.2.2 _ (T0_of zi_J4_append_bf812.2.1 rfl)) ⟨Nat.le_of_ble_eq_true rfl, Nat.le_of_ble_eq_true rfl⟩ ⟨by show ((ce + 0) + 1) + 1 ≤ 24; omega, by show ((sl + 0) + 520) + 520 ≤ 10000; omega⟩ hl (Nat.le_of_ble_eq_true rfl) rfl dX0_factorsOf_64 (fun v64 k64 H locs hp64 B hq => ?_)
                    have hp64 : (((n)) + 1) + (ssz (x5)).toNat ≤ (k64) ∧ (k64) ≤ 2 * ((((n)) + 1) + (ssz (x5)).toNat) + 16 := hp64
                    have q64_0 := ssz_rng (x5)
                    refine lv_pop C.1 C.2.1 dX0_factorsOf_67 rfl ?_
                    refine lv_lload_n C.1 C.2.1 dX0_factorsOf_68 rfl (lv_at hl 2 rfl) ?_
                    refine lv_iload C.1 C.2.1 dX0_factorsOf_69 (lv_at hl 3 rfl) ?_
                    refine z_i2l C ((x5).toNat) (by omega) (by omega) dX0_factorsOf_71 ?_
                    refine z_call C (c_X1_quotientOf l (x3) ((x5).toNat) (by first | assumption | omega | rfl | exact decide_eq_false (by omega) | exact decide_eq_true (by assumption) | exact decide_eq_true (by omega) | exact one_shl33 (by omega) | exact pm_lt _ _ | exact rm_lt (by first | assumption | exact pm_lt _ _) | exact Nat.lt_of_le_of_lt (Nat.shiftRight_le _ _) (by assumption) | exact Nat.lt_of_le_of_lt Nat.and_le_right (by omega)) (by first | assumption | omega | rfl | exact decide_eq_false (by omega) | exact decide_eq_true (by assumption) | exact decide_eq_true (by omega) | exact one_shl33 (by omega) | exact pm_lt _ _ | exact rm_lt (by first | assumption | exact pm_lt _ _) | exact Nat.lt_of_le_of_lt (Nat.shiftRight_le _ _) (by assumption) | exact Nat.lt_of_le_of_lt Nat.and_le_right (by omega))) ml_X0_53 ⟨by decide, by decide⟩ ⟨by show (((ce + 0) + 1) + 1) + 0 ≤ 24; omega, by show (((sl + 0) + 520) + 520) + 0 ≤ 10000; omega⟩ hl (Nat.le_of_ble_eq_true rfl) rfl dX0_factorsOf_72 ?_
                    refine lv_lstore_n (lv' := [(3, .long (lN (qo (x3) ((x5).toNat)))), (0, .long (lN (x))), (2, .ref b), (5, .int (iZ (x5))), (6, .int (iZ (x6)))]) C.1 C.2.1 dX0_factorsOf_75 rfl hl (by decide) rfl (fun ls hl => ?_)
                    refine z_iinc (j := 4) (lv' := [(6, .int (iZ (x6 + 1))), (3, .long (lN (qo (x3) ((x5).toNat)))), (0, .long (lN (x))), (2, .ref b), (5, .int (iZ (x5)))]) C dX0_factorsOf_76 hl rfl (by decide) rfl (fun ls hl => ?_)
                    refine lv_goto (tgt := 24) C.1 C.2.1 dX0_factorsOf_79 (by decide) ?_
                    have hf := fq_rng (a := x3) (b := x5.toNat) (by omega) (by omega) (by omega)
                    exact ih24 (v64) ((((n)) + 1) + (ssz (x5)).toNat) (k64) ((((ce + 0) + 1) + 1)) ((((sl + 0) + 520) + 520)) _ _ _ _ _ (by omega) (by omega) (by omega) (by omega) (by omega) (by omega) (by omega) B (lv_sub hl [2, 3, 1, 4, 0] rfl)
        exact L24 _ (v) (n) (k) (ce) (sl) _ _ _ _ _ (by exact Nat.lt_succ_self _) (by omega) (by omega) (by omega) (by omega) (by omega) (by omega) B (lv_sub hl [1, 2, 3, 4, 0] rfl)
  have ht := (tp_le (n := x) (k := 8)).mpr (by omega)
  exact L13 _ (v) (0) (16) ((0 + 2)) ((0 + 20)) _ _ _ _ _ (by exact Nat.lt_succ_self _) (by omega) (by omega) (by omega) (by omega) (by omega) (by omega) B (lv_sub hl [3, 2, 1, 0] rfl)

end JD
