set_option maxHeartbeats 4000000 in
set_option maxRecDepth 100000 in
theorem c_X1_single (l : Launch) (z : Int) (hz : 0 ≤ z ∧ z < 64) : zP l yX1_single 0 20 [.int (iZ (z))] (.long (lN (1 <<< z.toNat))) := by
  refine zP.intro (lo := 0) (nA := 1) (own := RX1) zs_X1_single (by decide) rfl rfl (by decide +kernel) rfl (Nat.le_of_ble_eq_true rfl) ?_
  intro p e s m below meth c ls C hr hk hl
  have hl : lv_has ls 1 [(0, .int (iZ (z)))] := hl
  refine z_lconst (k0 := 1) C dX1_single_0 rfl ?_
  refine lv_iload_n C.1 C.2.1 dX1_single_1 rfl (lv_at hl 0 rfl) ?_
  refine z_lshl C ((z).toNat) (by omega) (by omega) dX1_single_2 ?_
  exact z_lret C hr hk dX1_single_3 (congrArg (fun z : Nat => Value.long (lN z)) (by rfl))

set_option maxHeartbeats 4000000 in
set_option maxRecDepth 100000 in
theorem c_X1_hasOne (l : Launch) (n : Nat) (z : Int) (hn : n < 18446744073709551616) (hz : -2147483648 ≤ z ∧ z ≤ 2147483647) : zP l yX1_hasOne 0 22 [.long (lN (n)), .int (iZ (z))] (.int (iZ (zB (tb n z)))) := by
  refine zP.intro (lo := 0) (nA := 2) (own := RX1) zs_X1_hasOne (by decide) rfl rfl (by decide +kernel) rfl (Nat.le_of_ble_eq_true rfl) ?_
  intro p e s m below meth c ls C hr hk hl
  have hl : lv_has ls 3 [(0, .long (lN (n))), (2, .int (iZ (z)))] := hl
  refine lv_iload_n C.1 C.2.1 dX1_hasOne_0 rfl (lv_at hl 1 rfl) ?_
  refine z_if_lt (tgt := 24) C (by omega) dX1_hasOne_1 (by decide) (fun h1 => ?_) (fun h1 => ?_)
  · refine z_iconst C dX1_hasOne_24 ?_
    exact z_zret C hr hk dX1_hasOne_25 (by decide) (congrArg (fun z : Int => Value.int (iZ z)) (by exact zB_f (tb_neg h1)))
  · refine lv_iload_n C.1 C.2.1 dX1_hasOne_4 rfl (lv_at hl 1 rfl) ?_
    refine z_bipush C dX1_hasOne_5 (by decide) ?_
    refine z_icmp_ge (tgt := 24) C (by omega) (by omega) dX1_hasOne_7 (by decide) (fun h7 => ?_) (fun h7 => ?_)
    · refine z_iconst C dX1_hasOne_24 ?_
      exact z_zret C hr hk dX1_hasOne_25 (by decide) (congrArg (fun z : Int => Value.int (iZ z)) (by exact zB_f (tb_ge h7)))
    · refine lv_lload_n C.1 C.2.1 dX1_hasOne_10 rfl (lv_at hl 0 rfl) ?_
      refine lv_iload_n C.1 C.2.1 dX1_hasOne_11 rfl (lv_at hl 1 rfl) ?_
      refine z_lushr C ((z).toNat) (by first | assumption | omega | rfl | exact decide_eq_false (by omega) | exact decide_eq_true (by assumption) | exact decide_eq_true (by omega) | exact one_shl33 (by omega) | exact pm_lt _ _ | exact rm_lt (by first | assumption | exact pm_lt _ _) | exact Nat.lt_of_le_of_lt (Nat.shiftRight_le _ _) (by assumption) | exact Nat.lt_of_le_of_lt Nat.and_le_right (by omega)) (by omega) (by omega) dX1_hasOne_12 ?_
      refine z_lconst (k0 := 1) C dX1_hasOne_13 rfl ?_
      refine z_land C dX1_hasOne_14 ?_
      refine z_lconst (k0 := 1) C dX1_hasOne_15 rfl ?_
      refine z_lc_ne (tgt := 24) C (by refine Nat.lt_of_le_of_lt Nat.and_le_right (by omega)) (by omega) dX1_hasOne_16 dX1_hasOne_17 (by decide) (fun h16 => ?_) (fun h16 => ?_)
      · refine z_iconst C dX1_hasOne_24 ?_
        exact z_zret C hr hk dX1_hasOne_25 (by decide) (congrArg (fun z : Int => Value.int (iZ z)) (by exact zB_f (by rw [tb_in (by omega) (by omega)]; exact (bit_and0 _ _).mp h16)))
      · refine z_iconst C dX1_hasOne_20 ?_
        refine lv_goto (tgt := 25) C.1 C.2.1 dX1_hasOne_21 (by decide) ?_
        exact z_zret C hr hk dX1_hasOne_25 (by decide) (congrArg (fun z : Int => Value.int (iZ z)) (by exact zB_t (by rw [tb_in (by omega) (by omega)]; exact (bit_and _ _).mp h16)))

set_option maxHeartbeats 4000000 in
set_option maxRecDepth 100000 in
theorem c_X1_topPlace (l : Launch) (n : Nat) (hn : n < 18446744073709551616) : zP l yX1_topPlace 0 23 [.long (lN (n))] (.int (iZ (tp n))) := by
  refine zP.intro (lo := 0) (nA := 1) (own := RX1) zs_X1_topPlace (by decide) rfl rfl (by decide +kernel) rfl (Nat.le_of_ble_eq_true rfl) ?_
  intro p e s m below meth c ls C hr hk hl
  have hl : lv_has ls 4 [(0, .long (lN (n)))] := hl
  refine z_iconst C dX1_topPlace_0 ?_
  refine lv_istore_n (lv' := [(2, .int (iZ (-1))), (0, .long (lN (n)))]) C.1 C.2.1 dX1_topPlace_1 rfl hl (by decide) rfl (fun ls hl => ?_)
  refine z_iconst C dX1_topPlace_2 ?_
  refine lv_istore_n (lv' := [(3, .int (iZ (0))), (2, .int (iZ (-1))), (0, .long (lN (n)))]) C.1 C.2.1 dX1_topPlace_3 rfl hl (by decide) rfl (fun ls hl => ?_)
  have L4 : ∀ (j : Nat) (k : Nat) (x2 : Int) (x3 : Int) (ls : Array Slot), 64 - k < j → (x3 = (k : Int)) → (x2 = (k : Int) - 1) → (k ≤ 64) → ((k : Int) ≤ tp n + 1) → lv_has ls 4 [(0, .long (lN (n))), (2, .int (iZ (x2))), (3, .int (iZ (x3)))] → W p l e { frames := 0, cells := 0, slots := 0, locals := 0 } s m ([.long (lN (n))] : List Value).toArray below meth c s.heap [] 0 0 (zQ below [.long (lN (n))] s (.int (iZ (tp n)))) (F0 m 4 ls []) := by
    intro j
    induction j with
    | zero => intro k x2 x3 ls hmu; exact absurd hmu (Nat.not_lt_zero _)
    | succ j ih4 =>
      intro k x2 x3 ls hmu i4_0 i4_1 i4_2 i4_3 hl
      refine lv_iload_n C.1 C.2.1 dX1_topPlace_4 rfl (lv_at hl 2 rfl) ?_
      refine z_bipush C dX1_topPlace_5 (by decide) ?_
      refine z_icmp_ge (tgt := 26) C (by omega) (by omega) dX1_topPlace_7 (by decide) (fun h7 => ?_) (fun h7 => ?_)
      · refine lv_iload_n C.1 C.2.1 dX1_topPlace_26 rfl (lv_at hl 1 rfl) ?_
        exact z_iret C hr hk dX1_topPlace_27 (congrArg (fun z : Int => Value.int (iZ z)) (by have := (tp_rng hn).2; omega))
      · refine lv_lload_n C.1 C.2.1 dX1_topPlace_10 rfl (lv_at hl 0 rfl) ?_
        refine lv_iload_n C.1 C.2.1 dX1_topPlace_11 rfl (lv_at hl 2 rfl) ?_
        refine z_lushr C (k) (by first | assumption | omega | rfl | exact decide_eq_false (by omega) | exact decide_eq_true (by assumption) | exact decide_eq_true (by omega) | exact one_shl33 (by omega) | exact pm_lt _ _ | exact rm_lt (by first | assumption | exact pm_lt _ _) | exact Nat.lt_of_le_of_lt (Nat.shiftRight_le _ _) (by assumption) | exact Nat.lt_of_le_of_lt Nat.and_le_right (by omega)) (by omega) (by omega) dX1_topPlace_12 ?_
        refine z_lconst (k0 := 0) C dX1_topPlace_13 rfl ?_
        refine z_lc_eq (tgt := 26) C (by first | assumption | omega | rfl | exact decide_eq_false (by omega) | exact decide_eq_true (by assumption) | exact decide_eq_true (by omega) | exact one_shl33 (by omega) | exact pm_lt _ _ | exact rm_lt (by first | assumption | exact pm_lt _ _) | exact Nat.lt_of_le_of_lt (Nat.shiftRight_le _ _) (by assumption) | exact Nat.lt_of_le_of_lt Nat.and_le_right (by omega)) (by first | assumption | omega | rfl | exact decide_eq_false (by omega) | exact decide_eq_true (by assumption) | exact decide_eq_true (by omega) | exact one_shl33 (by omega) | exact pm_lt _ _ | exact rm_lt (by first | assumption | exact pm_lt _ _) | exact Nat.lt_of_le_of_lt (Nat.shiftRight_le _ _) (by assumption) | exact Nat.lt_of_le_of_lt Nat.and_le_right (by omega)) dX1_topPlace_14 dX1_topPlace_15 (by decide) (fun h14 => ?_) (fun h14 => ?_)
        · refine lv_iload_n C.1 C.2.1 dX1_topPlace_26 rfl (lv_at hl 1 rfl) ?_
          exact z_iret C hr hk dX1_topPlace_27 (congrArg (fun z : Int => Value.int (iZ z)) (by have := tp_shr.mp h14; omega))
        · refine lv_iload_n C.1 C.2.1 dX1_topPlace_18 rfl (lv_at hl 2 rfl) ?_
          refine lv_istore_n (lv' := [(2, .int (iZ (x3))), (0, .long (lN (n))), (3, .int (iZ (x3)))]) C.1 C.2.1 dX1_topPlace_19 rfl hl (by decide) rfl (fun ls hl => ?_)
          refine z_iinc (j := 2) (lv' := [(3, .int (iZ (x3 + 1))), (2, .int (iZ (x3))), (0, .long (lN (n)))]) C dX1_topPlace_20 hl rfl (by decide) rfl (fun ls hl => ?_)
          refine lv_goto (tgt := 4) C.1 C.2.1 dX1_topPlace_23 (by decide) ?_
          exact ih4 (k + 1) _ _ _ (by omega) (by omega) (by omega) (by omega) (by have := mt tp_shr.mpr h14; omega) (lv_sub hl [2, 1, 0] rfl)
  exact L4 _ (0) _ _ _ (by exact Nat.lt_succ_self _) (by rfl) (by rfl) (by omega) (by have := tp_ge n; omega) (lv_sub hl [2, 1, 0] rfl)

set_option maxHeartbeats 4000000 in
set_option maxRecDepth 100000 in
theorem c_X1_bottomPlace (l : Launch) (n : Nat) (hn : n < 18446744073709551616) : zP l yX1_bottomPlace 1 44 [.long (lN (n))] (.int (iZ (bp n))) := by
  refine zP.intro (lo := 22) (nA := 1) (own := RX1) zs_X1_bottomPlace (by decide) rfl rfl (by decide +kernel) rfl (Nat.le_of_ble_eq_true rfl) ?_
  intro p e s m below meth c ls C hr hk hl
  have hl : lv_has ls 3 [(0, .long (lN (n)))] := hl
  refine z_iconst C dX1_bottomPlace_0 ?_
  refine lv_istore_n (lv' := [(2, .int (iZ (0))), (0, .long (lN (n)))]) C.1 C.2.1 dX1_bottomPlace_1 rfl hl (by decide) rfl (fun ls hl => ?_)
  have L2 : ∀ (j : Nat) (k : Nat) (f : Nat) (x2 : Int) (ls : Array Slot), 64 - k < j → (x2 = (k : Int)) → (f + k = 64) → (bpF n f k = bp n) → lv_has ls 3 [(0, .long (lN (n))), (2, .int (iZ (x2)))] → W p l e { frames := 1, cells := 0, slots := 0, locals := 22 } s m ([.long (lN (n))] : List Value).toArray below meth c s.heap [] 0 0 (zQ below [.long (lN (n))] s (.int (iZ (bp n)))) (F0 m 2 ls []) := by
    intro j
    induction j with
    | zero => intro k f x2 ls hmu; exact absurd hmu (Nat.not_lt_zero _)
    | succ j ih2 =>
      intro k f x2 ls hmu i2_0 i2_1 i2_2 hl
      refine lv_iload_n C.1 C.2.1 dX1_bottomPlace_2 rfl (lv_at hl 1 rfl) ?_
      refine z_bipush C dX1_bottomPlace_3 (by decide) ?_
      refine z_icmp_ge (tgt := 24) C (by omega) (by omega) dX1_bottomPlace_5 (by decide) (fun h5 => ?_) (fun h5 => ?_)
      · refine z_iconst C dX1_bottomPlace_24 ?_
        exact z_iret C hr hk dX1_bottomPlace_25 (congrArg (fun z : Int => Value.int (iZ z)) (by obtain rfl : f = 0 := (by omega); exact i2_2))
      · refine lv_lload_n C.1 C.2.1 dX1_bottomPlace_8 rfl (lv_at hl 0 rfl) ?_
        refine lv_iload_n C.1 C.2.1 dX1_bottomPlace_9 rfl (lv_at hl 1 rfl) ?_
        refine z_call C (c_X1_hasOne l (n) (x2) (by first | assumption | omega | rfl | exact decide_eq_false (by omega) | exact decide_eq_true (by assumption) | exact decide_eq_true (by omega) | exact one_shl33 (by omega) | exact pm_lt _ _ | exact rm_lt (by first | assumption | exact pm_lt _ _) | exact Nat.lt_of_le_of_lt (Nat.shiftRight_le _ _) (by assumption) | exact Nat.lt_of_le_of_lt Nat.and_le_right (by omega)) (by first | assumption | omega | rfl | exact decide_eq_false (by omega) | exact decide_eq_true (by assumption) | exact decide_eq_true (by omega) | exact one_shl33 (by omega) | exact pm_lt _ _ | exact rm_lt (by first | assumption | exact pm_lt _ _) | exact Nat.lt_of_le_of_lt (Nat.shiftRight_le _ _) (by assumption) | exact Nat.lt_of_le_of_lt Nat.and_le_right (by omega))) ml_X1_11 ⟨by decide, by decide⟩ ⟨Nat.le_refl _, Nat.le_refl _⟩ hl (Nat.le_of_ble_eq_true rfl) rfl dX1_bottomPlace_10 ?_
        refine z_ifB_eq (tgt := 18) C dX1_bottomPlace_13 (by decide) (fun h13 => ?_) (fun h13 => ?_)
        · refine z_iinc (j := 1) (lv' := [(2, .int (iZ (x2 + 1))), (0, .long (lN (n)))]) C dX1_bottomPlace_18 hl rfl (by decide) rfl (fun ls hl => ?_)
          refine lv_goto (tgt := 2) C.1 C.2.1 dX1_bottomPlace_21 (by decide) ?_
          rw [tb_k i2_0 (by omega)] at h13
          obtain ⟨f, rfl⟩ : ∃ g, f = g + 1 := ⟨f - 1, by omega⟩
          rw [bpF_f h13] at i2_2
          exact ih2 (k + 1) (f) _ _ (by omega) (by omega) (by omega) (by exact i2_2) (lv_sub hl [1, 0] rfl)
        · refine lv_iload_n C.1 C.2.1 dX1_bottomPlace_16 rfl (lv_at hl 1 rfl) ?_
          exact z_iret C hr hk dX1_bottomPlace_17 (congrArg (fun z : Int => Value.int (iZ z)) (by rw [tb_k i2_0 (by omega)] at h13; obtain ⟨f, rfl⟩ : ∃ g, f = g + 1 := ⟨f - 1, by omega⟩; rw [bpF_t h13] at i2_2; omega))
  exact L2 _ (0) (64) _ _ (by exact Nat.lt_succ_self _) (by rfl) (by rfl) (by rfl) (lv_sub hl [1, 0] rfl)

set_option maxHeartbeats 4000000 in
set_option maxRecDepth 100000 in
theorem c_X1_joined (l : Launch) (a : Nat) (b : Nat) (h : Int) (hh : 0 ≤ h ∧ h ≤ 3) : zP l yX1_joined 0 24 [.long (lN (a)), .long (lN (b)), .int (iZ (h))] (.long (lN (jo a b h))) := by
  refine zP.intro (lo := 0) (nA := 3) (own := RX1) zs_X1_joined (by decide) rfl rfl (by decide +kernel) rfl (Nat.le_of_ble_eq_true rfl) ?_
  intro p e s m below meth c ls C hr hk hl
  have hl : lv_has ls 5 [(0, .long (lN (a))), (2, .long (lN (b))), (4, .int (iZ (h)))] := hl
  refine lv_iload C.1 C.2.1 dX1_joined_0 (lv_at hl 2 rfl) ?_
  by_cases hs : (h) = 0
  · refine z_tableIn (off := 26) (tgt := 28) C dX1_joined_2 (by omega) (by omega) (by omega) (by rw [hs]; rfl) (by decide) ?_
    refine lv_lload_n C.1 C.2.1 dX1_joined_28 rfl (lv_at hl 0 rfl) ?_
    refine lv_lload_n C.1 C.2.1 dX1_joined_29 rfl (lv_at hl 1 rfl) ?_
    refine z_lxor C dX1_joined_30 ?_
    exact z_lret C hr hk dX1_joined_31 (congrArg (fun z : Nat => Value.long (lN z)) (by subst hs; rfl))
  · skip
    by_cases hs : (h) = 1
    · refine z_tableIn (off := 30) (tgt := 32) C dX1_joined_2 (by omega) (by omega) (by omega) (by rw [hs]; rfl) (by decide) ?_
      refine lv_lload_n C.1 C.2.1 dX1_joined_32 rfl (lv_at hl 0 rfl) ?_
      refine lv_lload_n C.1 C.2.1 dX1_joined_33 rfl (lv_at hl 1 rfl) ?_
      refine z_land C dX1_joined_34 ?_
      exact z_lret C hr hk dX1_joined_35 (congrArg (fun z : Nat => Value.long (lN z)) (by subst hs; rfl))
    · skip
      by_cases hs : (h) = 2
      · refine z_tableIn (off := 34) (tgt := 36) C dX1_joined_2 (by omega) (by omega) (by omega) (by rw [hs]; rfl) (by decide) ?_
        refine lv_lload_n C.1 C.2.1 dX1_joined_36 rfl (lv_at hl 0 rfl) ?_
        refine lv_lload_n C.1 C.2.1 dX1_joined_37 rfl (lv_at hl 1 rfl) ?_
        refine z_lor C dX1_joined_38 ?_
        exact z_lret C hr hk dX1_joined_39 (congrArg (fun z : Nat => Value.long (lN z)) (by subst hs; rfl))
      · skip
        refine z_tableOut (tgt := 40) C dX1_joined_2 (by omega) (by omega) (by decide) ?_
        refine lv_lload_n C.1 C.2.1 dX1_joined_40 rfl (lv_at hl 0 rfl) ?_
        refine lv_lload_n C.1 C.2.1 dX1_joined_41 rfl (lv_at hl 1 rfl) ?_
        refine z_ldc2 C 18446744073709551615 (T0_of kl_X1_15 rfl) (by decide) dX1_joined_42 ?_
        refine z_lxor C dX1_joined_45 ?_
        refine z_land C dX1_joined_46 ?_
        exact z_lret C hr hk dX1_joined_47 (congrArg (fun z : Nat => Value.long (lN z)) (by obtain rfl : h = 3 := (by omega); rfl))

set_option maxHeartbeats 4000000 in
set_option maxRecDepth 100000 in
theorem c_X1_product (l : Launch) (a : Nat) (b : Nat) (hb : b < 18446744073709551616) : zP l yX1_product 1 48 [.long (lN (a)), .long (lN (b))] (.long (lN (pm a b))) := by
  refine zP.intro (lo := 22) (nA := 2) (own := RX1) zs_X1_product (by decide) rfl rfl (by decide +kernel) rfl (Nat.le_of_ble_eq_true rfl) ?_
  intro p e s m below meth c ls C hr hk hl
  have hl : lv_has ls 7 [(0, .long (lN (a))), (2, .long (lN (b)))] := hl
  refine z_lconst (k0 := 0) C dX1_product_0 rfl ?_
  refine lv_lstore (lv' := [(4, .long (lN (0))), (0, .long (lN (a))), (2, .long (lN (b)))]) C.1 C.2.1 dX1_product_1 hl (by decide) rfl (fun ls hl => ?_)
  refine z_iconst C dX1_product_3 ?_
  refine lv_istore (lv' := [(6, .int (iZ (0))), (4, .long (lN (0))), (0, .long (lN (a))), (2, .long (lN (b)))]) C.1 C.2.1 dX1_product_4 hl (by decide) rfl (fun ls hl => ?_)
  have L6 : ∀ (j : Nat) (k : Nat) (x4 : Nat) (x6 : Int) (ls : Array Slot), 64 - k < j → (x6 = (k : Int)) → (x4 = pmF a b k) → (k ≤ 64) → lv_has ls 7 [(0, .long (lN (a))), (2, .long (lN (b))), (4, .long (lN (x4))), (6, .int (iZ (x6)))] → W p l e { frames := 1, cells := 0, slots := 0, locals := 22 } s m ([.long (lN (a)), .long (lN (b))] : List Value).toArray below meth c s.heap [] 0 0 (zQ below [.long (lN (a)), .long (lN (b))] s (.long (lN (pm a b)))) (F0 m 6 ls []) := by
    intro j
    induction j with
    | zero => intro k x4 x6 ls hmu; exact absurd hmu (Nat.not_lt_zero _)
    | succ j ih6 =>
      intro k x4 x6 ls hmu i6_0 i6_1 i6_2 hl
      refine lv_iload C.1 C.2.1 dX1_product_6 (lv_at hl 3 rfl) ?_
      refine z_bipush C dX1_product_8 (by decide) ?_
      refine z_icmp_ge (tgt := 46) C (by omega) (by omega) dX1_product_10 (by decide) (fun h10 => ?_) (fun h10 => ?_)
      · refine lv_lload C.1 C.2.1 dX1_product_46 (lv_at hl 2 rfl) ?_
        exact z_lret C hr hk dX1_product_48 (by rw [pm, lN_mod, i6_1, show k = 64 by omega])
      · refine lv_lload_n C.1 C.2.1 dX1_product_13 rfl (lv_at hl 1 rfl) ?_
        refine lv_iload C.1 C.2.1 dX1_product_14 (lv_at hl 3 rfl) ?_
        refine z_lushr C (k) (by first | assumption | omega | rfl | exact decide_eq_false (by omega) | exact decide_eq_true (by assumption) | exact decide_eq_true (by omega) | exact one_shl33 (by omega) | exact pm_lt _ _ | exact rm_lt (by first | assumption | exact pm_lt _ _) | exact Nat.lt_of_le_of_lt (Nat.shiftRight_le _ _) (by assumption) | exact Nat.lt_of_le_of_lt Nat.and_le_right (by omega)) (by omega) (by omega) dX1_product_16 ?_
        refine z_lconst (k0 := 0) C dX1_product_17 rfl ?_
        refine z_lc_eq (tgt := 46) C (by first | assumption | omega | rfl | exact decide_eq_false (by omega) | exact decide_eq_true (by assumption) | exact decide_eq_true (by omega) | exact one_shl33 (by omega) | exact pm_lt _ _ | exact rm_lt (by first | assumption | exact pm_lt _ _) | exact Nat.lt_of_le_of_lt (Nat.shiftRight_le _ _) (by assumption) | exact Nat.lt_of_le_of_lt Nat.and_le_right (by omega)) (by first | assumption | omega | rfl | exact decide_eq_false (by omega) | exact decide_eq_true (by assumption) | exact decide_eq_true (by omega) | exact one_shl33 (by omega) | exact pm_lt _ _ | exact rm_lt (by first | assumption | exact pm_lt _ _) | exact Nat.lt_of_le_of_lt (Nat.shiftRight_le _ _) (by assumption) | exact Nat.lt_of_le_of_lt Nat.and_le_right (by omega)) dX1_product_18 dX1_product_19 (by decide) (fun h18 => ?_) (fun h18 => ?_)
        · refine lv_lload C.1 C.2.1 dX1_product_46 (lv_at hl 2 rfl) ?_
          exact z_lret C hr hk dX1_product_48 (by rw [pm, lN_mod, i6_1, pmF_64 h18 (by omega)])
        · refine lv_lload_n C.1 C.2.1 dX1_product_22 rfl (lv_at hl 1 rfl) ?_
          refine lv_iload C.1 C.2.1 dX1_product_23 (lv_at hl 3 rfl) ?_
          refine z_call C (c_X1_hasOne l (b) (x6) (by first | assumption | omega | rfl | exact decide_eq_false (by omega) | exact decide_eq_true (by assumption) | exact decide_eq_true (by omega) | exact one_shl33 (by omega) | exact pm_lt _ _ | exact rm_lt (by first | assumption | exact pm_lt _ _) | exact Nat.lt_of_le_of_lt (Nat.shiftRight_le _ _) (by assumption) | exact Nat.lt_of_le_of_lt Nat.and_le_right (by omega)) (by first | assumption | omega | rfl | exact decide_eq_false (by omega) | exact decide_eq_true (by assumption) | exact decide_eq_true (by omega) | exact one_shl33 (by omega) | exact pm_lt _ _ | exact rm_lt (by first | assumption | exact pm_lt _ _) | exact Nat.lt_of_le_of_lt (Nat.shiftRight_le _ _) (by assumption) | exact Nat.lt_of_le_of_lt Nat.and_le_right (by omega))) ml_X1_11 ⟨by decide, by decide⟩ ⟨Nat.le_refl _, Nat.le_refl _⟩ hl (Nat.le_of_ble_eq_true rfl) rfl dX1_product_25 ?_
          refine z_ifB_eq (tgt := 40) C dX1_product_28 (by decide) (fun h28 => ?_) (fun h28 => ?_)
          · refine z_iinc (j := 3) (lv' := [(6, .int (iZ (x6 + 1))), (0, .long (lN (a))), (2, .long (lN (b))), (4, .long (lN (x4)))]) C dX1_product_40 hl rfl (by decide) rfl (fun ls hl => ?_)
            refine lv_goto (tgt := 6) C.1 C.2.1 dX1_product_43 (by decide) ?_
            exact ih6 (k + 1) _ _ _ (by omega) (by omega) (by rw [pmF_f (by rw [← tb_k i6_0 (by omega)]; exact h28)]; exact i6_1) (by omega) (lv_sub hl [1, 2, 3, 0] rfl)
          · refine lv_lload C.1 C.2.1 dX1_product_31 (lv_at hl 2 rfl) ?_
            refine lv_lload_n C.1 C.2.1 dX1_product_33 rfl (lv_at hl 0 rfl) ?_
            refine lv_iload C.1 C.2.1 dX1_product_34 (lv_at hl 3 rfl) ?_
            refine z_lshl C (k) (by omega) (by omega) dX1_product_36 ?_
            refine z_lxor C dX1_product_37 ?_
            refine lv_lstore (lv' := [(4, .long (lN ((x4) ^^^ ((a) <<< (k))))), (0, .long (lN (a))), (2, .long (lN (b))), (6, .int (iZ (x6)))]) C.1 C.2.1 dX1_product_38 hl (by decide) rfl (fun ls hl => ?_)
            refine z_iinc (j := 3) (lv' := [(6, .int (iZ (x6 + 1))), (4, .long (lN ((x4) ^^^ ((a) <<< (k))))), (0, .long (lN (a))), (2, .long (lN (b)))]) C dX1_product_40 hl rfl (by decide) rfl (fun ls hl => ?_)
            refine lv_goto (tgt := 6) C.1 C.2.1 dX1_product_43 (by decide) ?_
            exact ih6 (k + 1) _ _ _ (by omega) (by omega) (by rw [pmF_t (by rw [← tb_k i6_0 (by omega)]; exact h28), i6_1]) (by omega) (lv_sub hl [2, 3, 1, 0] rfl)
  exact L6 _ (0) _ _ _ (by exact Nat.lt_succ_self _) (by rfl) (by rfl) (by omega) (lv_sub hl [2, 3, 1, 0] rfl)

set_option maxHeartbeats 4000000 in
set_option maxRecDepth 100000 in
theorem c_X1_quotientOf (l : Launch) (a : Nat) (b : Nat) (ha : a < 18446744073709551616) (hb : b < 18446744073709551616) : zP l yX1_quotientOf 1 52 [.long (lN (a)), .long (lN (b))] (.long (lN (qo a b))) := by
  refine zP.intro (lo := 23) (nA := 2) (own := RX1) zs_X1_quotientOf (by decide) rfl rfl (by decide +kernel) rfl (Nat.le_of_ble_eq_true rfl) ?_
  intro p e s m below meth c ls C hr hk hl
  have hl : lv_has ls 10 [(0, .long (lN (a))), (2, .long (lN (b)))] := hl
  refine lv_lload_n C.1 C.2.1 dX1_quotientOf_0 rfl (lv_at hl 1 rfl) ?_
  refine z_lconst (k0 := 0) C dX1_quotientOf_1 rfl ?_
  refine z_lc_ne (tgt := 8) C (by first | assumption | omega | rfl | exact decide_eq_false (by omega) | exact decide_eq_true (by assumption) | exact decide_eq_true (by omega) | exact one_shl33 (by omega) | exact pm_lt _ _ | exact rm_lt (by first | assumption | exact pm_lt _ _) | exact Nat.lt_of_le_of_lt (Nat.shiftRight_le _ _) (by assumption) | exact Nat.lt_of_le_of_lt Nat.and_le_right (by omega)) (by first | assumption | omega | rfl | exact decide_eq_false (by omega) | exact decide_eq_true (by assumption) | exact decide_eq_true (by omega) | exact one_shl33 (by omega) | exact pm_lt _ _ | exact rm_lt (by first | assumption | exact pm_lt _ _) | exact Nat.lt_of_le_of_lt (Nat.shiftRight_le _ _) (by assumption) | exact Nat.lt_of_le_of_lt Nat.and_le_right (by omega)) dX1_quotientOf_2 dX1_quotientOf_3 (by decide) (fun h2 => ?_) (fun h2 => ?_)
  · refine lv_lload_n C.1 C.2.1 dX1_quotientOf_8 rfl (lv_at hl 1 rfl) ?_
    refine z_call C (c_X1_topPlace l (b) (by first | assumption | omega | rfl | exact decide_eq_false (by omega) | exact decide_eq_true (by assumption) | exact decide_eq_true (by omega) | exact one_shl33 (by omega) | exact pm_lt _ _ | exact rm_lt (by first | assumption | exact pm_lt _ _) | exact Nat.lt_of_le_of_lt (Nat.shiftRight_le _ _) (by assumption) | exact Nat.lt_of_le_of_lt Nat.and_le_right (by omega))) ml_X1_17 ⟨by decide, by decide⟩ ⟨Nat.le_refl _, Nat.le_refl _⟩ hl (Nat.le_of_ble_eq_true rfl) rfl dX1_quotientOf_9 ?_
    have q9_0 := tp_rngE (b) (by first | assumption | omega)
    refine lv_istore (lv' := [(4, .int (iZ (tp (b)))), (0, .long (lN (a))), (2, .long (lN (b)))]) C.1 C.2.1 dX1_quotientOf_12 hl (by decide) rfl (fun ls hl => ?_)
    refine lv_lload_n C.1 C.2.1 dX1_quotientOf_14 rfl (lv_at hl 1 rfl) ?_
    refine lv_lstore (lv' := [(5, .long (lN (a))), (4, .int (iZ (tp (b)))), (0, .long (lN (a))), (2, .long (lN (b)))]) C.1 C.2.1 dX1_quotientOf_15 hl (by decide) rfl (fun ls hl => ?_)
    refine z_lconst (k0 := 0) C dX1_quotientOf_17 rfl ?_
    refine lv_lstore (lv' := [(7, .long (lN (0))), (5, .long (lN (a))), (4, .int (iZ (tp (b)))), (0, .long (lN (a))), (2, .long (lN (b)))]) C.1 C.2.1 dX1_quotientOf_18 hl (by decide) rfl (fun ls hl => ?_)
    refine lv_lload_n C.1 C.2.1 dX1_quotientOf_20 rfl (lv_at hl 3 rfl) ?_
    refine z_call C (c_X1_topPlace l (a) (by first | assumption | omega | rfl | exact decide_eq_false (by omega) | exact decide_eq_true (by assumption) | exact decide_eq_true (by omega) | exact one_shl33 (by omega) | exact pm_lt _ _ | exact rm_lt (by first | assumption | exact pm_lt _ _) | exact Nat.lt_of_le_of_lt (Nat.shiftRight_le _ _) (by assumption) | exact Nat.lt_of_le_of_lt Nat.and_le_right (by omega))) ml_X1_17 ⟨by decide, by decide⟩ ⟨Nat.le_refl _, Nat.le_refl _⟩ hl (Nat.le_of_ble_eq_true rfl) rfl dX1_quotientOf_21 ?_
    have q21_0 := tp_rngE (a) (by first | assumption | omega)
    refine lv_istore (lv' := [(9, .int (iZ (tp (a)))), (7, .long (lN (0))), (5, .long (lN (a))), (4, .int (iZ (tp (b)))), (0, .long (lN (a))), (2, .long (lN (b)))]) C.1 C.2.1 dX1_quotientOf_24 hl (by decide) rfl (fun ls hl => ?_)
    have L26 : ∀ (j : Nat) (j0 : Nat) (x5 : Nat) (x7 : Nat) (x9 : Int) (ls : Array Slot), j0 < j → (x9 + 1 = tp b + (j0 : Int) ∨ (j0 = 0 ∧ x9 < tp b)) → (x9 ≤ 63) → (x5 < 18446744073709551616) → ((qoF b (tp b).toNat j0 x5 x7).2 = qo a b) → (-1 ≤ x9) → lv_has ls 10 [(0, .long (lN (a))), (2, .long (lN (b))), (4, .int (iZ (tp (b)))), (5, .long (lN (x5))), (7, .long (lN (x7))), (9, .int (iZ (x9)))] → W p l e { frames := 1, cells := 0, slots := 0, locals := 23 } s m ([.long (lN (a)), .long (lN (b))] : List Value).toArray below meth c s.heap [] 0 0 (zQ below [.long (lN (a)), .long (lN (b))] s (.long (lN (qo a b)))) (F0 m 26 ls []) := by
      intro j
      induction j with
      | zero => intro j0 x5 x7 x9 ls hmu; exact absurd hmu (Nat.not_lt_zero _)
      | succ j ih26 =>
        intro j0 x5 x7 x9 ls hmu i26_0 i26_1 i26_2 i26_3 i26_4 hl
        have hb0 := mt tp_neg.mp h2
        have hbr := tp_rng hb
        refine lv_iload C.1 C.2.1 dX1_quotientOf_26 (lv_at hl 5 rfl) ?_
        refine lv_iload C.1 C.2.1 dX1_quotientOf_28 (lv_at hl 2 rfl) ?_
        refine z_icmp_lt (tgt := 74) C (by omega) (by omega) dX1_quotientOf_30 (by decide) (fun h30 => ?_) (fun h30 => ?_)
        · refine lv_lload C.1 C.2.1 dX1_quotientOf_74 (lv_at hl 4 rfl) ?_
          exact z_lret C hr hk dX1_quotientOf_76 (congrArg (fun z : Nat => Value.long (lN z)) (by rw [← i26_3, show j0 = 0 by omega]; rfl))
        · refine lv_lload C.1 C.2.1 dX1_quotientOf_33 (lv_at hl 3 rfl) ?_
          refine lv_iload C.1 C.2.1 dX1_quotientOf_35 (lv_at hl 5 rfl) ?_
          refine z_call C (c_X1_hasOne l (x5) (x9) (by first | assumption | omega | rfl | exact decide_eq_false (by omega) | exact decide_eq_true (by assumption) | exact decide_eq_true (by omega) | exact one_shl33 (by omega) | exact pm_lt _ _ | exact rm_lt (by first | assumption | exact pm_lt _ _) | exact Nat.lt_of_le_of_lt (Nat.shiftRight_le _ _) (by assumption) | exact Nat.lt_of_le_of_lt Nat.and_le_right (by omega)) (by first | assumption | omega | rfl | exact decide_eq_false (by omega) | exact decide_eq_true (by assumption) | exact decide_eq_true (by omega) | exact one_shl33 (by omega) | exact pm_lt _ _ | exact rm_lt (by first | assumption | exact pm_lt _ _) | exact Nat.lt_of_le_of_lt (Nat.shiftRight_le _ _) (by assumption) | exact Nat.lt_of_le_of_lt Nat.and_le_right (by omega))) ml_X1_11 ⟨by decide, by decide⟩ ⟨Nat.le_refl _, Nat.le_refl _⟩ hl (Nat.le_of_ble_eq_true rfl) rfl dX1_quotientOf_37 ?_
          refine z_ifB_eq (tgt := 68) C dX1_quotientOf_40 (by decide) (fun h40 => ?_) (fun h40 => ?_)
          · refine z_iinc (j := 5) (lv' := [(9, .int (iZ (x9 + (-1)))), (0, .long (lN (a))), (2, .long (lN (b))), (4, .int (iZ (tp (b)))), (5, .long (lN (x5))), (7, .long (lN (x7)))]) C dX1_quotientOf_68 hl rfl (by decide) rfl (fun ls hl => ?_)
            refine lv_goto (tgt := 26) C.1 C.2.1 dX1_quotientOf_71 (by decide) ?_
            obtain ⟨j1, rfl⟩ : ∃ g, j0 = g + 1 := ⟨j0 - 1, by omega⟩
            rw [tb_k (k := (tp b).toNat + j1) (by omega) (by omega)] at h40
            rw [qoF_f h40] at i26_3
            exact ih26 (j1) _ _ _ _ (by omega) (by omega) (by omega) (by exact i26_2) (by exact i26_3) (by omega) (lv_sub hl [1, 2, 3, 4, 5, 0] rfl)
          · refine lv_lload C.1 C.2.1 dX1_quotientOf_43 (lv_at hl 3 rfl) ?_
            refine lv_lload_n C.1 C.2.1 dX1_quotientOf_45 rfl (lv_at hl 1 rfl) ?_
            refine lv_iload C.1 C.2.1 dX1_quotientOf_46 (lv_at hl 5 rfl) ?_
            refine lv_iload C.1 C.2.1 dX1_quotientOf_48 (lv_at hl 2 rfl) ?_
            refine z_isub C dX1_quotientOf_50 ?_
            refine z_lshl C (((x9) - (tp (b))).toNat) (by omega) (by omega) dX1_quotientOf_51 ?_
            refine z_lxor C dX1_quotientOf_52 ?_
            refine lv_lstore (lv' := [(5, .long (lN ((x5) ^^^ ((b) <<< (((x9) - (tp (b))).toNat))))), (0, .long (lN (a))), (2, .long (lN (b))), (4, .int (iZ (tp (b)))), (7, .long (lN (x7))), (9, .int (iZ (x9)))]) C.1 C.2.1 dX1_quotientOf_53 hl (by decide) rfl (fun ls hl => ?_)
            refine lv_lload C.1 C.2.1 dX1_quotientOf_55 (lv_at hl 4 rfl) ?_
            refine lv_iload C.1 C.2.1 dX1_quotientOf_57 (lv_at hl 5 rfl) ?_
            refine lv_iload C.1 C.2.1 dX1_quotientOf_59 (lv_at hl 3 rfl) ?_
            refine z_isub C dX1_quotientOf_61 ?_
            refine z_call C (c_X1_single l ((x9) - (tp (b))) (by first | assumption | omega | rfl | exact decide_eq_false (by omega) | exact decide_eq_true (by assumption) | exact decide_eq_true (by omega) | exact one_shl33 (by omega) | exact pm_lt _ _ | exact rm_lt (by first | assumption | exact pm_lt _ _) | exact Nat.lt_of_le_of_lt (Nat.shiftRight_le _ _) (by assumption) | exact Nat.lt_of_le_of_lt Nat.and_le_right (by omega))) ml_X1_21 ⟨by decide, by decide⟩ ⟨Nat.le_refl _, Nat.le_refl _⟩ hl (Nat.le_of_ble_eq_true rfl) rfl dX1_quotientOf_62 ?_
            refine z_lor C dX1_quotientOf_65 ?_
            refine lv_lstore (lv' := [(7, .long (lN ((x7) ||| (1 <<< ((x9) - (tp (b))).toNat)))), (5, .long (lN ((x5) ^^^ ((b) <<< (((x9) - (tp (b))).toNat))))), (0, .long (lN (a))), (2, .long (lN (b))), (4, .int (iZ (tp (b)))), (9, .int (iZ (x9)))]) C.1 C.2.1 dX1_quotientOf_66 hl (by decide) rfl (fun ls hl => ?_)
            refine z_iinc (j := 5) (lv' := [(9, .int (iZ (x9 + (-1)))), (7, .long (lN ((x7) ||| (1 <<< ((x9) - (tp (b))).toNat)))), (5, .long (lN ((x5) ^^^ ((b) <<< (((x9) - (tp (b))).toNat))))), (0, .long (lN (a))), (2, .long (lN (b))), (4, .int (iZ (tp (b))))]) C dX1_quotientOf_68 hl rfl (by decide) rfl (fun ls hl => ?_)
            refine lv_goto (tgt := 26) C.1 C.2.1 dX1_quotientOf_71 (by decide) ?_
            obtain ⟨j1, rfl⟩ : ∃ g, j0 = g + 1 := ⟨j0 - 1, by omega⟩
            rw [tb_k (k := (tp b).toNat + j1) (by omega) (by omega)] at h40
            rw [qoF_t h40] at i26_3
            have ej : (x9 - tp b).toNat = j1 := by omega
            exact ih26 (j1) _ _ _ _ (by omega) (by omega) (by omega) (by rw [ej]; exact xor64 i26_2 (shl64 (by omega) (by omega))) (by rw [ej]; exact i26_3) (by omega) (lv_sub hl [3, 4, 5, 2, 1, 0] rfl)
    have hb0 := mt tp_neg.mp h2
    have hbr := tp_rng hb
    have har := tp_rng ha
    exact L26 _ ((tp a + 1 - tp b).toNat) _ _ _ _ (by exact Nat.lt_succ_self _) (by omega) (by omega) (by exact ha) (by rw [qo, if_neg h2]) (by omega) (lv_sub hl [4, 5, 3, 2, 1, 0] rfl)
  · refine z_lconst (k0 := 0) C dX1_quotientOf_6 rfl ?_
    exact z_lret C hr hk dX1_quotientOf_7 (congrArg (fun z : Nat => Value.long (lN z)) (by rw [qo, if_pos h2]))

set_option maxHeartbeats 4000000 in
set_option maxRecDepth 100000 in
theorem c_X1_restOf (l : Launch) (a : Nat) (b : Nat) (ha : a < 18446744073709551616) (hb : b < 18446744073709551616) : zP l yX1_restOf 2 75 [.long (lN (a)), .long (lN (b))] (.long (lN (rm a b))) := by
  refine zP.intro (lo := 52) (nA := 2) (own := RX1) zs_X1_restOf (by decide) rfl rfl (by decide +kernel) rfl (Nat.le_of_ble_eq_true rfl) ?_
  intro p e s m below meth c ls C hr hk hl
  have hl : lv_has ls 4 [(0, .long (lN (a))), (2, .long (lN (b)))] := hl
  refine lv_lload_n C.1 C.2.1 dX1_restOf_0 rfl (lv_at hl 0 rfl) ?_
  refine lv_lload_n C.1 C.2.1 dX1_restOf_1 rfl (lv_at hl 0 rfl) ?_
  refine lv_lload_n C.1 C.2.1 dX1_restOf_2 rfl (lv_at hl 1 rfl) ?_
  refine z_call C (c_X1_quotientOf l (a) (b) (by first | assumption | omega | rfl | exact decide_eq_false (by omega) | exact decide_eq_true (by assumption) | exact decide_eq_true (by omega) | exact one_shl33 (by omega) | exact pm_lt _ _ | exact rm_lt (by first | assumption | exact pm_lt _ _) | exact Nat.lt_of_le_of_lt (Nat.shiftRight_le _ _) (by assumption) | exact Nat.lt_of_le_of_lt Nat.and_le_right (by omega)) (by first | assumption | omega | rfl | exact decide_eq_false (by omega) | exact decide_eq_true (by assumption) | exact decide_eq_true (by omega) | exact one_shl33 (by omega) | exact pm_lt _ _ | exact rm_lt (by first | assumption | exact pm_lt _ _) | exact Nat.lt_of_le_of_lt (Nat.shiftRight_le _ _) (by assumption) | exact Nat.lt_of_le_of_lt Nat.and_le_right (by omega))) ml_X1_25 ⟨by decide, by decide⟩ ⟨Nat.le_refl _, Nat.le_refl _⟩ hl (Nat.le_of_ble_eq_true rfl) rfl dX1_restOf_3 ?_
  refine lv_lload_n C.1 C.2.1 dX1_restOf_6 rfl (lv_at hl 1 rfl) ?_
  refine z_call C (c_X1_product l (qo (a) (b)) (b) (by first | assumption | omega | rfl | exact decide_eq_false (by omega) | exact decide_eq_true (by assumption) | exact decide_eq_true (by omega) | exact one_shl33 (by omega) | exact pm_lt _ _ | exact rm_lt (by first | assumption | exact pm_lt _ _) | exact Nat.lt_of_le_of_lt (Nat.shiftRight_le _ _) (by assumption) | exact Nat.lt_of_le_of_lt Nat.and_le_right (by omega))) ml_X1_29 ⟨by decide, by decide⟩ ⟨Nat.le_refl _, Nat.le_refl _⟩ hl (Nat.le_of_ble_eq_true rfl) rfl dX1_restOf_7 ?_
  refine z_lxor C dX1_restOf_10 ?_
  exact z_lret C hr hk dX1_restOf_11 (congrArg (fun z : Nat => Value.long (lN z)) (by rfl))

set_option maxHeartbeats 4000000 in
set_option maxRecDepth 100000 in
theorem c_X1_isDivisor (l : Launch) (a : Nat) (b : Nat) (ha : a < 18446744073709551616) (hb : b < 18446744073709551616) : zP l yX1_isDivisor 3 98 [.long (lN (a)), .long (lN (b))] (.int (iZ (zB (decide (rm b a = 0))))) := by
  refine zP.intro (lo := 75) (nA := 2) (own := RX1) zs_X1_isDivisor (by decide) rfl rfl (by decide +kernel) rfl (Nat.le_of_ble_eq_true rfl) ?_
  intro p e s m below meth c ls C hr hk hl
  have hl : lv_has ls 4 [(0, .long (lN (a))), (2, .long (lN (b)))] := hl
  refine lv_lload_n C.1 C.2.1 dX1_isDivisor_0 rfl (lv_at hl 1 rfl) ?_
  refine lv_lload_n C.1 C.2.1 dX1_isDivisor_1 rfl (lv_at hl 0 rfl) ?_
  refine z_call C (c_X1_restOf l (b) (a) (by first | assumption | omega | rfl | exact decide_eq_false (by omega) | exact decide_eq_true (by assumption) | exact decide_eq_true (by omega) | exact one_shl33 (by omega) | exact pm_lt _ _ | exact rm_lt (by first | assumption | exact pm_lt _ _) | exact Nat.lt_of_le_of_lt (Nat.shiftRight_le _ _) (by assumption) | exact Nat.lt_of_le_of_lt Nat.and_le_right (by omega)) (by first | assumption | omega | rfl | exact decide_eq_false (by omega) | exact decide_eq_true (by assumption) | exact decide_eq_true (by omega) | exact one_shl33 (by omega) | exact pm_lt _ _ | exact rm_lt (by first | assumption | exact pm_lt _ _) | exact Nat.lt_of_le_of_lt (Nat.shiftRight_le _ _) (by assumption) | exact Nat.lt_of_le_of_lt Nat.and_le_right (by omega))) ml_X1_32 ⟨by decide, by decide⟩ ⟨Nat.le_refl _, Nat.le_refl _⟩ hl (Nat.le_of_ble_eq_true rfl) rfl dX1_isDivisor_2 ?_
  refine z_lconst (k0 := 0) C dX1_isDivisor_5 rfl ?_
  refine z_lc_ne (tgt := 14) C (by exact rm_lt hb) (by omega) dX1_isDivisor_6 dX1_isDivisor_7 (by decide) (fun h6 => ?_) (fun h6 => ?_)
  · refine z_iconst C dX1_isDivisor_14 ?_
    exact z_zret C hr hk dX1_isDivisor_15 (by decide) (congrArg (fun z : Int => Value.int (iZ z)) (by exact zB_f (decide_eq_false h6)))
  · refine z_iconst C dX1_isDivisor_10 ?_
    refine lv_goto (tgt := 15) C.1 C.2.1 dX1_isDivisor_11 (by decide) ?_
    exact z_zret C hr hk dX1_isDivisor_15 (by decide) (congrArg (fun z : Int => Value.int (iZ z)) (by exact zB_t (decide_eq_true h6)))

set_option maxHeartbeats 4000000 in
set_option maxRecDepth 100000 in
theorem c_X1_euclid (l : Launch) (a : Nat) (b : Nat) (x : Nat) (y : Nat) (ha : a < 18446744073709551616) (hb : b < 18446744073709551616) (hx : x < 18446744073709551616) (hy : y < 18446744073709551616) : zP l yX1_euclid 2 94 [.long (lN (a)), .long (lN (b)), .long (lN (x)), .long (lN (y))] (.long (lN (eu a b x y))) := by
  refine zP.intro (lo := 52) (nA := 4) (own := RX1) zs_X1_euclid (by decide) rfl rfl (by decide +kernel) rfl (Nat.le_of_ble_eq_true rfl) ?_
  intro p e s m below meth c ls C hr hk hl
  have hl : lv_has ls 23 [(0, .long (lN (a))), (2, .long (lN (b))), (4, .long (lN (x))), (6, .long (lN (y)))] := hl
  refine lv_lload_n C.1 C.2.1 dX1_euclid_0 rfl (lv_at hl 0 rfl) ?_
  refine lv_lstore (lv' := [(8, .long (lN (a))), (0, .long (lN (a))), (2, .long (lN (b))), (4, .long (lN (x))), (6, .long (lN (y)))]) C.1 C.2.1 dX1_euclid_1 hl (by decide) rfl (fun ls hl => ?_)
  refine lv_lload_n C.1 C.2.1 dX1_euclid_3 rfl (lv_at hl 2 rfl) ?_
  refine lv_lstore (lv' := [(10, .long (lN (b))), (8, .long (lN (a))), (0, .long (lN (a))), (2, .long (lN (b))), (4, .long (lN (x))), (6, .long (lN (y)))]) C.1 C.2.1 dX1_euclid_4 hl (by decide) rfl (fun ls hl => ?_)
  refine lv_lload C.1 C.2.1 dX1_euclid_6 (lv_at hl 4 rfl) ?_
  refine lv_lstore (lv' := [(12, .long (lN (x))), (10, .long (lN (b))), (8, .long (lN (a))), (0, .long (lN (a))), (2, .long (lN (b))), (4, .long (lN (x))), (6, .long (lN (y)))]) C.1 C.2.1 dX1_euclid_8 hl (by decide) rfl (fun ls hl => ?_)
  refine lv_lload C.1 C.2.1 dX1_euclid_10 (lv_at hl 6 rfl) ?_
  refine lv_lstore (lv' := [(14, .long (lN (y))), (12, .long (lN (x))), (10, .long (lN (b))), (8, .long (lN (a))), (0, .long (lN (a))), (2, .long (lN (b))), (4, .long (lN (x))), (6, .long (lN (y)))]) C.1 C.2.1 dX1_euclid_12 hl (by decide) rfl (fun ls hl => ?_)
  refine z_iconst C dX1_euclid_14 ?_
  refine lv_istore (lv' := [(16, .int (iZ (0))), (14, .long (lN (y))), (12, .long (lN (x))), (10, .long (lN (b))), (8, .long (lN (a))), (0, .long (lN (a))), (2, .long (lN (b))), (4, .long (lN (x))), (6, .long (lN (y)))]) C.1 C.2.1 dX1_euclid_15 hl (by decide) rfl (fun ls hl => ?_)
  have L17 : ∀ (j : Nat) (f : Nat) (x8 : Nat) (x10 : Nat) (x12 : Nat) (x14 : Nat) (x16 : Int) (ls : Array Slot), f < j → (x16 + (f : Int) = 65) → (0 ≤ x16) → (x8 < 18446744073709551616) → (x10 < 18446744073709551616) → (x12 < 18446744073709551616) → (x14 < 18446744073709551616) → (euF f x8 x10 x12 x14 = eu a b x y) → lv_has ls 23 [(0, .long (lN (a))), (2, .long (lN (b))), (4, .long (lN (x))), (6, .long (lN (y))), (8, .long (lN (x8))), (10, .long (lN (x10))), (12, .long (lN (x12))), (14, .long (lN (x14))), (16, .int (iZ (x16)))] → W p l e { frames := 2, cells := 0, slots := 0, locals := 52 } s m ([.long (lN (a)), .long (lN (b)), .long (lN (x)), .long (lN (y))] : List Value).toArray below meth c s.heap [] 0 0 (zQ below [.long (lN (a)), .long (lN (b)), .long (lN (x)), .long (lN (y))] s (.long (lN (eu a b x y)))) (F0 m 17 ls []) := by
    intro j
    induction j with
    | zero => intro f x8 x10 x12 x14 x16 ls hmu; exact absurd hmu (Nat.not_lt_zero _)
    | succ j ih17 =>
      intro f x8 x10 x12 x14 x16 ls hmu i17_0 i17_1 i17_2 i17_3 i17_4 i17_5 i17_6 hl
      refine lv_iload C.1 C.2.1 dX1_euclid_17 (lv_at hl 8 rfl) ?_
      refine z_bipush C dX1_euclid_19 (by decide) ?_
      refine z_icmp_gt (tgt := 86) C (by omega) (by omega) dX1_euclid_21 (by decide) (fun h21 => ?_) (fun h21 => ?_)
      · refine lv_lload C.1 C.2.1 dX1_euclid_86 (lv_at hl 6 rfl) ?_
        exact z_lret C hr hk dX1_euclid_88 (congrArg (fun z : Nat => Value.long (lN z)) (by rw [← i17_6, show f = 0 by omega]; rfl))
      · refine lv_lload C.1 C.2.1 dX1_euclid_24 (lv_at hl 5 rfl) ?_
        refine z_lconst (k0 := 0) C dX1_euclid_26 rfl ?_
        refine z_lc_eq (tgt := 86) C (by first | assumption | omega | rfl | exact decide_eq_false (by omega) | exact decide_eq_true (by assumption) | exact decide_eq_true (by omega) | exact one_shl33 (by omega) | exact pm_lt _ _ | exact rm_lt (by first | assumption | exact pm_lt _ _) | exact Nat.lt_of_le_of_lt (Nat.shiftRight_le _ _) (by assumption) | exact Nat.lt_of_le_of_lt Nat.and_le_right (by omega)) (by first | assumption | omega | rfl | exact decide_eq_false (by omega) | exact decide_eq_true (by assumption) | exact decide_eq_true (by omega) | exact one_shl33 (by omega) | exact pm_lt _ _ | exact rm_lt (by first | assumption | exact pm_lt _ _) | exact Nat.lt_of_le_of_lt (Nat.shiftRight_le _ _) (by assumption) | exact Nat.lt_of_le_of_lt Nat.and_le_right (by omega)) dX1_euclid_27 dX1_euclid_28 (by decide) (fun h27 => ?_) (fun h27 => ?_)
        · refine lv_lload C.1 C.2.1 dX1_euclid_86 (lv_at hl 6 rfl) ?_
          exact z_lret C hr hk dX1_euclid_88 (congrArg (fun z : Nat => Value.long (lN z)) (by rw [← i17_6, h27, euF_0]))
        · refine lv_lload C.1 C.2.1 dX1_euclid_31 (lv_at hl 4 rfl) ?_
          refine lv_lload C.1 C.2.1 dX1_euclid_33 (lv_at hl 5 rfl) ?_
          refine z_call C (c_X1_quotientOf l (x8) (x10) (by first | assumption | omega | rfl | exact decide_eq_false (by omega) | exact decide_eq_true (by assumption) | exact decide_eq_true (by omega) | exact one_shl33 (by omega) | exact pm_lt _ _ | exact rm_lt (by first | assumption | exact pm_lt _ _) | exact Nat.lt_of_le_of_lt (Nat.shiftRight_le _ _) (by assumption) | exact Nat.lt_of_le_of_lt Nat.and_le_right (by omega)) (by first | assumption | omega | rfl | exact decide_eq_false (by omega) | exact decide_eq_true (by assumption) | exact decide_eq_true (by omega) | exact one_shl33 (by omega) | exact pm_lt _ _ | exact rm_lt (by first | assumption | exact pm_lt _ _) | exact Nat.lt_of_le_of_lt (Nat.shiftRight_le _ _) (by assumption) | exact Nat.lt_of_le_of_lt Nat.and_le_right (by omega))) ml_X1_25 ⟨by decide, by decide⟩ ⟨Nat.le_refl _, Nat.le_refl _⟩ hl (Nat.le_of_ble_eq_true rfl) rfl dX1_euclid_35 ?_
          refine lv_lstore (lv' := [(17, .long (lN (qo (x8) (x10)))), (0, .long (lN (a))), (2, .long (lN (b))), (4, .long (lN (x))), (6, .long (lN (y))), (8, .long (lN (x8))), (10, .long (lN (x10))), (12, .long (lN (x12))), (14, .long (lN (x14))), (16, .int (iZ (x16)))]) C.1 C.2.1 dX1_euclid_38 hl (by decide) rfl (fun ls hl => ?_)
          refine lv_lload C.1 C.2.1 dX1_euclid_40 (lv_at hl 5 rfl) ?_
          refine lv_lload C.1 C.2.1 dX1_euclid_42 (lv_at hl 0 rfl) ?_
          refine lv_lload C.1 C.2.1 dX1_euclid_44 (lv_at hl 6 rfl) ?_
          refine z_call C (c_X1_product l (qo (x8) (x10)) (x10) (by first | assumption | omega | rfl | exact decide_eq_false (by omega) | exact decide_eq_true (by assumption) | exact decide_eq_true (by omega) | exact one_shl33 (by omega) | exact pm_lt _ _ | exact rm_lt (by first | assumption | exact pm_lt _ _) | exact Nat.lt_of_le_of_lt (Nat.shiftRight_le _ _) (by assumption) | exact Nat.lt_of_le_of_lt Nat.and_le_right (by omega))) ml_X1_29 ⟨by decide, by decide⟩ ⟨Nat.le_refl _, Nat.le_refl _⟩ hl (Nat.le_of_ble_eq_true rfl) rfl dX1_euclid_46 ?_
          refine z_lxor C dX1_euclid_49 ?_
          refine lv_lstore (lv' := [(19, .long (lN ((x8) ^^^ (pm (qo (x8) (x10)) (x10))))), (17, .long (lN (qo (x8) (x10)))), (0, .long (lN (a))), (2, .long (lN (b))), (4, .long (lN (x))), (6, .long (lN (y))), (8, .long (lN (x8))), (10, .long (lN (x10))), (12, .long (lN (x12))), (14, .long (lN (x14))), (16, .int (iZ (x16)))]) C.1 C.2.1 dX1_euclid_50 hl (by decide) rfl (fun ls hl => ?_)
          refine lv_lload C.1 C.2.1 dX1_euclid_52 (lv_at hl 8 rfl) ?_
          refine lv_lload C.1 C.2.1 dX1_euclid_54 (lv_at hl 1 rfl) ?_
          refine lv_lload C.1 C.2.1 dX1_euclid_56 (lv_at hl 9 rfl) ?_
          refine z_call C (c_X1_product l (qo (x8) (x10)) (x14) (by first | assumption | omega | rfl | exact decide_eq_false (by omega) | exact decide_eq_true (by assumption) | exact decide_eq_true (by omega) | exact one_shl33 (by omega) | exact pm_lt _ _ | exact rm_lt (by first | assumption | exact pm_lt _ _) | exact Nat.lt_of_le_of_lt (Nat.shiftRight_le _ _) (by assumption) | exact Nat.lt_of_le_of_lt Nat.and_le_right (by omega))) ml_X1_29 ⟨by decide, by decide⟩ ⟨Nat.le_refl _, Nat.le_refl _⟩ hl (Nat.le_of_ble_eq_true rfl) rfl dX1_euclid_58 ?_
          refine z_lxor C dX1_euclid_61 ?_
          refine lv_lstore (lv' := [(21, .long (lN ((x12) ^^^ (pm (qo (x8) (x10)) (x14))))), (19, .long (lN ((x8) ^^^ (pm (qo (x8) (x10)) (x10))))), (17, .long (lN (qo (x8) (x10)))), (0, .long (lN (a))), (2, .long (lN (b))), (4, .long (lN (x))), (6, .long (lN (y))), (8, .long (lN (x8))), (10, .long (lN (x10))), (12, .long (lN (x12))), (14, .long (lN (x14))), (16, .int (iZ (x16)))]) C.1 C.2.1 dX1_euclid_62 hl (by decide) rfl (fun ls hl => ?_)
          refine lv_lload C.1 C.2.1 dX1_euclid_64 (lv_at hl 8 rfl) ?_
          refine lv_lstore (lv' := [(8, .long (lN (x10))), (21, .long (lN ((x12) ^^^ (pm (qo (x8) (x10)) (x14))))), (19, .long (lN ((x8) ^^^ (pm (qo (x8) (x10)) (x10))))), (17, .long (lN (qo (x8) (x10)))), (0, .long (lN (a))), (2, .long (lN (b))), (4, .long (lN (x))), (6, .long (lN (y))), (10, .long (lN (x10))), (12, .long (lN (x12))), (14, .long (lN (x14))), (16, .int (iZ (x16)))]) C.1 C.2.1 dX1_euclid_66 hl (by decide) rfl (fun ls hl => ?_)
          refine lv_lload C.1 C.2.1 dX1_euclid_68 (lv_at hl 2 rfl) ?_
          refine lv_lstore (lv' := [(10, .long (lN ((x8) ^^^ (pm (qo (x8) (x10)) (x10))))), (8, .long (lN (x10))), (21, .long (lN ((x12) ^^^ (pm (qo (x8) (x10)) (x14))))), (19, .long (lN ((x8) ^^^ (pm (qo (x8) (x10)) (x10))))), (17, .long (lN (qo (x8) (x10)))), (0, .long (lN (a))), (2, .long (lN (b))), (4, .long (lN (x))), (6, .long (lN (y))), (12, .long (lN (x12))), (14, .long (lN (x14))), (16, .int (iZ (x16)))]) C.1 C.2.1 dX1_euclid_70 hl (by decide) rfl (fun ls hl => ?_)
          refine lv_lload C.1 C.2.1 dX1_euclid_72 (lv_at hl 10 rfl) ?_
          refine lv_lstore (lv' := [(12, .long (lN (x14))), (10, .long (lN ((x8) ^^^ (pm (qo (x8) (x10)) (x10))))), (8, .long (lN (x10))), (21, .long (lN ((x12) ^^^ (pm (qo (x8) (x10)) (x14))))), (19, .long (lN ((x8) ^^^ (pm (qo (x8) (x10)) (x10))))), (17, .long (lN (qo (x8) (x10)))), (0, .long (lN (a))), (2, .long (lN (b))), (4, .long (lN (x))), (6, .long (lN (y))), (14, .long (lN (x14))), (16, .int (iZ (x16)))]) C.1 C.2.1 dX1_euclid_74 hl (by decide) rfl (fun ls hl => ?_)
          refine lv_lload C.1 C.2.1 dX1_euclid_76 (lv_at hl 3 rfl) ?_
          refine lv_lstore (lv' := [(14, .long (lN ((x12) ^^^ (pm (qo (x8) (x10)) (x14))))), (12, .long (lN (x14))), (10, .long (lN ((x8) ^^^ (pm (qo (x8) (x10)) (x10))))), (8, .long (lN (x10))), (21, .long (lN ((x12) ^^^ (pm (qo (x8) (x10)) (x14))))), (19, .long (lN ((x8) ^^^ (pm (qo (x8) (x10)) (x10))))), (17, .long (lN (qo (x8) (x10)))), (0, .long (lN (a))), (2, .long (lN (b))), (4, .long (lN (x))), (6, .long (lN (y))), (16, .int (iZ (x16)))]) C.1 C.2.1 dX1_euclid_78 hl (by decide) rfl (fun ls hl => ?_)
          refine z_iinc (j := 11) (lv' := [(16, .int (iZ (x16 + 1))), (14, .long (lN ((x12) ^^^ (pm (qo (x8) (x10)) (x14))))), (12, .long (lN (x14))), (10, .long (lN ((x8) ^^^ (pm (qo (x8) (x10)) (x10))))), (8, .long (lN (x10))), (21, .long (lN ((x12) ^^^ (pm (qo (x8) (x10)) (x14))))), (19, .long (lN ((x8) ^^^ (pm (qo (x8) (x10)) (x10))))), (17, .long (lN (qo (x8) (x10)))), (0, .long (lN (a))), (2, .long (lN (b))), (4, .long (lN (x))), (6, .long (lN (y)))]) C dX1_euclid_80 hl rfl (by decide) rfl (fun ls hl => ?_)
          refine lv_goto (tgt := 17) C.1 C.2.1 dX1_euclid_83 (by decide) ?_
          obtain ⟨f, rfl⟩ : ∃ g, f = g + 1 := ⟨f - 1, by omega⟩
          rw [euF_s h27] at i17_6
          exact ih17 (f) _ _ _ _ _ _ (by omega) (by omega) (by omega) (by exact i17_3) (by exact rm_lt i17_2) (by exact i17_5) (by exact xor64 i17_4 (pm_lt _ _)) (by exact i17_6) (lv_sub hl [8, 9, 10, 11, 4, 3, 2, 1, 0] rfl)
  exact L17 _ (65) _ _ _ _ _ _ (by exact Nat.lt_succ_self _) (by rfl) (by decide) (by exact ha) (by exact hb) (by exact hx) (by exact hy) (by rfl) (lv_sub hl [5, 6, 7, 8, 4, 3, 2, 1, 0] rfl)

set_option maxHeartbeats 4000000 in
set_option maxRecDepth 100000 in
theorem c_X1_gcdOf (l : Launch) (a : Nat) (b : Nat) (ha : a < 18446744073709551616) (hb : b < 18446744073709551616) : zP l yX1_gcdOf 3 117 [.long (lN (a)), .long (lN (b))] (.long (lN (eu a b a b))) := by
  refine zP.intro (lo := 94) (nA := 2) (own := RX1) zs_X1_gcdOf (by decide) rfl rfl (by decide +kernel) rfl (Nat.le_of_ble_eq_true rfl) ?_
  intro p e s m below meth c ls C hr hk hl
  have hl : lv_has ls 4 [(0, .long (lN (a))), (2, .long (lN (b)))] := hl
  refine lv_lload_n C.1 C.2.1 dX1_gcdOf_0 rfl (lv_at hl 0 rfl) ?_
  refine lv_lload_n C.1 C.2.1 dX1_gcdOf_1 rfl (lv_at hl 1 rfl) ?_
  refine lv_lload_n C.1 C.2.1 dX1_gcdOf_2 rfl (lv_at hl 0 rfl) ?_
  refine lv_lload_n C.1 C.2.1 dX1_gcdOf_3 rfl (lv_at hl 1 rfl) ?_
  refine z_call C (c_X1_euclid l (a) (b) (a) (b) (by first | assumption | omega | rfl | exact decide_eq_false (by omega) | exact decide_eq_true (by assumption) | exact decide_eq_true (by omega) | exact one_shl33 (by omega) | exact pm_lt _ _ | exact rm_lt (by first | assumption | exact pm_lt _ _) | exact Nat.lt_of_le_of_lt (Nat.shiftRight_le _ _) (by assumption) | exact Nat.lt_of_le_of_lt Nat.and_le_right (by omega)) (by first | assumption | omega | rfl | exact decide_eq_false (by omega) | exact decide_eq_true (by assumption) | exact decide_eq_true (by omega) | exact one_shl33 (by omega) | exact pm_lt _ _ | exact rm_lt (by first | assumption | exact pm_lt _ _) | exact Nat.lt_of_le_of_lt (Nat.shiftRight_le _ _) (by assumption) | exact Nat.lt_of_le_of_lt Nat.and_le_right (by omega)) (by first | assumption | omega | rfl | exact decide_eq_false (by omega) | exact decide_eq_true (by assumption) | exact decide_eq_true (by omega) | exact one_shl33 (by omega) | exact pm_lt _ _ | exact rm_lt (by first | assumption | exact pm_lt _ _) | exact Nat.lt_of_le_of_lt (Nat.shiftRight_le _ _) (by assumption) | exact Nat.lt_of_le_of_lt Nat.and_le_right (by omega)) (by first | assumption | omega | rfl | exact decide_eq_false (by omega) | exact decide_eq_true (by assumption) | exact decide_eq_true (by omega) | exact one_shl33 (by omega) | exact pm_lt _ _ | exact rm_lt (by first | assumption | exact pm_lt _ _) | exact Nat.lt_of_le_of_lt (Nat.shiftRight_le _ _) (by assumption) | exact Nat.lt_of_le_of_lt Nat.and_le_right (by omega))) ml_X1_35 ⟨by decide, by decide⟩ ⟨Nat.le_refl _, Nat.le_refl _⟩ hl (Nat.le_of_ble_eq_true rfl) rfl dX1_gcdOf_4 ?_
  have q4_0 := eu_ltE (a) (b) (a) (b) (by first | assumption | omega) (by first | assumption | omega)
  exact z_lret C hr hk dX1_gcdOf_7 (congrArg (fun z : Nat => Value.long (lN z)) (by rfl))

set_option maxHeartbeats 4000000 in
set_option maxRecDepth 100000 in
theorem c_X1_firstBezout (l : Launch) (a : Nat) (b : Nat) (ha : a < 18446744073709551616) (hb : b < 18446744073709551616) : zP l yX1_firstBezout 3 117 [.long (lN (a)), .long (lN (b))] (.long (lN (eu a b 1 0))) := by
  refine zP.intro (lo := 94) (nA := 2) (own := RX1) zs_X1_firstBezout (by decide) rfl rfl (by decide +kernel) rfl (Nat.le_of_ble_eq_true rfl) ?_
  intro p e s m below meth c ls C hr hk hl
  have hl : lv_has ls 4 [(0, .long (lN (a))), (2, .long (lN (b)))] := hl
  refine lv_lload_n C.1 C.2.1 dX1_firstBezout_0 rfl (lv_at hl 0 rfl) ?_
  refine lv_lload_n C.1 C.2.1 dX1_firstBezout_1 rfl (lv_at hl 1 rfl) ?_
  refine z_lconst (k0 := 1) C dX1_firstBezout_2 rfl ?_
  refine z_lconst (k0 := 0) C dX1_firstBezout_3 rfl ?_
  refine z_call C (c_X1_euclid l (a) (b) (1) (0) (by first | assumption | omega | rfl | exact decide_eq_false (by omega) | exact decide_eq_true (by assumption) | exact decide_eq_true (by omega) | exact one_shl33 (by omega) | exact pm_lt _ _ | exact rm_lt (by first | assumption | exact pm_lt _ _) | exact Nat.lt_of_le_of_lt (Nat.shiftRight_le _ _) (by assumption) | exact Nat.lt_of_le_of_lt Nat.and_le_right (by omega)) (by first | assumption | omega | rfl | exact decide_eq_false (by omega) | exact decide_eq_true (by assumption) | exact decide_eq_true (by omega) | exact one_shl33 (by omega) | exact pm_lt _ _ | exact rm_lt (by first | assumption | exact pm_lt _ _) | exact Nat.lt_of_le_of_lt (Nat.shiftRight_le _ _) (by assumption) | exact Nat.lt_of_le_of_lt Nat.and_le_right (by omega)) (by first | assumption | omega | rfl | exact decide_eq_false (by omega) | exact decide_eq_true (by assumption) | exact decide_eq_true (by omega) | exact one_shl33 (by omega) | exact pm_lt _ _ | exact rm_lt (by first | assumption | exact pm_lt _ _) | exact Nat.lt_of_le_of_lt (Nat.shiftRight_le _ _) (by assumption) | exact Nat.lt_of_le_of_lt Nat.and_le_right (by omega)) (by first | assumption | omega | rfl | exact decide_eq_false (by omega) | exact decide_eq_true (by assumption) | exact decide_eq_true (by omega) | exact one_shl33 (by omega) | exact pm_lt _ _ | exact rm_lt (by first | assumption | exact pm_lt _ _) | exact Nat.lt_of_le_of_lt (Nat.shiftRight_le _ _) (by assumption) | exact Nat.lt_of_le_of_lt Nat.and_le_right (by omega))) ml_X1_35 ⟨by decide, by decide⟩ ⟨Nat.le_refl _, Nat.le_refl _⟩ hl (Nat.le_of_ble_eq_true rfl) rfl dX1_firstBezout_4 ?_
  have q4_0 := eu_ltE (a) (b) (1) (0) (by first | assumption | omega) (by first | assumption | omega)
  exact z_lret C hr hk dX1_firstBezout_7 (congrArg (fun z : Nat => Value.long (lN z)) (by rfl))

set_option maxHeartbeats 4000000 in
set_option maxRecDepth 100000 in
theorem c_X1_secondBezout (l : Launch) (a : Nat) (b : Nat) (ha : a < 18446744073709551616) (hb : b < 18446744073709551616) : zP l yX1_secondBezout 3 117 [.long (lN (a)), .long (lN (b))] (.long (lN (eu a b 0 1))) := by
  refine zP.intro (lo := 94) (nA := 2) (own := RX1) zs_X1_secondBezout (by decide) rfl rfl (by decide +kernel) rfl (Nat.le_of_ble_eq_true rfl) ?_
  intro p e s m below meth c ls C hr hk hl
  have hl : lv_has ls 4 [(0, .long (lN (a))), (2, .long (lN (b)))] := hl
  refine lv_lload_n C.1 C.2.1 dX1_secondBezout_0 rfl (lv_at hl 0 rfl) ?_
  refine lv_lload_n C.1 C.2.1 dX1_secondBezout_1 rfl (lv_at hl 1 rfl) ?_
  refine z_lconst (k0 := 0) C dX1_secondBezout_2 rfl ?_
  refine z_lconst (k0 := 1) C dX1_secondBezout_3 rfl ?_
  refine z_call C (c_X1_euclid l (a) (b) (0) (1) (by first | assumption | omega | rfl | exact decide_eq_false (by omega) | exact decide_eq_true (by assumption) | exact decide_eq_true (by omega) | exact one_shl33 (by omega) | exact pm_lt _ _ | exact rm_lt (by first | assumption | exact pm_lt _ _) | exact Nat.lt_of_le_of_lt (Nat.shiftRight_le _ _) (by assumption) | exact Nat.lt_of_le_of_lt Nat.and_le_right (by omega)) (by first | assumption | omega | rfl | exact decide_eq_false (by omega) | exact decide_eq_true (by assumption) | exact decide_eq_true (by omega) | exact one_shl33 (by omega) | exact pm_lt _ _ | exact rm_lt (by first | assumption | exact pm_lt _ _) | exact Nat.lt_of_le_of_lt (Nat.shiftRight_le _ _) (by assumption) | exact Nat.lt_of_le_of_lt Nat.and_le_right (by omega)) (by first | assumption | omega | rfl | exact decide_eq_false (by omega) | exact decide_eq_true (by assumption) | exact decide_eq_true (by omega) | exact one_shl33 (by omega) | exact pm_lt _ _ | exact rm_lt (by first | assumption | exact pm_lt _ _) | exact Nat.lt_of_le_of_lt (Nat.shiftRight_le _ _) (by assumption) | exact Nat.lt_of_le_of_lt Nat.and_le_right (by omega)) (by first | assumption | omega | rfl | exact decide_eq_false (by omega) | exact decide_eq_true (by assumption) | exact decide_eq_true (by omega) | exact one_shl33 (by omega) | exact pm_lt _ _ | exact rm_lt (by first | assumption | exact pm_lt _ _) | exact Nat.lt_of_le_of_lt (Nat.shiftRight_le _ _) (by assumption) | exact Nat.lt_of_le_of_lt Nat.and_le_right (by omega))) ml_X1_35 ⟨by decide, by decide⟩ ⟨Nat.le_refl _, Nat.le_refl _⟩ hl (Nat.le_of_ble_eq_true rfl) rfl dX1_secondBezout_4 ?_
  have q4_0 := eu_ltE (a) (b) (0) (1) (by first | assumption | omega) (by first | assumption | omega)
  exact z_lret C hr hk dX1_secondBezout_7 (congrArg (fun z : Nat => Value.long (lN z)) (by rfl))

set_option maxHeartbeats 4000000 in
set_option maxRecDepth 100000 in
theorem c_X1_derived (l : Launch) (n : Nat) (hn : n < 18446744073709551616) : zP l yX1_derived 0 21 [.long (lN (n))] (.long (lN (dv n))) := by
  refine zP.intro (lo := 0) (nA := 1) (own := RX1) zs_X1_derived (by decide) rfl rfl (by decide +kernel) rfl (Nat.le_of_ble_eq_true rfl) ?_
  intro p e s m below meth c ls C hr hk hl
  have hl : lv_has ls 2 [(0, .long (lN (n)))] := hl
  refine lv_lload_n C.1 C.2.1 dX1_derived_0 rfl (lv_at hl 0 rfl) ?_
  refine z_iconst C dX1_derived_1 ?_
  refine z_lushr C (1) (by first | assumption | omega | rfl | exact decide_eq_false (by omega) | exact decide_eq_true (by assumption) | exact decide_eq_true (by omega) | exact one_shl33 (by omega) | exact pm_lt _ _ | exact rm_lt (by first | assumption | exact pm_lt _ _) | exact Nat.lt_of_le_of_lt (Nat.shiftRight_le _ _) (by assumption) | exact Nat.lt_of_le_of_lt Nat.and_le_right (by omega)) (by omega) (by omega) dX1_derived_2 ?_
  refine z_ldc2 C 6148914691236517205 (T0_of kl_X1_39 rfl) (by decide) dX1_derived_3 ?_
  refine z_land C dX1_derived_6 ?_
  exact z_lret C hr hk dX1_derived_7 (congrArg (fun z : Nat => Value.long (lN z)) (by rfl))

set_option maxHeartbeats 4000000 in
set_option maxRecDepth 100000 in
theorem c_X1_evenPlacesHalved (l : Launch) (n : Nat) (hn : n < 18446744073709551616) : zP l yX1_evenPlacesHalved 1 46 [.long (lN (n))] (.long (lN (eh n))) := by
  refine zP.intro (lo := 22) (nA := 1) (own := RX1) zs_X1_evenPlacesHalved (by decide) rfl rfl (by decide +kernel) rfl (Nat.le_of_ble_eq_true rfl) ?_
  intro p e s m below meth c ls C hr hk hl
  have hl : lv_has ls 5 [(0, .long (lN (n)))] := hl
  refine z_lconst (k0 := 0) C dX1_evenPlacesHalved_0 rfl ?_
  refine lv_lstore_n (lv' := [(2, .long (lN (0))), (0, .long (lN (n)))]) C.1 C.2.1 dX1_evenPlacesHalved_1 rfl hl (by decide) rfl (fun ls hl => ?_)
  refine z_iconst C dX1_evenPlacesHalved_2 ?_
  refine lv_istore (lv' := [(4, .int (iZ (0))), (2, .long (lN (0))), (0, .long (lN (n)))]) C.1 C.2.1 dX1_evenPlacesHalved_3 hl (by decide) rfl (fun ls hl => ?_)
  have L5 : ∀ (j : Nat) (k : Nat) (x2 : Nat) (x4 : Int) (ls : Array Slot), 32 - k < j → (x4 = 2 * (k : Int)) → (k ≤ 32) → (x2 = ehF n k) → lv_has ls 5 [(0, .long (lN (n))), (2, .long (lN (x2))), (4, .int (iZ (x4)))] → W p l e { frames := 1, cells := 0, slots := 0, locals := 22 } s m ([.long (lN (n))] : List Value).toArray below meth c s.heap [] 0 0 (zQ below [.long (lN (n))] s (.long (lN (eh n)))) (F0 m 5 ls []) := by
    intro j
    induction j with
    | zero => intro k x2 x4 ls hmu; exact absurd hmu (Nat.not_lt_zero _)
    | succ j ih5 =>
      intro k x2 x4 ls hmu i5_0 i5_1 i5_2 hl
      refine lv_iload C.1 C.2.1 dX1_evenPlacesHalved_5 (lv_at hl 2 rfl) ?_
      refine z_bipush C dX1_evenPlacesHalved_7 (by decide) ?_
      refine z_icmp_ge (tgt := 37) C (by omega) (by omega) dX1_evenPlacesHalved_9 (by decide) (fun h9 => ?_) (fun h9 => ?_)
      · refine lv_lload_n C.1 C.2.1 dX1_evenPlacesHalved_37 rfl (lv_at hl 1 rfl) ?_
        exact z_lret C hr hk dX1_evenPlacesHalved_38 (congrArg (fun z : Nat => Value.long (lN z)) (by rw [i5_2, show k = 32 by omega]; rfl))
      · refine lv_lload_n C.1 C.2.1 dX1_evenPlacesHalved_12 rfl (lv_at hl 0 rfl) ?_
        refine lv_iload C.1 C.2.1 dX1_evenPlacesHalved_13 (lv_at hl 2 rfl) ?_
        refine z_call C (c_X1_hasOne l (n) (x4) (by first | assumption | omega | rfl | exact decide_eq_false (by omega) | exact decide_eq_true (by assumption) | exact decide_eq_true (by omega) | exact one_shl33 (by omega) | exact pm_lt _ _ | exact rm_lt (by first | assumption | exact pm_lt _ _) | exact Nat.lt_of_le_of_lt (Nat.shiftRight_le _ _) (by assumption) | exact Nat.lt_of_le_of_lt Nat.and_le_right (by omega)) (by first | assumption | omega | rfl | exact decide_eq_false (by omega) | exact decide_eq_true (by assumption) | exact decide_eq_true (by omega) | exact one_shl33 (by omega) | exact pm_lt _ _ | exact rm_lt (by first | assumption | exact pm_lt _ _) | exact Nat.lt_of_le_of_lt (Nat.shiftRight_le _ _) (by assumption) | exact Nat.lt_of_le_of_lt Nat.and_le_right (by omega))) ml_X1_11 ⟨by decide, by decide⟩ ⟨Nat.le_refl _, Nat.le_refl _⟩ hl (Nat.le_of_ble_eq_true rfl) rfl dX1_evenPlacesHalved_15 ?_
        refine z_ifB_eq (tgt := 31) C dX1_evenPlacesHalved_18 (by decide) (fun h18 => ?_) (fun h18 => ?_)
        · refine z_iinc (j := 2) (lv' := [(4, .int (iZ (x4 + 2))), (0, .long (lN (n))), (2, .long (lN (x2)))]) C dX1_evenPlacesHalved_31 hl rfl (by decide) rfl (fun ls hl => ?_)
          refine lv_goto (tgt := 5) C.1 C.2.1 dX1_evenPlacesHalved_34 (by decide) ?_
          rw [tb_k (k := 2 * k) (by omega) (by omega)] at h18
          exact ih5 (k + 1) _ _ _ (by omega) (by omega) (by omega) (by rw [ehF_f h18]; exact i5_2) (lv_sub hl [1, 2, 0] rfl)
        · refine lv_lload_n C.1 C.2.1 dX1_evenPlacesHalved_21 rfl (lv_at hl 1 rfl) ?_
          refine lv_iload C.1 C.2.1 dX1_evenPlacesHalved_22 (lv_at hl 2 rfl) ?_
          refine z_iconst C dX1_evenPlacesHalved_24 ?_
          refine z_idiv C (by omega) (by omega) dX1_evenPlacesHalved_25 ?_
          refine z_call C (c_X1_single l ((x4) / (2)) (by first | assumption | omega | rfl | exact decide_eq_false (by omega) | exact decide_eq_true (by assumption) | exact decide_eq_true (by omega) | exact one_shl33 (by omega) | exact pm_lt _ _ | exact rm_lt (by first | assumption | exact pm_lt _ _) | exact Nat.lt_of_le_of_lt (Nat.shiftRight_le _ _) (by assumption) | exact Nat.lt_of_le_of_lt Nat.and_le_right (by omega))) ml_X1_21 ⟨by decide, by decide⟩ ⟨Nat.le_refl _, Nat.le_refl _⟩ hl (Nat.le_of_ble_eq_true rfl) rfl dX1_evenPlacesHalved_26 ?_
          refine z_lor C dX1_evenPlacesHalved_29 ?_
          refine lv_lstore_n (lv' := [(2, .long (lN ((x2) ||| (1 <<< ((x4) / (2)).toNat)))), (0, .long (lN (n))), (4, .int (iZ (x4)))]) C.1 C.2.1 dX1_evenPlacesHalved_30 rfl hl (by decide) rfl (fun ls hl => ?_)
          refine z_iinc (j := 2) (lv' := [(4, .int (iZ (x4 + 2))), (2, .long (lN ((x2) ||| (1 <<< ((x4) / (2)).toNat)))), (0, .long (lN (n)))]) C dX1_evenPlacesHalved_31 hl rfl (by decide) rfl (fun ls hl => ?_)
          refine lv_goto (tgt := 5) C.1 C.2.1 dX1_evenPlacesHalved_34 (by decide) ?_
          rw [tb_k (k := 2 * k) (by omega) (by omega)] at h18
          have ek : (x4 / 2).toNat = k := by omega
          exact ih5 (k + 1) _ _ _ (by omega) (by omega) (by omega) (by rw [ehF_t h18, ek, i5_2]) (lv_sub hl [2, 1, 0] rfl)
  exact L5 _ (0) _ _ _ (by exact Nat.lt_succ_self _) (by rfl) (by omega) (by rfl) (lv_sub hl [2, 1, 0] rfl)

set_option maxHeartbeats 4000000 in
set_option maxRecDepth 100000 in
theorem c_X1_turned (l : Launch) (n : Nat) (hn : n < 18446744073709551616) : zP l yX1_turned 1 48 [.long (lN (n))] (.long (lN (tu n))) := by
  refine zP.intro (lo := 23) (nA := 1) (own := RX1) zs_X1_turned (by decide) rfl rfl (by decide +kernel) rfl (Nat.le_of_ble_eq_true rfl) ?_
  intro p e s m below meth c ls C hr hk hl
  have hl : lv_has ls 6 [(0, .long (lN (n)))] := hl
  refine lv_lload_n C.1 C.2.1 dX1_turned_0 rfl (lv_at hl 0 rfl) ?_
  refine z_call C (c_X1_topPlace l (n) (by first | assumption | omega | rfl | exact decide_eq_false (by omega) | exact decide_eq_true (by assumption) | exact decide_eq_true (by omega) | exact one_shl33 (by omega) | exact pm_lt _ _ | exact rm_lt (by first | assumption | exact pm_lt _ _) | exact Nat.lt_of_le_of_lt (Nat.shiftRight_le _ _) (by assumption) | exact Nat.lt_of_le_of_lt Nat.and_le_right (by omega))) ml_X1_17 ⟨by decide, by decide⟩ ⟨Nat.le_refl _, Nat.le_refl _⟩ hl (Nat.le_of_ble_eq_true rfl) rfl dX1_turned_1 ?_
  have q1_0 := tp_rngE (n) (by first | assumption | omega)
  refine lv_istore_n (lv' := [(2, .int (iZ (tp (n)))), (0, .long (lN (n)))]) C.1 C.2.1 dX1_turned_4 rfl hl (by decide) rfl (fun ls hl => ?_)
  refine z_lconst (k0 := 0) C dX1_turned_5 rfl ?_
  refine lv_lstore_n (lv' := [(3, .long (lN (0))), (2, .int (iZ (tp (n)))), (0, .long (lN (n)))]) C.1 C.2.1 dX1_turned_6 rfl hl (by decide) rfl (fun ls hl => ?_)
  refine z_iconst C dX1_turned_7 ?_
  refine lv_istore (lv' := [(5, .int (iZ (0))), (3, .long (lN (0))), (2, .int (iZ (tp (n)))), (0, .long (lN (n)))]) C.1 C.2.1 dX1_turned_8 hl (by decide) rfl (fun ls hl => ?_)
  have L10 : ∀ (j : Nat) (k : Nat) (x3 : Nat) (x5 : Int) (ls : Array Slot), 65 - k < j → (x5 = (k : Int)) → ((k : Int) ≤ tp n + 1) → (x3 = tuF n (tp n) k) → lv_has ls 6 [(0, .long (lN (n))), (2, .int (iZ (tp (n)))), (3, .long (lN (x3))), (5, .int (iZ (x5)))] → W p l e { frames := 1, cells := 0, slots := 0, locals := 23 } s m ([.long (lN (n))] : List Value).toArray below meth c s.heap [] 0 0 (zQ below [.long (lN (n))] s (.long (lN (tu n)))) (F0 m 10 ls []) := by
    intro j
    induction j with
    | zero => intro k x3 x5 ls hmu; exact absurd hmu (Nat.not_lt_zero _)
    | succ j ih10 =>
      intro k x3 x5 ls hmu i10_0 i10_1 i10_2 hl
      have hr9 := tp_rng hn
      refine lv_iload C.1 C.2.1 dX1_turned_10 (lv_at hl 3 rfl) ?_
      refine lv_iload_n C.1 C.2.1 dX1_turned_12 rfl (lv_at hl 1 rfl) ?_
      refine z_icmp_gt (tgt := 41) C (by omega) (by omega) dX1_turned_13 (by decide) (fun h13 => ?_) (fun h13 => ?_)
      · refine lv_lload_n C.1 C.2.1 dX1_turned_41 rfl (lv_at hl 2 rfl) ?_
        exact z_lret C hr hk dX1_turned_42 (congrArg (fun z : Nat => Value.long (lN z)) (by rw [i10_2, tu, show k = (tp n + 1).toNat by omega]))
      · refine lv_lload_n C.1 C.2.1 dX1_turned_16 rfl (lv_at hl 0 rfl) ?_
        refine lv_iload C.1 C.2.1 dX1_turned_17 (lv_at hl 3 rfl) ?_
        refine z_call C (c_X1_hasOne l (n) (x5) (by first | assumption | omega | rfl | exact decide_eq_false (by omega) | exact decide_eq_true (by assumption) | exact decide_eq_true (by omega) | exact one_shl33 (by omega) | exact pm_lt _ _ | exact rm_lt (by first | assumption | exact pm_lt _ _) | exact Nat.lt_of_le_of_lt (Nat.shiftRight_le _ _) (by assumption) | exact Nat.lt_of_le_of_lt Nat.and_le_right (by omega)) (by first | assumption | omega | rfl | exact decide_eq_false (by omega) | exact decide_eq_true (by assumption) | exact decide_eq_true (by omega) | exact one_shl33 (by omega) | exact pm_lt _ _ | exact rm_lt (by first | assumption | exact pm_lt _ _) | exact Nat.lt_of_le_of_lt (Nat.shiftRight_le _ _) (by assumption) | exact Nat.lt_of_le_of_lt Nat.and_le_right (by omega))) ml_X1_11 ⟨by decide, by decide⟩ ⟨Nat.le_refl _, Nat.le_refl _⟩ hl (Nat.le_of_ble_eq_true rfl) rfl dX1_turned_19 ?_
        refine z_ifB_eq (tgt := 35) C dX1_turned_22 (by decide) (fun h22 => ?_) (fun h22 => ?_)
        · refine z_iinc (j := 3) (lv' := [(5, .int (iZ (x5 + 1))), (0, .long (lN (n))), (2, .int (iZ (tp (n)))), (3, .long (lN (x3)))]) C dX1_turned_35 hl rfl (by decide) rfl (fun ls hl => ?_)
          refine lv_goto (tgt := 10) C.1 C.2.1 dX1_turned_38 (by decide) ?_
          rw [tb_k i10_0 (by omega)] at h22
          exact ih10 (k + 1) _ _ _ (by omega) (by omega) (by omega) (by rw [tuF_f h22]; exact i10_2) (lv_sub hl [1, 2, 3, 0] rfl)
        · refine lv_lload_n C.1 C.2.1 dX1_turned_25 rfl (lv_at hl 2 rfl) ?_
          refine lv_iload_n C.1 C.2.1 dX1_turned_26 rfl (lv_at hl 1 rfl) ?_
          refine lv_iload C.1 C.2.1 dX1_turned_27 (lv_at hl 3 rfl) ?_
          refine z_isub C dX1_turned_29 ?_
          refine z_call C (c_X1_single l ((tp (n)) - (x5)) (by first | assumption | omega | rfl | exact decide_eq_false (by omega) | exact decide_eq_true (by assumption) | exact decide_eq_true (by omega) | exact one_shl33 (by omega) | exact pm_lt _ _ | exact rm_lt (by first | assumption | exact pm_lt _ _) | exact Nat.lt_of_le_of_lt (Nat.shiftRight_le _ _) (by assumption) | exact Nat.lt_of_le_of_lt Nat.and_le_right (by omega))) ml_X1_21 ⟨by decide, by decide⟩ ⟨Nat.le_refl _, Nat.le_refl _⟩ hl (Nat.le_of_ble_eq_true rfl) rfl dX1_turned_30 ?_
          refine z_lor C dX1_turned_33 ?_
          refine lv_lstore_n (lv' := [(3, .long (lN ((x3) ||| (1 <<< ((tp (n)) - (x5)).toNat)))), (0, .long (lN (n))), (2, .int (iZ (tp (n)))), (5, .int (iZ (x5)))]) C.1 C.2.1 dX1_turned_34 rfl hl (by decide) rfl (fun ls hl => ?_)
          refine z_iinc (j := 3) (lv' := [(5, .int (iZ (x5 + 1))), (3, .long (lN ((x3) ||| (1 <<< ((tp (n)) - (x5)).toNat)))), (0, .long (lN (n))), (2, .int (iZ (tp (n))))]) C dX1_turned_35 hl rfl (by decide) rfl (fun ls hl => ?_)
          refine lv_goto (tgt := 10) C.1 C.2.1 dX1_turned_38 (by decide) ?_
          rw [tb_k i10_0 (by omega)] at h22
          exact ih10 (k + 1) _ _ _ (by omega) (by omega) (by omega) (by rw [tuF_t h22, i10_2, i10_0]) (lv_sub hl [2, 3, 1, 0] rfl)
  have hr9 := tp_rng hn
  exact L10 _ (0) _ _ _ (by exact Nat.lt_succ_self _) (by rfl) (by omega) (by rfl) (lv_sub hl [3, 2, 1, 0] rfl)

set_option maxHeartbeats 4000000 in
set_option maxRecDepth 100000 in
theorem c_X1_moved (l : Launch) (n : Nat) (hn : n < 18446744073709551616) : zP l yX1_moved 1 47 [.long (lN (n))] (.long (lN (mv n))) := by
  refine zP.intro (lo := 23) (nA := 1) (own := RX1) zs_X1_moved (by decide) rfl rfl (by decide +kernel) rfl (Nat.le_of_ble_eq_true rfl) ?_
  intro p e s m below meth c ls C hr hk hl
  have hl : lv_has ls 5 [(0, .long (lN (n)))] := hl
  refine z_lconst (k0 := 0) C dX1_moved_0 rfl ?_
  refine lv_lstore_n (lv' := [(2, .long (lN (0))), (0, .long (lN (n)))]) C.1 C.2.1 dX1_moved_1 rfl hl (by decide) rfl (fun ls hl => ?_)
  refine lv_lload_n C.1 C.2.1 dX1_moved_2 rfl (lv_at hl 1 rfl) ?_
  refine z_call C (c_X1_topPlace l (n) (by first | assumption | omega | rfl | exact decide_eq_false (by omega) | exact decide_eq_true (by assumption) | exact decide_eq_true (by omega) | exact one_shl33 (by omega) | exact pm_lt _ _ | exact rm_lt (by first | assumption | exact pm_lt _ _) | exact Nat.lt_of_le_of_lt (Nat.shiftRight_le _ _) (by assumption) | exact Nat.lt_of_le_of_lt Nat.and_le_right (by omega))) ml_X1_17 ⟨by decide, by decide⟩ ⟨Nat.le_refl _, Nat.le_refl _⟩ hl (Nat.le_of_ble_eq_true rfl) rfl dX1_moved_3 ?_
  have q3_0 := tp_rngE (n) (by first | assumption | omega)
  refine lv_istore (lv' := [(4, .int (iZ (tp (n)))), (2, .long (lN (0))), (0, .long (lN (n)))]) C.1 C.2.1 dX1_moved_6 hl (by decide) rfl (fun ls hl => ?_)
  have L8 : ∀ (j : Nat) (j0 : Nat) (x2 : Nat) (x4 : Int) (ls : Array Slot), j0 < j → (x4 + 1 = (j0 : Int)) → (j0 ≤ 64) → (mvF n j0 x2 % 18446744073709551616 = mv n) → lv_has ls 5 [(0, .long (lN (n))), (2, .long (lN (x2))), (4, .int (iZ (x4)))] → W p l e { frames := 1, cells := 0, slots := 0, locals := 23 } s m ([.long (lN (n))] : List Value).toArray below meth c s.heap [] 0 0 (zQ below [.long (lN (n))] s (.long (lN (mv n)))) (F0 m 8 ls []) := by
    intro j
    induction j with
    | zero => intro j0 x2 x4 ls hmu; exact absurd hmu (Nat.not_lt_zero _)
    | succ j ih8 =>
      intro j0 x2 x4 ls hmu i8_0 i8_1 i8_2 hl
      refine lv_iload C.1 C.2.1 dX1_moved_8 (lv_at hl 2 rfl) ?_
      refine z_if_lt (tgt := 32) C (by omega) dX1_moved_10 (by decide) (fun h10 => ?_) (fun h10 => ?_)
      · refine lv_lload_n C.1 C.2.1 dX1_moved_32 rfl (lv_at hl 1 rfl) ?_
        exact z_lret C hr hk dX1_moved_33 (by rw [← i8_2, lN_mod, show j0 = 0 by omega]; rfl)
      · refine lv_lload_n C.1 C.2.1 dX1_moved_13 rfl (lv_at hl 1 rfl) ?_
        refine z_iconst C dX1_moved_14 ?_
        refine z_lshl C (1) (by omega) (by omega) dX1_moved_15 ?_
        refine lv_lload_n C.1 C.2.1 dX1_moved_16 rfl (lv_at hl 1 rfl) ?_
        refine z_lxor C dX1_moved_17 ?_
        refine lv_lload_n C.1 C.2.1 dX1_moved_18 rfl (lv_at hl 0 rfl) ?_
        refine lv_iload C.1 C.2.1 dX1_moved_19 (lv_at hl 2 rfl) ?_
        refine z_lushr C ((x4).toNat) (by first | assumption | omega | rfl | exact decide_eq_false (by omega) | exact decide_eq_true (by assumption) | exact decide_eq_true (by omega) | exact one_shl33 (by omega) | exact pm_lt _ _ | exact rm_lt (by first | assumption | exact pm_lt _ _) | exact Nat.lt_of_le_of_lt (Nat.shiftRight_le _ _) (by assumption) | exact Nat.lt_of_le_of_lt Nat.and_le_right (by omega)) (by omega) (by omega) dX1_moved_21 ?_
        refine z_lconst (k0 := 1) C dX1_moved_22 rfl ?_
        refine z_land C dX1_moved_23 ?_
        refine z_lxor C dX1_moved_24 ?_
        refine lv_lstore_n (lv' := [(2, .long (lN ((((x2) <<< (1)) ^^^ (x2)) ^^^ (((n) >>> ((x4).toNat)) &&& (1))))), (0, .long (lN (n))), (4, .int (iZ (x4)))]) C.1 C.2.1 dX1_moved_25 rfl hl (by decide) rfl (fun ls hl => ?_)
        refine z_iinc (j := 2) (lv' := [(4, .int (iZ (x4 + (-1)))), (2, .long (lN ((((x2) <<< (1)) ^^^ (x2)) ^^^ (((n) >>> ((x4).toNat)) &&& (1))))), (0, .long (lN (n)))]) C dX1_moved_26 hl rfl (by decide) rfl (fun ls hl => ?_)
        refine lv_goto (tgt := 8) C.1 C.2.1 dX1_moved_29 (by decide) ?_
        obtain ⟨j1, rfl⟩ : ∃ g, j0 = g + 1 := ⟨j0 - 1, by omega⟩
        have ej : x4.toNat = j1 := by omega
        exact ih8 (j1) _ _ _ (by omega) (by omega) (by omega) (by rw [ej]; exact i8_2) (lv_sub hl [2, 1, 0] rfl)
  have hr9 := tp_rng hn
  exact L8 _ ((tp n + 1).toNat) _ _ _ (by exact Nat.lt_succ_self _) (by omega) (by omega) (by rfl) (lv_sub hl [2, 1, 0] rfl)

set_option maxHeartbeats 4000000 in
set_option maxRecDepth 100000 in
theorem c_X1_powerRest (l : Launch) (a : Nat) (t : Int) (m0 : Nat) (ha : a < 18446744073709551616) (ht : 0 ≤ t ∧ t ≤ 255) (hm0 : m0 < 18446744073709551616) : zP l yX1_powerRest 3 104 [.long (lN (a)), .int (iZ (t)), .long (lN (m0))] (.long (lN (pw a t.toNat m0))) := by
  refine zP.intro (lo := 75) (nA := 3) (own := RX1) zs_X1_powerRest (by decide) rfl rfl (by decide +kernel) rfl (Nat.le_of_ble_eq_true rfl) ?_
  intro p e s m below meth c ls C hr hk hl
  have hl : lv_has ls 10 [(0, .long (lN (a))), (2, .int (iZ (t))), (3, .long (lN (m0)))] := hl
  refine lv_lload_n C.1 C.2.1 dX1_powerRest_0 rfl (lv_at hl 0 rfl) ?_
  refine lv_lload_n C.1 C.2.1 dX1_powerRest_1 rfl (lv_at hl 2 rfl) ?_
  refine z_call C (c_X1_restOf l (a) (m0) (by first | assumption | omega | rfl | exact decide_eq_false (by omega) | exact decide_eq_true (by assumption) | exact decide_eq_true (by omega) | exact one_shl33 (by omega) | exact pm_lt _ _ | exact rm_lt (by first | assumption | exact pm_lt _ _) | exact Nat.lt_of_le_of_lt (Nat.shiftRight_le _ _) (by assumption) | exact Nat.lt_of_le_of_lt Nat.and_le_right (by omega)) (by first | assumption | omega | rfl | exact decide_eq_false (by omega) | exact decide_eq_true (by assumption) | exact decide_eq_true (by omega) | exact one_shl33 (by omega) | exact pm_lt _ _ | exact rm_lt (by first | assumption | exact pm_lt _ _) | exact Nat.lt_of_le_of_lt (Nat.shiftRight_le _ _) (by assumption) | exact Nat.lt_of_le_of_lt Nat.and_le_right (by omega))) ml_X1_32 ⟨by decide, by decide⟩ ⟨Nat.le_refl _, Nat.le_refl _⟩ hl (Nat.le_of_ble_eq_true rfl) rfl dX1_powerRest_2 ?_
  refine lv_lstore (lv' := [(5, .long (lN (rm (a) (m0)))), (0, .long (lN (a))), (2, .int (iZ (t))), (3, .long (lN (m0)))]) C.1 C.2.1 dX1_powerRest_5 hl (by decide) rfl (fun ls hl => ?_)
  refine z_lconst (k0 := 1) C dX1_powerRest_7 rfl ?_
  refine lv_lstore (lv' := [(7, .long (lN (1))), (5, .long (lN (rm (a) (m0)))), (0, .long (lN (a))), (2, .int (iZ (t))), (3, .long (lN (m0)))]) C.1 C.2.1 dX1_powerRest_8 hl (by decide) rfl (fun ls hl => ?_)
  refine z_bipush C dX1_powerRest_10 (by decide) ?_
  refine lv_istore (lv' := [(9, .int (iZ (7))), (7, .long (lN (1))), (5, .long (lN (rm (a) (m0)))), (0, .long (lN (a))), (2, .int (iZ (t))), (3, .long (lN (m0)))]) C.1 C.2.1 dX1_powerRest_12 hl (by decide) rfl (fun ls hl => ?_)
  have L14 : ∀ (j : Nat) (j0 : Nat) (x7 : Nat) (x9 : Int) (ls : Array Slot), j0 < j → (x9 + 1 = (j0 : Int)) → (j0 ≤ 8) → (x7 < 18446744073709551616) → (pwF t.toNat (rm a m0) m0 j0 x7 = pw a t.toNat m0) → lv_has ls 10 [(0, .long (lN (a))), (2, .int (iZ (t))), (3, .long (lN (m0))), (5, .long (lN (rm (a) (m0)))), (7, .long (lN (x7))), (9, .int (iZ (x9)))] → W p l e { frames := 3, cells := 0, slots := 0, locals := 75 } s m ([.long (lN (a)), .int (iZ (t)), .long (lN (m0))] : List Value).toArray below meth c s.heap [] 0 0 (zQ below [.long (lN (a)), .int (iZ (t)), .long (lN (m0))] s (.long (lN (pw a t.toNat m0)))) (F0 m 14 ls []) := by
    intro j
    induction j with
    | zero => intro j0 x7 x9 ls hmu; exact absurd hmu (Nat.not_lt_zero _)
    | succ j ih14 =>
      intro j0 x7 x9 ls hmu i14_0 i14_1 i14_2 i14_3 hl
      refine lv_iload C.1 C.2.1 dX1_powerRest_14 (lv_at hl 5 rfl) ?_
      refine z_if_lt (tgt := 61) C (by omega) dX1_powerRest_16 (by decide) (fun h16 => ?_) (fun h16 => ?_)
      · refine lv_lload C.1 C.2.1 dX1_powerRest_61 (lv_at hl 4 rfl) ?_
        exact z_lret C hr hk dX1_powerRest_63 (congrArg (fun z : Nat => Value.long (lN z)) (by rw [← i14_3, show j0 = 0 by omega]; rfl))
      · refine lv_lload C.1 C.2.1 dX1_powerRest_19 (lv_at hl 4 rfl) ?_
        refine lv_lload C.1 C.2.1 dX1_powerRest_21 (lv_at hl 4 rfl) ?_
        refine z_call C (c_X1_product l (x7) (x7) (by first | assumption | omega | rfl | exact decide_eq_false (by omega) | exact decide_eq_true (by assumption) | exact decide_eq_true (by omega) | exact one_shl33 (by omega) | exact pm_lt _ _ | exact rm_lt (by first | assumption | exact pm_lt _ _) | exact Nat.lt_of_le_of_lt (Nat.shiftRight_le _ _) (by assumption) | exact Nat.lt_of_le_of_lt Nat.and_le_right (by omega))) ml_X1_29 ⟨by decide, by decide⟩ ⟨Nat.le_refl _, Nat.le_refl _⟩ hl (Nat.le_of_ble_eq_true rfl) rfl dX1_powerRest_23 ?_
        refine lv_lload_n C.1 C.2.1 dX1_powerRest_26 rfl (lv_at hl 2 rfl) ?_
        refine z_call C (c_X1_restOf l (pm (x7) (x7)) (m0) (by first | assumption | omega | rfl | exact decide_eq_false (by omega) | exact decide_eq_true (by assumption) | exact decide_eq_true (by omega) | exact one_shl33 (by omega) | exact pm_lt _ _ | exact rm_lt (by first | assumption | exact pm_lt _ _) | exact Nat.lt_of_le_of_lt (Nat.shiftRight_le _ _) (by assumption) | exact Nat.lt_of_le_of_lt Nat.and_le_right (by omega)) (by first | assumption | omega | rfl | exact decide_eq_false (by omega) | exact decide_eq_true (by assumption) | exact decide_eq_true (by omega) | exact one_shl33 (by omega) | exact pm_lt _ _ | exact rm_lt (by first | assumption | exact pm_lt _ _) | exact Nat.lt_of_le_of_lt (Nat.shiftRight_le _ _) (by assumption) | exact Nat.lt_of_le_of_lt Nat.and_le_right (by omega))) ml_X1_32 ⟨by decide, by decide⟩ ⟨Nat.le_refl _, Nat.le_refl _⟩ hl (Nat.le_of_ble_eq_true rfl) rfl dX1_powerRest_27 ?_
        refine lv_lstore (lv' := [(7, .long (lN (rm (pm (x7) (x7)) (m0)))), (0, .long (lN (a))), (2, .int (iZ (t))), (3, .long (lN (m0))), (5, .long (lN (rm (a) (m0)))), (9, .int (iZ (x9)))]) C.1 C.2.1 dX1_powerRest_30 hl (by decide) rfl (fun ls hl => ?_)
        refine lv_iload_n C.1 C.2.1 dX1_powerRest_32 rfl (lv_at hl 2 rfl) ?_
        refine lv_iload C.1 C.2.1 dX1_powerRest_33 (lv_at hl 5 rfl) ?_
        refine z_ishr C ((t).toNat) ((x9).toNat) (by omega) (by omega) (by omega) (by omega) dX1_powerRest_35 ?_
        refine z_iconst C dX1_powerRest_36 ?_
        refine z_iand1 C ((t).toNat >>> ((x9).toNat)) (by omega) (by first | omega | exact Nat.lt_of_le_of_lt (Nat.shiftRight_le _ _) (by omega)) dX1_powerRest_37 ?_
        refine z_iconst C dX1_powerRest_38 ?_
        refine z_icmp_ne (tgt := 55) C (by omega) (by omega) dX1_powerRest_39 (by decide) (fun h39 => ?_) (fun h39 => ?_)
        · refine z_iinc (j := 5) (lv' := [(9, .int (iZ (x9 + (-1)))), (7, .long (lN (rm (pm (x7) (x7)) (m0)))), (0, .long (lN (a))), (2, .int (iZ (t))), (3, .long (lN (m0))), (5, .long (lN (rm (a) (m0))))]) C dX1_powerRest_55 hl rfl (by decide) rfl (fun ls hl => ?_)
          refine lv_goto (tgt := 14) C.1 C.2.1 dX1_powerRest_58 (by decide) ?_
          obtain ⟨j1, rfl⟩ : ∃ g, j0 = g + 1 := ⟨j0 - 1, by omega⟩
          have ej : x9.toNat = j1 := by omega
          rw [ej] at h39
          rw [pwF_f ((bitN0 _ _).mp (by omega))] at i14_3
          exact ih14 (j1) _ _ _ (by omega) (by omega) (by omega) (by exact rm_lt (pm_lt _ _)) (by exact i14_3) (lv_sub hl [2, 3, 4, 5, 1, 0] rfl)
        · refine lv_lload C.1 C.2.1 dX1_powerRest_42 (lv_at hl 0 rfl) ?_
          refine lv_lload C.1 C.2.1 dX1_powerRest_44 (lv_at hl 4 rfl) ?_
          refine z_call C (c_X1_product l (rm (pm (x7) (x7)) (m0)) (rm (a) (m0)) (by first | assumption | omega | rfl | exact decide_eq_false (by omega) | exact decide_eq_true (by assumption) | exact decide_eq_true (by omega) | exact one_shl33 (by omega) | exact pm_lt _ _ | exact rm_lt (by first | assumption | exact pm_lt _ _) | exact Nat.lt_of_le_of_lt (Nat.shiftRight_le _ _) (by assumption) | exact Nat.lt_of_le_of_lt Nat.and_le_right (by omega))) ml_X1_29 ⟨by decide, by decide⟩ ⟨Nat.le_refl _, Nat.le_refl _⟩ hl (Nat.le_of_ble_eq_true rfl) rfl dX1_powerRest_46 ?_
          refine lv_lload_n C.1 C.2.1 dX1_powerRest_49 rfl (lv_at hl 3 rfl) ?_
          refine z_call C (c_X1_restOf l (pm (rm (pm (x7) (x7)) (m0)) (rm (a) (m0))) (m0) (by first | assumption | omega | rfl | exact decide_eq_false (by omega) | exact decide_eq_true (by assumption) | exact decide_eq_true (by omega) | exact one_shl33 (by omega) | exact pm_lt _ _ | exact rm_lt (by first | assumption | exact pm_lt _ _) | exact Nat.lt_of_le_of_lt (Nat.shiftRight_le _ _) (by assumption) | exact Nat.lt_of_le_of_lt Nat.and_le_right (by omega)) (by first | assumption | omega | rfl | exact decide_eq_false (by omega) | exact decide_eq_true (by assumption) | exact decide_eq_true (by omega) | exact one_shl33 (by omega) | exact pm_lt _ _ | exact rm_lt (by first | assumption | exact pm_lt _ _) | exact Nat.lt_of_le_of_lt (Nat.shiftRight_le _ _) (by assumption) | exact Nat.lt_of_le_of_lt Nat.and_le_right (by omega))) ml_X1_32 ⟨by decide, by decide⟩ ⟨Nat.le_refl _, Nat.le_refl _⟩ hl (Nat.le_of_ble_eq_true rfl) rfl dX1_powerRest_50 ?_
          refine lv_lstore (lv' := [(7, .long (lN (rm (pm (rm (pm (x7) (x7)) (m0)) (rm (a) (m0))) (m0)))), (0, .long (lN (a))), (2, .int (iZ (t))), (3, .long (lN (m0))), (5, .long (lN (rm (a) (m0)))), (9, .int (iZ (x9)))]) C.1 C.2.1 dX1_powerRest_53 hl (by decide) rfl (fun ls hl => ?_)
          refine z_iinc (j := 5) (lv' := [(9, .int (iZ (x9 + (-1)))), (7, .long (lN (rm (pm (rm (pm (x7) (x7)) (m0)) (rm (a) (m0))) (m0)))), (0, .long (lN (a))), (2, .int (iZ (t))), (3, .long (lN (m0))), (5, .long (lN (rm (a) (m0))))]) C dX1_powerRest_55 hl rfl (by decide) rfl (fun ls hl => ?_)
          refine lv_goto (tgt := 14) C.1 C.2.1 dX1_powerRest_58 (by decide) ?_
          obtain ⟨j1, rfl⟩ : ∃ g, j0 = g + 1 := ⟨j0 - 1, by omega⟩
          have ej : x9.toNat = j1 := by omega
          rw [ej] at h39
          rw [pwF_t ((bitN _ _).mp (by omega))] at i14_3
          exact ih14 (j1) _ _ _ (by omega) (by omega) (by omega) (by exact rm_lt (pm_lt _ _)) (by exact i14_3) (lv_sub hl [2, 3, 4, 5, 1, 0] rfl)
  exact L14 _ (8) _ _ _ (by exact Nat.lt_succ_self _) (by rfl) (by omega) (by omega) (by rfl) (lv_sub hl [3, 4, 5, 2, 1, 0] rfl)
