set_option maxHeartbeats 4000000 in
set_option maxRecDepth 100000 in
theorem c_X5_isIn (l : Launch) (v : Int) (a : Int) (b : Int) (hv : -2147483648 ≤ v ∧ v ≤ 2147483647) (ha : -2147483648 ≤ a ∧ a ≤ 2147483647) (hb : -2147483648 ≤ b ∧ b ≤ 2147483647) : zP l yX5_isIn 0 22 [.int (iZ (v)), .int (iZ (a)), .int (iZ (b))] (.int (iZ (zB (decide (a ≤ v ∧ v ≤ b))))) := by
  refine zP.intro (lo := 0) (nA := 3) (own := RX5) zs_X5_isIn (by decide) rfl rfl (by decide +kernel) rfl (Nat.le_of_ble_eq_true rfl) ?_
  intro p e s m below meth c ls C hr hk hl
  have hl : lv_has ls 3 [(0, .int (iZ (v))), (1, .int (iZ (a))), (2, .int (iZ (b)))] := hl
  refine lv_iload_n C.1 C.2.1 dX5_isIn_0 rfl (lv_at hl 0 rfl) ?_
  refine lv_iload_n C.1 C.2.1 dX5_isIn_1 rfl (lv_at hl 1 rfl) ?_
  refine z_icmp_lt (tgt := 14) C (by omega) (by omega) dX5_isIn_2 (by decide) (fun h2 => ?_) (fun h2 => ?_)
  · refine z_iconst C dX5_isIn_14 ?_
    exact z_zret C hr hk dX5_isIn_15 (by decide) (congrArg (fun z : Int => Value.int (iZ z)) (by exact zB_f (decide_eq_false (by omega))))
  · refine lv_iload_n C.1 C.2.1 dX5_isIn_5 rfl (lv_at hl 0 rfl) ?_
    refine lv_iload_n C.1 C.2.1 dX5_isIn_6 rfl (lv_at hl 2 rfl) ?_
    refine z_icmp_gt (tgt := 14) C (by omega) (by omega) dX5_isIn_7 (by decide) (fun h7 => ?_) (fun h7 => ?_)
    · refine z_iconst C dX5_isIn_14 ?_
      exact z_zret C hr hk dX5_isIn_15 (by decide) (congrArg (fun z : Int => Value.int (iZ z)) (by exact zB_f (decide_eq_false (by omega))))
    · refine z_iconst C dX5_isIn_10 ?_
      refine lv_goto (tgt := 15) C.1 C.2.1 dX5_isIn_11 (by decide) ?_
      exact z_zret C hr hk dX5_isIn_15 (by decide) (congrArg (fun z : Int => Value.int (iZ z)) (by exact zB_t (decide_eq_true (by omega))))

set_option maxHeartbeats 4000000 in
set_option maxRecDepth 100000 in
theorem c_X5_one (l : Launch) (b : Bool) : zP l yX5_one 0 20 [.int (iZ (zB (b)))] (.int (iZ (zB b))) := by
  refine zP.intro (lo := 0) (nA := 1) (own := RX5) zs_X5_one (by decide) rfl rfl (by decide +kernel) rfl (Nat.le_of_ble_eq_true rfl) ?_
  intro p e s m below meth c ls C hr hk hl
  have hl : lv_has ls 1 [(0, .int (iZ (zB (b))))] := hl
  refine lv_iload_n C.1 C.2.1 dX5_one_0 rfl (lv_at hl 0 rfl) ?_
  refine z_ifB_eq (tgt := 8) C dX5_one_1 (by decide) (fun h1 => ?_) (fun h1 => ?_)
  · refine z_iconst C dX5_one_8 ?_
    exact z_iret C hr hk dX5_one_9 (congrArg (fun z : Int => Value.int (iZ z)) (by exact zB_f h1))
  · refine z_iconst C dX5_one_4 ?_
    refine lv_goto (tgt := 9) C.1 C.2.1 dX5_one_5 (by decide) ?_
    exact z_iret C hr hk dX5_one_9 (congrArg (fun z : Int => Value.int (iZ z)) (by exact zB_t h1))

set_option maxHeartbeats 4000000 in
set_option maxRecDepth 100000 in
theorem c_X5_isNo (l : Launch) (v : Int) (hv : -2147483648 ≤ v ∧ v ≤ 2147483647) : zP l yX5_isNo 1 42 [.int (iZ (v))] (.int (iZ (zB (decide (¬ (0 ≤ v ∧ v ≤ 5)))))) := by
  refine zP.intro (lo := 22) (nA := 1) (own := RX5) zs_X5_isNo (by decide) rfl rfl (by decide +kernel) rfl (Nat.le_of_ble_eq_true rfl) ?_
  intro p e s m below meth c ls C hr hk hl
  have hl : lv_has ls 1 [(0, .int (iZ (v)))] := hl
  refine lv_iload_n C.1 C.2.1 dX5_isNo_0 rfl (lv_at hl 0 rfl) ?_
  refine z_iconst C dX5_isNo_1 ?_
  refine z_iconst C dX5_isNo_2 ?_
  refine z_call C (c_X5_isIn l (v) (0 : Int) (5 : Int) (by first | assumption | omega | rfl | exact decide_eq_false (by omega) | exact decide_eq_true (by assumption) | exact decide_eq_true (by omega) | exact one_shl33 (by omega) | exact pm_lt _ _ | exact rm_lt (by first | assumption | exact pm_lt _ _) | exact Nat.lt_of_le_of_lt (Nat.shiftRight_le _ _) (by assumption) | exact Nat.lt_of_le_of_lt Nat.and_le_right (by omega)) (by first | assumption | omega | rfl | exact decide_eq_false (by omega) | exact decide_eq_true (by assumption) | exact decide_eq_true (by omega) | exact one_shl33 (by omega) | exact pm_lt _ _ | exact rm_lt (by first | assumption | exact pm_lt _ _) | exact Nat.lt_of_le_of_lt (Nat.shiftRight_le _ _) (by assumption) | exact Nat.lt_of_le_of_lt Nat.and_le_right (by omega)) (by first | assumption | omega | rfl | exact decide_eq_false (by omega) | exact decide_eq_true (by assumption) | exact decide_eq_true (by omega) | exact one_shl33 (by omega) | exact pm_lt _ _ | exact rm_lt (by first | assumption | exact pm_lt _ _) | exact Nat.lt_of_le_of_lt (Nat.shiftRight_le _ _) (by assumption) | exact Nat.lt_of_le_of_lt Nat.and_le_right (by omega))) ml_X5_21 ⟨by decide, by decide⟩ ⟨Nat.le_refl _, Nat.le_refl _⟩ hl (Nat.le_of_ble_eq_true rfl) rfl dX5_isNo_3 ?_
  refine z_ifB_ne (tgt := 13) C dX5_isNo_6 (by decide) (fun h6 => ?_) (fun h6 => ?_)
  · refine z_iconst C dX5_isNo_13 ?_
    exact z_zret C hr hk dX5_isNo_14 (by decide) (congrArg (fun z : Int => Value.int (iZ z)) (by exact zB_f (decide_eq_false (not_not_intro (of_decide_eq_true h6)))))
  · refine z_iconst C dX5_isNo_9 ?_
    refine lv_goto (tgt := 14) C.1 C.2.1 dX5_isNo_10 (by decide) ?_
    exact z_zret C hr hk dX5_isNo_14 (by decide) (congrArg (fun z : Int => Value.int (iZ z)) (by exact zB_t (decide_eq_true (of_decide_eq_false h6))))

set_option maxHeartbeats 4000000 in
set_option maxRecDepth 100000 in
theorem c_X5_degreeOf (l : Launch) (n : Nat) (hn : n < 18446744073709551616) : zP l yX5_degreeOf 0 24 [.long (lN (n))] (.int (iZ (tp n))) := by
  refine zP.intro (lo := 0) (nA := 1) (own := RX5) zs_X5_degreeOf (by decide) rfl rfl (by decide +kernel) rfl (Nat.le_of_ble_eq_true rfl) ?_
  intro p e s m below meth c ls C hr hk hl
  have hl : lv_has ls 5 [(0, .long (lN (n)))] := hl
  refine z_iconst C dX5_degreeOf_0 ?_
  refine lv_istore_n (lv' := [(2, .int (iZ (-1))), (0, .long (lN (n)))]) C.1 C.2.1 dX5_degreeOf_1 rfl hl (by decide) rfl (fun ls hl => ?_)
  refine lv_lload_n C.1 C.2.1 dX5_degreeOf_2 rfl (lv_at hl 1 rfl) ?_
  refine lv_lstore_n (lv' := [(3, .long (lN (n))), (2, .int (iZ (-1))), (0, .long (lN (n)))]) C.1 C.2.1 dX5_degreeOf_3 rfl hl (by decide) rfl (fun ls hl => ?_)
  have L4 : ∀ (j : Nat) (k : Nat) (x2 : Int) (x3 : Nat) (ls : Array Slot), 65 - k < j → (x3 = n >>> k) → (x2 = (k : Int) - 1) → ((k : Int) ≤ tp n + 1) → lv_has ls 5 [(0, .long (lN (n))), (2, .int (iZ (x2))), (3, .long (lN (x3)))] → W p l e { frames := 0, cells := 0, slots := 0, locals := 0 } s m ([.long (lN (n))] : List Value).toArray below meth c s.heap [] 0 0 (zQ below [.long (lN (n))] s (.int (iZ (tp n)))) (F0 m 4 ls []) := by
    intro j
    induction j with
    | zero => intro k x2 x3 ls hmu; exact absurd hmu (Nat.not_lt_zero _)
    | succ j ih4 =>
      intro k x2 x3 ls hmu i4_0 i4_1 i4_2 hl
      have hx : x3 < 18446744073709551616 := by rw [i4_0]; exact Nat.lt_of_le_of_lt (Nat.shiftRight_le _ _) hn
      have hr9 := tp_rng hn
      refine lv_lload_n C.1 C.2.1 dX5_degreeOf_4 rfl (lv_at hl 2 rfl) ?_
      refine z_lconst (k0 := 0) C dX5_degreeOf_5 rfl ?_
      refine z_lc_eq (tgt := 20) C (by first | assumption | omega | rfl | exact decide_eq_false (by omega) | exact decide_eq_true (by assumption) | exact decide_eq_true (by omega) | exact one_shl33 (by omega) | exact pm_lt _ _ | exact rm_lt (by first | assumption | exact pm_lt _ _) | exact Nat.lt_of_le_of_lt (Nat.shiftRight_le _ _) (by assumption) | exact Nat.lt_of_le_of_lt Nat.and_le_right (by omega)) (by first | assumption | omega | rfl | exact decide_eq_false (by omega) | exact decide_eq_true (by assumption) | exact decide_eq_true (by omega) | exact one_shl33 (by omega) | exact pm_lt _ _ | exact rm_lt (by first | assumption | exact pm_lt _ _) | exact Nat.lt_of_le_of_lt (Nat.shiftRight_le _ _) (by assumption) | exact Nat.lt_of_le_of_lt Nat.and_le_right (by omega)) dX5_degreeOf_6 dX5_degreeOf_7 (by decide) (fun h6 => ?_) (fun h6 => ?_)
      · refine lv_iload_n C.1 C.2.1 dX5_degreeOf_20 rfl (lv_at hl 1 rfl) ?_
        exact z_iret C hr hk dX5_degreeOf_21 (congrArg (fun z : Int => Value.int (iZ z)) (by rw [i4_0] at h6; have := tp_shr.mp h6; omega))
      · refine z_iinc (j := 1) (lv' := [(2, .int (iZ (x2 + 1))), (0, .long (lN (n))), (3, .long (lN (x3)))]) C dX5_degreeOf_10 hl rfl (by decide) rfl (fun ls hl => ?_)
        refine lv_lload_n C.1 C.2.1 dX5_degreeOf_13 rfl (lv_at hl 2 rfl) ?_
        refine z_iconst C dX5_degreeOf_14 ?_
        refine z_lushr C (1) (by first | assumption | omega | rfl | exact decide_eq_false (by omega) | exact decide_eq_true (by assumption) | exact decide_eq_true (by omega) | exact one_shl33 (by omega) | exact pm_lt _ _ | exact rm_lt (by first | assumption | exact pm_lt _ _) | exact Nat.lt_of_le_of_lt (Nat.shiftRight_le _ _) (by assumption) | exact Nat.lt_of_le_of_lt Nat.and_le_right (by omega)) (by omega) (by omega) dX5_degreeOf_15 ?_
        refine lv_lstore_n (lv' := [(3, .long (lN ((x3) >>> (1)))), (2, .int (iZ (x2 + 1))), (0, .long (lN (n)))]) C.1 C.2.1 dX5_degreeOf_16 rfl hl (by decide) rfl (fun ls hl => ?_)
        refine lv_goto (tgt := 4) C.1 C.2.1 dX5_degreeOf_17 (by decide) ?_
        have h9 : ¬ n >>> k = 0 := (by rw [← i4_0]; exact h6)
        have := mt tp_shr.mpr h9
        exact ih4 (k + 1) _ _ _ (by omega) (by rw [i4_0, Nat.shiftRight_add]) (by omega) (by omega) (lv_sub hl [2, 1, 0] rfl)
  have hr9 := tp_rng hn
  exact L4 _ (0) _ _ _ (by exact Nat.lt_succ_self _) (by rfl) (by rfl) (by omega) (lv_sub hl [2, 1, 0] rfl)

set_option maxHeartbeats 4000000 in
set_option maxRecDepth 100000 in
theorem c_X5_has (l : Launch) (n : Nat) (z : Int) (hn : n < 18446744073709551616) (hz : 0 ≤ z ∧ z ≤ 2147483647) : zP l yX5_has 0 22 [.long (lN (n)), .int (iZ (z))] (.int (iZ (zB (tb n z)))) := by
  refine zP.intro (lo := 0) (nA := 2) (own := RX5) zs_X5_has (by decide) rfl rfl (by decide +kernel) rfl (Nat.le_of_ble_eq_true rfl) ?_
  intro p e s m below meth c ls C hr hk hl
  have hl : lv_has ls 3 [(0, .long (lN (n))), (2, .int (iZ (z)))] := hl
  refine lv_iload_n C.1 C.2.1 dX5_has_0 rfl (lv_at hl 1 rfl) ?_
  refine z_bipush C dX5_has_1 (by decide) ?_
  refine z_icmp_ge (tgt := 20) C (by omega) (by omega) dX5_has_3 (by decide) (fun h3 => ?_) (fun h3 => ?_)
  · refine z_iconst C dX5_has_20 ?_
    exact z_zret C hr hk dX5_has_21 (by decide) (congrArg (fun z : Int => Value.int (iZ z)) (by exact zB_f (tb_ge h3)))
  · refine lv_lload_n C.1 C.2.1 dX5_has_6 rfl (lv_at hl 0 rfl) ?_
    refine lv_iload_n C.1 C.2.1 dX5_has_7 rfl (lv_at hl 1 rfl) ?_
    refine z_lushr C ((z).toNat) (by first | assumption | omega | rfl | exact decide_eq_false (by omega) | exact decide_eq_true (by assumption) | exact decide_eq_true (by omega) | exact one_shl33 (by omega) | exact pm_lt _ _ | exact rm_lt (by first | assumption | exact pm_lt _ _) | exact Nat.lt_of_le_of_lt (Nat.shiftRight_le _ _) (by assumption) | exact Nat.lt_of_le_of_lt Nat.and_le_right (by omega)) (by omega) (by omega) dX5_has_8 ?_
    refine z_lconst (k0 := 1) C dX5_has_9 rfl ?_
    refine z_land C dX5_has_10 ?_
    refine z_lconst (k0 := 1) C dX5_has_11 rfl ?_
    refine z_lc_ne (tgt := 20) C (by first | assumption | omega | rfl | exact decide_eq_false (by omega) | exact decide_eq_true (by assumption) | exact decide_eq_true (by omega) | exact one_shl33 (by omega) | exact pm_lt _ _ | exact rm_lt (by first | assumption | exact pm_lt _ _) | exact Nat.lt_of_le_of_lt (Nat.shiftRight_le _ _) (by assumption) | exact Nat.lt_of_le_of_lt Nat.and_le_right (by omega)) (by first | assumption | omega | rfl | exact decide_eq_false (by omega) | exact decide_eq_true (by assumption) | exact decide_eq_true (by omega) | exact one_shl33 (by omega) | exact pm_lt _ _ | exact rm_lt (by first | assumption | exact pm_lt _ _) | exact Nat.lt_of_le_of_lt (Nat.shiftRight_le _ _) (by assumption) | exact Nat.lt_of_le_of_lt Nat.and_le_right (by omega)) dX5_has_12 dX5_has_13 (by decide) (fun h12 => ?_) (fun h12 => ?_)
    · refine z_iconst C dX5_has_20 ?_
      exact z_zret C hr hk dX5_has_21 (by decide) (congrArg (fun z : Int => Value.int (iZ z)) (by exact zB_f (by rw [tb_in (by omega) (by omega)]; exact (bit_and0 _ _).mp h12)))
    · refine z_iconst C dX5_has_16 ?_
      refine lv_goto (tgt := 21) C.1 C.2.1 dX5_has_17 (by decide) ?_
      exact z_zret C hr hk dX5_has_21 (by decide) (congrArg (fun z : Int => Value.int (iZ z)) (by exact zB_t (by rw [tb_in (by omega) (by omega)]; exact (bit_and _ _).mp h12)))

set_option maxHeartbeats 4000000 in
set_option maxRecDepth 100000 in
theorem c_X5_lowOf (l : Launch) (n : Nat) (hn : n < 18446744073709551616) : zP l yX5_lowOf 1 44 [.long (lN (n))] (.int (iZ (bpF n 33 0))) := by
  refine zP.intro (lo := 22) (nA := 1) (own := RX5) zs_X5_lowOf (by decide) rfl rfl (by decide +kernel) rfl (Nat.le_of_ble_eq_true rfl) ?_
  intro p e s m below meth c ls C hr hk hl
  have hl : lv_has ls 3 [(0, .long (lN (n)))] := hl
  refine z_iconst C dX5_lowOf_0 ?_
  refine lv_istore_n (lv' := [(2, .int (iZ (0))), (0, .long (lN (n)))]) C.1 C.2.1 dX5_lowOf_1 rfl hl (by decide) rfl (fun ls hl => ?_)
  have L2 : ∀ (j : Nat) (k : Nat) (f : Nat) (x2 : Int) (ls : Array Slot), 33 - k < j → (x2 = (k : Int)) → (f + k = 33) → (bpF n f k = bpF n 33 0) → lv_has ls 3 [(0, .long (lN (n))), (2, .int (iZ (x2)))] → W p l e { frames := 1, cells := 0, slots := 0, locals := 22 } s m ([.long (lN (n))] : List Value).toArray below meth c s.heap [] 0 0 (zQ below [.long (lN (n))] s (.int (iZ (bpF n 33 0)))) (F0 m 2 ls []) := by
    intro j
    induction j with
    | zero => intro k f x2 ls hmu; exact absurd hmu (Nat.not_lt_zero _)
    | succ j ih2 =>
      intro k f x2 ls hmu i2_0 i2_1 i2_2 hl
      refine lv_iload_n C.1 C.2.1 dX5_lowOf_2 rfl (lv_at hl 1 rfl) ?_
      refine z_bipush C dX5_lowOf_3 (by decide) ?_
      refine z_icmp_gt (tgt := 24) C (by omega) (by omega) dX5_lowOf_5 (by decide) (fun h5 => ?_) (fun h5 => ?_)
      · refine z_iconst C dX5_lowOf_24 ?_
        exact z_iret C hr hk dX5_lowOf_25 (congrArg (fun z : Int => Value.int (iZ z)) (by obtain rfl : f = 0 := (by omega); exact i2_2))
      · refine lv_lload_n C.1 C.2.1 dX5_lowOf_8 rfl (lv_at hl 0 rfl) ?_
        refine lv_iload_n C.1 C.2.1 dX5_lowOf_9 rfl (lv_at hl 1 rfl) ?_
        refine z_call C (c_X5_has l (n) (x2) (by first | assumption | omega | rfl | exact decide_eq_false (by omega) | exact decide_eq_true (by assumption) | exact decide_eq_true (by omega) | exact one_shl33 (by omega) | exact pm_lt _ _ | exact rm_lt (by first | assumption | exact pm_lt _ _) | exact Nat.lt_of_le_of_lt (Nat.shiftRight_le _ _) (by assumption) | exact Nat.lt_of_le_of_lt Nat.and_le_right (by omega)) (by first | assumption | omega | rfl | exact decide_eq_false (by omega) | exact decide_eq_true (by assumption) | exact decide_eq_true (by omega) | exact one_shl33 (by omega) | exact pm_lt _ _ | exact rm_lt (by first | assumption | exact pm_lt _ _) | exact Nat.lt_of_le_of_lt (Nat.shiftRight_le _ _) (by assumption) | exact Nat.lt_of_le_of_lt Nat.and_le_right (by omega))) ml_X5_25 ⟨by decide, by decide⟩ ⟨Nat.le_refl _, Nat.le_refl _⟩ hl (Nat.le_of_ble_eq_true rfl) rfl dX5_lowOf_10 ?_
        refine z_ifB_eq (tgt := 18) C dX5_lowOf_13 (by decide) (fun h13 => ?_) (fun h13 => ?_)
        · refine z_iinc (j := 1) (lv' := [(2, .int (iZ (x2 + 1))), (0, .long (lN (n)))]) C dX5_lowOf_18 hl rfl (by decide) rfl (fun ls hl => ?_)
          refine lv_goto (tgt := 2) C.1 C.2.1 dX5_lowOf_21 (by decide) ?_
          rw [tb_k i2_0 (by omega)] at h13
          obtain ⟨f, rfl⟩ : ∃ g, f = g + 1 := ⟨f - 1, by omega⟩
          rw [bpF_f h13] at i2_2
          exact ih2 (k + 1) (f) _ _ (by omega) (by omega) (by omega) (by exact i2_2) (lv_sub hl [1, 0] rfl)
        · refine lv_iload_n C.1 C.2.1 dX5_lowOf_16 rfl (lv_at hl 1 rfl) ?_
          exact z_iret C hr hk dX5_lowOf_17 (congrArg (fun z : Int => Value.int (iZ z)) (by rw [tb_k i2_0 (by omega)] at h13; obtain ⟨f, rfl⟩ : ∃ g, f = g + 1 := ⟨f - 1, by omega⟩; rw [bpF_t h13] at i2_2; omega))
  exact L2 _ (0) (33) _ _ (by exact Nat.lt_succ_self _) (by rfl) (by rfl) (by rfl) (lv_sub hl [1, 0] rfl)

set_option maxHeartbeats 4000000 in
set_option maxRecDepth 100000 in
theorem c_X5_weightOf (l : Launch) (n : Nat) (hn : n < 18446744073709551616) : zP l yX5_weightOf 1 45 [.long (lN (n))] (.int (iZ (wt n 33))) := by
  refine zP.intro (lo := 22) (nA := 1) (own := RX5) zs_X5_weightOf (by decide) rfl rfl (by decide +kernel) rfl (Nat.le_of_ble_eq_true rfl) ?_
  intro p e s m below meth c ls C hr hk hl
  have hl : lv_has ls 4 [(0, .long (lN (n)))] := hl
  refine z_iconst C dX5_weightOf_0 ?_
  refine lv_istore_n (lv' := [(2, .int (iZ (0))), (0, .long (lN (n)))]) C.1 C.2.1 dX5_weightOf_1 rfl hl (by decide) rfl (fun ls hl => ?_)
  refine z_iconst C dX5_weightOf_2 ?_
  refine lv_istore_n (lv' := [(3, .int (iZ (0))), (2, .int (iZ (0))), (0, .long (lN (n)))]) C.1 C.2.1 dX5_weightOf_3 rfl hl (by decide) rfl (fun ls hl => ?_)
  have L4 : ∀ (j : Nat) (k : Nat) (x2 : Int) (x3 : Int) (ls : Array Slot), 33 - k < j → (x3 = (k : Int)) → (k ≤ 33) → (x2 = wt n k) → lv_has ls 4 [(0, .long (lN (n))), (2, .int (iZ (x2))), (3, .int (iZ (x3)))] → W p l e { frames := 1, cells := 0, slots := 0, locals := 22 } s m ([.long (lN (n))] : List Value).toArray below meth c s.heap [] 0 0 (zQ below [.long (lN (n))] s (.int (iZ (wt n 33)))) (F0 m 4 ls []) := by
    intro j
    induction j with
    | zero => intro k x2 x3 ls hmu; exact absurd hmu (Nat.not_lt_zero _)
    | succ j ih4 =>
      intro k x2 x3 ls hmu i4_0 i4_1 i4_2 hl
      refine lv_iload_n C.1 C.2.1 dX5_weightOf_4 rfl (lv_at hl 2 rfl) ?_
      refine z_bipush C dX5_weightOf_5 (by decide) ?_
      refine z_icmp_gt (tgt := 27) C (by omega) (by omega) dX5_weightOf_7 (by decide) (fun h7 => ?_) (fun h7 => ?_)
      · refine lv_iload_n C.1 C.2.1 dX5_weightOf_27 rfl (lv_at hl 1 rfl) ?_
        exact z_iret C hr hk dX5_weightOf_28 (congrArg (fun z : Int => Value.int (iZ z)) (by rw [i4_2, show k = 33 by omega]))
      · refine lv_iload_n C.1 C.2.1 dX5_weightOf_10 rfl (lv_at hl 1 rfl) ?_
        refine lv_lload_n C.1 C.2.1 dX5_weightOf_11 rfl (lv_at hl 0 rfl) ?_
        refine lv_iload_n C.1 C.2.1 dX5_weightOf_12 rfl (lv_at hl 2 rfl) ?_
        refine z_call C (c_X5_has l (n) (x3) (by first | assumption | omega | rfl | exact decide_eq_false (by omega) | exact decide_eq_true (by assumption) | exact decide_eq_true (by omega) | exact one_shl33 (by omega) | exact pm_lt _ _ | exact rm_lt (by first | assumption | exact pm_lt _ _) | exact Nat.lt_of_le_of_lt (Nat.shiftRight_le _ _) (by assumption) | exact Nat.lt_of_le_of_lt Nat.and_le_right (by omega)) (by first | assumption | omega | rfl | exact decide_eq_false (by omega) | exact decide_eq_true (by assumption) | exact decide_eq_true (by omega) | exact one_shl33 (by omega) | exact pm_lt _ _ | exact rm_lt (by first | assumption | exact pm_lt _ _) | exact Nat.lt_of_le_of_lt (Nat.shiftRight_le _ _) (by assumption) | exact Nat.lt_of_le_of_lt Nat.and_le_right (by omega))) ml_X5_25 ⟨by decide, by decide⟩ ⟨Nat.le_refl _, Nat.le_refl _⟩ hl (Nat.le_of_ble_eq_true rfl) rfl dX5_weightOf_13 ?_
        refine z_call C (c_X5_one l (tb (n) (x3)) ) ml_X5_29 ⟨by decide, by decide⟩ ⟨Nat.le_refl _, Nat.le_refl _⟩ hl (Nat.le_of_ble_eq_true rfl) rfl dX5_weightOf_16 ?_
        have q16_0 := zB_rng (tb (n) (x3))
        refine z_iadd C dX5_weightOf_19 ?_
        refine lv_istore_n (lv' := [(2, .int (iZ ((x2) + (zB (tb (n) (x3)))))), (0, .long (lN (n))), (3, .int (iZ (x3)))]) C.1 C.2.1 dX5_weightOf_20 rfl hl (by decide) rfl (fun ls hl => ?_)
        refine z_iinc (j := 2) (lv' := [(3, .int (iZ (x3 + 1))), (2, .int (iZ ((x2) + (zB (tb (n) (x3)))))), (0, .long (lN (n)))]) C dX5_weightOf_21 hl rfl (by decide) rfl (fun ls hl => ?_)
        refine lv_goto (tgt := 4) C.1 C.2.1 dX5_weightOf_24 (by decide) ?_
        exact ih4 (k + 1) _ _ _ (by omega) (by omega) (by omega) (by rw [wt, i4_2, tb_k i4_0 (by omega)]) (lv_sub hl [2, 1, 0] rfl)
  exact L4 _ (0) _ _ _ (by exact Nat.lt_succ_self _) (by rfl) (by omega) (by rfl) (lv_sub hl [2, 1, 0] rfl)

set_option maxHeartbeats 4000000 in
set_option maxRecDepth 100000 in
theorem c_X5_product (l : Launch) (a : Nat) (b : Nat) (hb : b < 18446744073709551616) : zP l yX5_product 1 51 [.long (lN (a)), .long (lN (b))] (.long (lN (pm a b))) := by
  refine zP.intro (lo := 22) (nA := 2) (own := RX5) zs_X5_product (by decide) rfl rfl (by decide +kernel) rfl (Nat.le_of_ble_eq_true rfl) ?_
  intro p e s m below meth c ls C hr hk hl
  have hl : lv_has ls 10 [(0, .long (lN (a))), (2, .long (lN (b)))] := hl
  refine z_lconst (k0 := 0) C dX5_product_0 rfl ?_
  refine lv_lstore (lv' := [(4, .long (lN (0))), (0, .long (lN (a))), (2, .long (lN (b)))]) C.1 C.2.1 dX5_product_1 hl (by decide) rfl (fun ls hl => ?_)
  refine lv_lload_n C.1 C.2.1 dX5_product_3 rfl (lv_at hl 1 rfl) ?_
  refine lv_lstore (lv' := [(6, .long (lN (a))), (4, .long (lN (0))), (0, .long (lN (a))), (2, .long (lN (b)))]) C.1 C.2.1 dX5_product_4 hl (by decide) rfl (fun ls hl => ?_)
  refine lv_lload_n C.1 C.2.1 dX5_product_6 rfl (lv_at hl 3 rfl) ?_
  refine lv_lstore (lv' := [(8, .long (lN (b))), (6, .long (lN (a))), (4, .long (lN (0))), (0, .long (lN (a))), (2, .long (lN (b)))]) C.1 C.2.1 dX5_product_7 hl (by decide) rfl (fun ls hl => ?_)
  have L9 : ∀ (j : Nat) (k : Nat) (x4 : Nat) (x6 : Nat) (x8 : Nat) (ls : Array Slot), 64 - k < j → (x4 = pmF a b k) → (x6 = a <<< k) → (x8 = b >>> k) → (k ≤ 64) → lv_has ls 10 [(0, .long (lN (a))), (2, .long (lN (b))), (4, .long (lN (x4))), (6, .long (lN (x6))), (8, .long (lN (x8)))] → W p l e { frames := 1, cells := 0, slots := 0, locals := 22 } s m ([.long (lN (a)), .long (lN (b))] : List Value).toArray below meth c s.heap [] 0 0 (zQ below [.long (lN (a)), .long (lN (b))] s (.long (lN (pm a b)))) (F0 m 9 ls []) := by
    intro j
    induction j with
    | zero => intro k x4 x6 x8 ls hmu; exact absurd hmu (Nat.not_lt_zero _)
    | succ j ih9 =>
      intro k x4 x6 x8 ls hmu i9_0 i9_1 i9_2 i9_3 hl
      have hx8 : x8 < 18446744073709551616 := by rw [i9_2]; exact Nat.lt_of_le_of_lt (Nat.shiftRight_le _ _) hb
      refine lv_lload C.1 C.2.1 dX5_product_9 (lv_at hl 4 rfl) ?_
      refine z_lconst (k0 := 0) C dX5_product_11 rfl ?_
      refine z_lc_eq (tgt := 47) C (by first | assumption | omega | rfl | exact decide_eq_false (by omega) | exact decide_eq_true (by assumption) | exact decide_eq_true (by omega) | exact one_shl33 (by omega) | exact pm_lt _ _ | exact rm_lt (by first | assumption | exact pm_lt _ _) | exact Nat.lt_of_le_of_lt (Nat.shiftRight_le _ _) (by assumption) | exact Nat.lt_of_le_of_lt Nat.and_le_right (by omega)) (by first | assumption | omega | rfl | exact decide_eq_false (by omega) | exact decide_eq_true (by assumption) | exact decide_eq_true (by omega) | exact one_shl33 (by omega) | exact pm_lt _ _ | exact rm_lt (by first | assumption | exact pm_lt _ _) | exact Nat.lt_of_le_of_lt (Nat.shiftRight_le _ _) (by assumption) | exact Nat.lt_of_le_of_lt Nat.and_le_right (by omega)) dX5_product_12 dX5_product_13 (by decide) (fun h12 => ?_) (fun h12 => ?_)
      · refine lv_lload C.1 C.2.1 dX5_product_47 (lv_at hl 2 rfl) ?_
        exact z_lret C hr hk dX5_product_49 (by rw [i9_2] at h12; rw [pm, lN_mod, i9_0, pmF_64 h12 i9_3])
      · refine lv_lload C.1 C.2.1 dX5_product_16 (lv_at hl 4 rfl) ?_
        refine z_iconst C dX5_product_18 ?_
        refine z_call C (c_X5_has l (x8) (0 : Int) (by first | assumption | omega | rfl | exact decide_eq_false (by omega) | exact decide_eq_true (by assumption) | exact decide_eq_true (by omega) | exact one_shl33 (by omega) | exact pm_lt _ _ | exact rm_lt (by first | assumption | exact pm_lt _ _) | exact Nat.lt_of_le_of_lt (Nat.shiftRight_le _ _) (by assumption) | exact Nat.lt_of_le_of_lt Nat.and_le_right (by omega)) (by first | assumption | omega | rfl | exact decide_eq_false (by omega) | exact decide_eq_true (by assumption) | exact decide_eq_true (by omega) | exact one_shl33 (by omega) | exact pm_lt _ _ | exact rm_lt (by first | assumption | exact pm_lt _ _) | exact Nat.lt_of_le_of_lt (Nat.shiftRight_le _ _) (by assumption) | exact Nat.lt_of_le_of_lt Nat.and_le_right (by omega))) ml_X5_25 ⟨by decide, by decide⟩ ⟨Nat.le_refl _, Nat.le_refl _⟩ hl (Nat.le_of_ble_eq_true rfl) rfl dX5_product_19 ?_
        refine z_ifB_eq (tgt := 32) C dX5_product_22 (by decide) (fun h22 => ?_) (fun h22 => ?_)
        · refine lv_lload C.1 C.2.1 dX5_product_32 (lv_at hl 3 rfl) ?_
          refine z_iconst C dX5_product_34 ?_
          refine z_lshl C (1) (by omega) (by omega) dX5_product_35 ?_
          refine lv_lstore (lv' := [(6, .long (lN ((x6) <<< (1)))), (0, .long (lN (a))), (2, .long (lN (b))), (4, .long (lN (x4))), (8, .long (lN (x8)))]) C.1 C.2.1 dX5_product_36 hl (by decide) rfl (fun ls hl => ?_)
          refine lv_lload C.1 C.2.1 dX5_product_38 (lv_at hl 4 rfl) ?_
          refine z_iconst C dX5_product_40 ?_
          refine z_lushr C (1) (by first | assumption | omega | rfl | exact decide_eq_false (by omega) | exact decide_eq_true (by assumption) | exact decide_eq_true (by omega) | exact one_shl33 (by omega) | exact pm_lt _ _ | exact rm_lt (by first | assumption | exact pm_lt _ _) | exact Nat.lt_of_le_of_lt (Nat.shiftRight_le _ _) (by assumption) | exact Nat.lt_of_le_of_lt Nat.and_le_right (by omega)) (by omega) (by omega) dX5_product_41 ?_
          refine lv_lstore (lv' := [(8, .long (lN ((x8) >>> (1)))), (6, .long (lN ((x6) <<< (1)))), (0, .long (lN (a))), (2, .long (lN (b))), (4, .long (lN (x4)))]) C.1 C.2.1 dX5_product_42 hl (by decide) rfl (fun ls hl => ?_)
          refine lv_goto (tgt := 9) C.1 C.2.1 dX5_product_44 (by decide) ?_
          have hkk : k < 64 := Nat.lt_of_not_le (fun h => h12 (by rw [i9_2, Nat.le_antisymm i9_3 h]; exact shr_0.mpr hb))
          have hb1 : b.testBit k = false := by rw [i9_2, tb0] at h22; exact h22
          exact ih9 (k + 1) _ _ _ _ (by omega) (by rw [pmF_f hb1]; exact i9_0) (by rw [i9_1, Nat.shiftLeft_add]) (by rw [i9_2, Nat.shiftRight_add]) (by omega) (lv_sub hl [2, 3, 4, 1, 0] rfl)
        · refine lv_lload C.1 C.2.1 dX5_product_25 (lv_at hl 2 rfl) ?_
          refine lv_lload C.1 C.2.1 dX5_product_27 (lv_at hl 3 rfl) ?_
          refine z_lxor C dX5_product_29 ?_
          refine lv_lstore (lv' := [(4, .long (lN ((x4) ^^^ (x6)))), (0, .long (lN (a))), (2, .long (lN (b))), (6, .long (lN (x6))), (8, .long (lN (x8)))]) C.1 C.2.1 dX5_product_30 hl (by decide) rfl (fun ls hl => ?_)
          refine lv_lload C.1 C.2.1 dX5_product_32 (lv_at hl 3 rfl) ?_
          refine z_iconst C dX5_product_34 ?_
          refine z_lshl C (1) (by omega) (by omega) dX5_product_35 ?_
          refine lv_lstore (lv' := [(6, .long (lN ((x6) <<< (1)))), (4, .long (lN ((x4) ^^^ (x6)))), (0, .long (lN (a))), (2, .long (lN (b))), (8, .long (lN (x8)))]) C.1 C.2.1 dX5_product_36 hl (by decide) rfl (fun ls hl => ?_)
          refine lv_lload C.1 C.2.1 dX5_product_38 (lv_at hl 4 rfl) ?_
          refine z_iconst C dX5_product_40 ?_
          refine z_lushr C (1) (by first | assumption | omega | rfl | exact decide_eq_false (by omega) | exact decide_eq_true (by assumption) | exact decide_eq_true (by omega) | exact one_shl33 (by omega) | exact pm_lt _ _ | exact rm_lt (by first | assumption | exact pm_lt _ _) | exact Nat.lt_of_le_of_lt (Nat.shiftRight_le _ _) (by assumption) | exact Nat.lt_of_le_of_lt Nat.and_le_right (by omega)) (by omega) (by omega) dX5_product_41 ?_
          refine lv_lstore (lv' := [(8, .long (lN ((x8) >>> (1)))), (6, .long (lN ((x6) <<< (1)))), (4, .long (lN ((x4) ^^^ (x6)))), (0, .long (lN (a))), (2, .long (lN (b)))]) C.1 C.2.1 dX5_product_42 hl (by decide) rfl (fun ls hl => ?_)
          refine lv_goto (tgt := 9) C.1 C.2.1 dX5_product_44 (by decide) ?_
          have hkk : k < 64 := Nat.lt_of_not_le (fun h => h12 (by rw [i9_2, Nat.le_antisymm i9_3 h]; exact shr_0.mpr hb))
          have hb1 : b.testBit k = true := by rw [i9_2, tb0] at h22; exact h22
          exact ih9 (k + 1) _ _ _ _ (by omega) (by rw [pmF_t hb1, i9_0, i9_1]) (by rw [i9_1, Nat.shiftLeft_add]) (by rw [i9_2, Nat.shiftRight_add]) (by omega) (lv_sub hl [3, 4, 2, 1, 0] rfl)
  exact L9 _ (0) _ _ _ _ (by exact Nat.lt_succ_self _) (by rfl) (by rfl) (by rfl) (by omega) (lv_sub hl [3, 4, 2, 1, 0] rfl)

set_option maxHeartbeats 4000000 in
set_option maxRecDepth 100000 in
theorem c_X5_quotientOf (l : Launch) (a : Nat) (b : Nat) (ha : a < 18446744073709551616) (hb : b < 18446744073709551616) (h2 : ¬ b = 0) : zP l yX5_quotientOf 1 53 [.long (lN (a)), .long (lN (b))] (.long (lN (qo a b))) := by
  refine zP.intro (lo := 24) (nA := 2) (own := RX5) zs_X5_quotientOf (by decide) rfl rfl (by decide +kernel) rfl (Nat.le_of_ble_eq_true rfl) ?_
  intro p e s m below meth c ls C hr hk hl
  have hl : lv_has ls 10 [(0, .long (lN (a))), (2, .long (lN (b)))] := hl
  refine lv_lload_n C.1 C.2.1 dX5_quotientOf_0 rfl (lv_at hl 1 rfl) ?_
  refine z_call C (c_X5_degreeOf l (b) (by first | assumption | omega | rfl | exact decide_eq_false (by omega) | exact decide_eq_true (by assumption) | exact decide_eq_true (by omega) | exact one_shl33 (by omega) | exact pm_lt _ _ | exact rm_lt (by first | assumption | exact pm_lt _ _) | exact Nat.lt_of_le_of_lt (Nat.shiftRight_le _ _) (by assumption) | exact Nat.lt_of_le_of_lt Nat.and_le_right (by omega))) ml_X5_33 ⟨by decide, by decide⟩ ⟨Nat.le_refl _, Nat.le_refl _⟩ hl (Nat.le_of_ble_eq_true rfl) rfl dX5_quotientOf_1 ?_
  have q1_0 := tp_rngE (b) (by first | assumption | omega | exact pm_lt _ _ | exact rm_lt (by assumption))
  refine lv_istore (lv' := [(4, .int (iZ (tp (b)))), (0, .long (lN (a))), (2, .long (lN (b)))]) C.1 C.2.1 dX5_quotientOf_4 hl (by decide) rfl (fun ls hl => ?_)
  refine lv_lload_n C.1 C.2.1 dX5_quotientOf_6 rfl (lv_at hl 1 rfl) ?_
  refine lv_lstore (lv' := [(5, .long (lN (a))), (4, .int (iZ (tp (b)))), (0, .long (lN (a))), (2, .long (lN (b)))]) C.1 C.2.1 dX5_quotientOf_7 hl (by decide) rfl (fun ls hl => ?_)
  refine z_lconst (k0 := 0) C dX5_quotientOf_9 rfl ?_
  refine lv_lstore (lv' := [(7, .long (lN (0))), (5, .long (lN (a))), (4, .int (iZ (tp (b)))), (0, .long (lN (a))), (2, .long (lN (b)))]) C.1 C.2.1 dX5_quotientOf_10 hl (by decide) rfl (fun ls hl => ?_)
  refine lv_lload_n C.1 C.2.1 dX5_quotientOf_12 rfl (lv_at hl 3 rfl) ?_
  refine z_call C (c_X5_degreeOf l (a) (by first | assumption | omega | rfl | exact decide_eq_false (by omega) | exact decide_eq_true (by assumption) | exact decide_eq_true (by omega) | exact one_shl33 (by omega) | exact pm_lt _ _ | exact rm_lt (by first | assumption | exact pm_lt _ _) | exact Nat.lt_of_le_of_lt (Nat.shiftRight_le _ _) (by assumption) | exact Nat.lt_of_le_of_lt Nat.and_le_right (by omega))) ml_X5_33 ⟨by decide, by decide⟩ ⟨Nat.le_refl _, Nat.le_refl _⟩ hl (Nat.le_of_ble_eq_true rfl) rfl dX5_quotientOf_13 ?_
  have q13_0 := tp_rngE (a) (by first | assumption | omega | exact pm_lt _ _ | exact rm_lt (by assumption))
  refine lv_istore (lv' := [(9, .int (iZ (tp (a)))), (7, .long (lN (0))), (5, .long (lN (a))), (4, .int (iZ (tp (b)))), (0, .long (lN (a))), (2, .long (lN (b)))]) C.1 C.2.1 dX5_quotientOf_16 hl (by decide) rfl (fun ls hl => ?_)
  have L18 : ∀ (j : Nat) (j0 : Nat) (x5 : Nat) (x7 : Nat) (x9 : Int) (ls : Array Slot), j0 < j → (x9 + 1 = tp b + (j0 : Int) ∨ (j0 = 0 ∧ x9 < tp b)) → (x9 ≤ 63) → (x5 < 18446744073709551616) → ((qoF b (tp b).toNat j0 x5 x7).2 = qo a b) → (-1 ≤ x9) → lv_has ls 10 [(0, .long (lN (a))), (2, .long (lN (b))), (4, .int (iZ (tp (b)))), (5, .long (lN (x5))), (7, .long (lN (x7))), (9, .int (iZ (x9)))] → W p l e { frames := 1, cells := 0, slots := 0, locals := 24 } s m ([.long (lN (a)), .long (lN (b))] : List Value).toArray below meth c s.heap [] 0 0 (zQ below [.long (lN (a)), .long (lN (b))] s (.long (lN (qo a b)))) (F0 m 18 ls []) := by
    intro j
    induction j with
    | zero => intro j0 x5 x7 x9 ls hmu; exact absurd hmu (Nat.not_lt_zero _)
    | succ j ih18 =>
      intro j0 x5 x7 x9 ls hmu i18_0 i18_1 i18_2 i18_3 i18_4 hl
      have hb0 := mt tp_neg.mp h2
      have hbr := tp_rng hb
      refine lv_iload C.1 C.2.1 dX5_quotientOf_18 (lv_at hl 5 rfl) ?_
      refine lv_iload C.1 C.2.1 dX5_quotientOf_20 (lv_at hl 2 rfl) ?_
      refine z_icmp_lt (tgt := 68) C (by omega) (by omega) dX5_quotientOf_22 (by decide) (fun h22 => ?_) (fun h22 => ?_)
      · refine lv_lload C.1 C.2.1 dX5_quotientOf_68 (lv_at hl 4 rfl) ?_
        exact z_lret C hr hk dX5_quotientOf_70 (congrArg (fun z : Nat => Value.long (lN z)) (by rw [← i18_3, show j0 = 0 by omega]; rfl))
      · refine lv_lload C.1 C.2.1 dX5_quotientOf_25 (lv_at hl 3 rfl) ?_
        refine lv_iload C.1 C.2.1 dX5_quotientOf_27 (lv_at hl 5 rfl) ?_
        refine z_call C (c_X5_has l (x5) (x9) (by first | assumption | omega | rfl | exact decide_eq_false (by omega) | exact decide_eq_true (by assumption) | exact decide_eq_true (by omega) | exact one_shl33 (by omega) | exact pm_lt _ _ | exact rm_lt (by first | assumption | exact pm_lt _ _) | exact Nat.lt_of_le_of_lt (Nat.shiftRight_le _ _) (by assumption) | exact Nat.lt_of_le_of_lt Nat.and_le_right (by omega)) (by first | assumption | omega | rfl | exact decide_eq_false (by omega) | exact decide_eq_true (by assumption) | exact decide_eq_true (by omega) | exact one_shl33 (by omega) | exact pm_lt _ _ | exact rm_lt (by first | assumption | exact pm_lt _ _) | exact Nat.lt_of_le_of_lt (Nat.shiftRight_le _ _) (by assumption) | exact Nat.lt_of_le_of_lt Nat.and_le_right (by omega))) ml_X5_25 ⟨by decide, by decide⟩ ⟨Nat.le_refl _, Nat.le_refl _⟩ hl (Nat.le_of_ble_eq_true rfl) rfl dX5_quotientOf_29 ?_
        refine z_ifB_ne (tgt := 38) C dX5_quotientOf_32 (by decide) (fun h32 => ?_) (fun h32 => ?_)
        · refine lv_lload C.1 C.2.1 dX5_quotientOf_38 (lv_at hl 3 rfl) ?_
          refine lv_lload_n C.1 C.2.1 dX5_quotientOf_40 rfl (lv_at hl 1 rfl) ?_
          refine lv_iload C.1 C.2.1 dX5_quotientOf_41 (lv_at hl 5 rfl) ?_
          refine lv_iload C.1 C.2.1 dX5_quotientOf_43 (lv_at hl 2 rfl) ?_
          refine z_isub C dX5_quotientOf_45 ?_
          refine z_lshl C (((x9) - (tp (b))).toNat) (by omega) (by omega) dX5_quotientOf_46 ?_
          refine z_lxor C dX5_quotientOf_47 ?_
          refine lv_lstore (lv' := [(5, .long (lN ((x5) ^^^ ((b) <<< (((x9) - (tp (b))).toNat))))), (0, .long (lN (a))), (2, .long (lN (b))), (4, .int (iZ (tp (b)))), (7, .long (lN (x7))), (9, .int (iZ (x9)))]) C.1 C.2.1 dX5_quotientOf_48 hl (by decide) rfl (fun ls hl => ?_)
          refine lv_lload C.1 C.2.1 dX5_quotientOf_50 (lv_at hl 4 rfl) ?_
          refine z_lconst (k0 := 1) C dX5_quotientOf_52 rfl ?_
          refine lv_iload C.1 C.2.1 dX5_quotientOf_53 (lv_at hl 5 rfl) ?_
          refine lv_iload C.1 C.2.1 dX5_quotientOf_55 (lv_at hl 3 rfl) ?_
          refine z_isub C dX5_quotientOf_57 ?_
          refine z_lshl C (((x9) - (tp (b))).toNat) (by omega) (by omega) dX5_quotientOf_58 ?_
          refine z_lor C dX5_quotientOf_59 ?_
          refine lv_lstore (lv' := [(7, .long (lN ((x7) ||| ((1) <<< (((x9) - (tp (b))).toNat))))), (5, .long (lN ((x5) ^^^ ((b) <<< (((x9) - (tp (b))).toNat))))), (0, .long (lN (a))), (2, .long (lN (b))), (4, .int (iZ (tp (b)))), (9, .int (iZ (x9)))]) C.1 C.2.1 dX5_quotientOf_60 hl (by decide) rfl (fun ls hl => ?_)
          refine z_iinc (j := 5) (lv' := [(9, .int (iZ (x9 + (-1)))), (7, .long (lN ((x7) ||| ((1) <<< (((x9) - (tp (b))).toNat))))), (5, .long (lN ((x5) ^^^ ((b) <<< (((x9) - (tp (b))).toNat))))), (0, .long (lN (a))), (2, .long (lN (b))), (4, .int (iZ (tp (b))))]) C dX5_quotientOf_62 hl rfl (by decide) rfl (fun ls hl => ?_)
          refine lv_goto (tgt := 18) C.1 C.2.1 dX5_quotientOf_65 (by decide) ?_
          obtain ⟨j1, rfl⟩ : ∃ g, j0 = g + 1 := ⟨j0 - 1, by omega⟩
          rw [tb_k (k := (tp b).toNat + j1) (by omega) (by omega)] at h32
          rw [qoF_t h32] at i18_3
          have ej : (x9 - tp b).toNat = j1 := by omega
          exact ih18 (j1) _ _ _ _ (by omega) (by omega) (by omega) (by rw [ej]; exact xor64 i18_2 (shl64 (by omega) (by omega))) (by rw [ej]; exact i18_3) (by omega) (lv_sub hl [3, 4, 5, 2, 1, 0] rfl)
        · refine lv_goto (tgt := 62) C.1 C.2.1 dX5_quotientOf_35 (by decide) ?_
          refine z_iinc (j := 5) (lv' := [(9, .int (iZ (x9 + (-1)))), (0, .long (lN (a))), (2, .long (lN (b))), (4, .int (iZ (tp (b)))), (5, .long (lN (x5))), (7, .long (lN (x7)))]) C dX5_quotientOf_62 hl rfl (by decide) rfl (fun ls hl => ?_)
          refine lv_goto (tgt := 18) C.1 C.2.1 dX5_quotientOf_65 (by decide) ?_
          obtain ⟨j1, rfl⟩ : ∃ g, j0 = g + 1 := ⟨j0 - 1, by omega⟩
          rw [tb_k (k := (tp b).toNat + j1) (by omega) (by omega)] at h32
          rw [qoF_f h32] at i18_3
          exact ih18 (j1) _ _ _ _ (by omega) (by omega) (by omega) (by exact i18_2) (by exact i18_3) (by omega) (lv_sub hl [1, 2, 3, 4, 5, 0] rfl)
  have hb0 := mt tp_neg.mp h2
  have hbr := tp_rng hb
  have har := tp_rng ha
  exact L18 _ ((tp a + 1 - tp b).toNat) _ _ _ _ (by exact Nat.lt_succ_self _) (by omega) (by omega) (by exact ha) (by rw [qo, if_neg h2]) (by omega) (lv_sub hl [4, 5, 3, 2, 1, 0] rfl)

set_option maxHeartbeats 4000000 in
set_option maxRecDepth 100000 in
theorem c_X5_restOf (l : Launch) (a : Nat) (b : Nat) (ha : a < 18446744073709551616) (hb : b < 18446744073709551616) (h2 : ¬ b = 0) : zP l yX5_restOf 2 76 [.long (lN (a)), .long (lN (b))] (.long (lN (rm a b))) := by
  refine zP.intro (lo := 53) (nA := 2) (own := RX5) zs_X5_restOf (by decide) rfl rfl (by decide +kernel) rfl (Nat.le_of_ble_eq_true rfl) ?_
  intro p e s m below meth c ls C hr hk hl
  have hl : lv_has ls 4 [(0, .long (lN (a))), (2, .long (lN (b)))] := hl
  refine lv_lload_n C.1 C.2.1 dX5_restOf_0 rfl (lv_at hl 0 rfl) ?_
  refine lv_lload_n C.1 C.2.1 dX5_restOf_1 rfl (lv_at hl 0 rfl) ?_
  refine lv_lload_n C.1 C.2.1 dX5_restOf_2 rfl (lv_at hl 1 rfl) ?_
  refine z_call C (c_X5_quotientOf l (a) (b) (by first | assumption | omega | rfl | exact decide_eq_false (by omega) | exact decide_eq_true (by assumption) | exact decide_eq_true (by omega) | exact one_shl33 (by omega) | exact pm_lt _ _ | exact rm_lt (by first | assumption | exact pm_lt _ _) | exact Nat.lt_of_le_of_lt (Nat.shiftRight_le _ _) (by assumption) | exact Nat.lt_of_le_of_lt Nat.and_le_right (by omega)) (by first | assumption | omega | rfl | exact decide_eq_false (by omega) | exact decide_eq_true (by assumption) | exact decide_eq_true (by omega) | exact one_shl33 (by omega) | exact pm_lt _ _ | exact rm_lt (by first | assumption | exact pm_lt _ _) | exact Nat.lt_of_le_of_lt (Nat.shiftRight_le _ _) (by assumption) | exact Nat.lt_of_le_of_lt Nat.and_le_right (by omega)) (by first | assumption | omega | rfl | exact decide_eq_false (by omega) | exact decide_eq_true (by assumption) | exact decide_eq_true (by omega) | exact one_shl33 (by omega) | exact pm_lt _ _ | exact rm_lt (by first | assumption | exact pm_lt _ _) | exact Nat.lt_of_le_of_lt (Nat.shiftRight_le _ _) (by assumption) | exact Nat.lt_of_le_of_lt Nat.and_le_right (by omega))) ml_X5_37 ⟨by decide, by decide⟩ ⟨Nat.le_refl _, Nat.le_refl _⟩ hl (Nat.le_of_ble_eq_true rfl) rfl dX5_restOf_3 ?_
  refine lv_lload_n C.1 C.2.1 dX5_restOf_6 rfl (lv_at hl 1 rfl) ?_
  refine z_call C (c_X5_product l (qo (a) (b)) (b) (by first | assumption | omega | rfl | exact decide_eq_false (by omega) | exact decide_eq_true (by assumption) | exact decide_eq_true (by omega) | exact one_shl33 (by omega) | exact pm_lt _ _ | exact rm_lt (by first | assumption | exact pm_lt _ _) | exact Nat.lt_of_le_of_lt (Nat.shiftRight_le _ _) (by assumption) | exact Nat.lt_of_le_of_lt Nat.and_le_right (by omega))) ml_X5_41 ⟨by decide, by decide⟩ ⟨Nat.le_refl _, Nat.le_refl _⟩ hl (Nat.le_of_ble_eq_true rfl) rfl dX5_restOf_7 ?_
  refine z_lxor C dX5_restOf_10 ?_
  exact z_lret C hr hk dX5_restOf_11 (congrArg (fun z : Nat => Value.long (lN z)) (by rfl))

set_option maxHeartbeats 4000000 in
set_option maxRecDepth 100000 in
theorem c_X5_euclid (l : Launch) (a : Nat) (b : Nat) (z : Int) (ha : a < 18446744073709551616) (hb : b < 18446744073709551616) (hz : 0 ≤ z ∧ z ≤ 2) : zP l yX5_euclid 2 89 [.long (lN (a)), .long (lN (b)), .int (iZ (z))] (.long (lN (eu a b (eux a z) (euy b z)))) := by
  refine zP.intro (lo := 53) (nA := 3) (own := RX5) zs_X5_euclid (by decide) rfl rfl (by decide +kernel) rfl (Nat.le_of_ble_eq_true rfl) ?_
  intro p e s m below meth c ls C hr hk hl
  have hl : lv_has ls 17 [(0, .long (lN (a))), (2, .long (lN (b))), (4, .int (iZ (z)))] := hl
  refine lv_lload_n C.1 C.2.1 dX5_euclid_0 rfl (lv_at hl 0 rfl) ?_
  refine lv_lstore (lv' := [(5, .long (lN (a))), (0, .long (lN (a))), (2, .long (lN (b))), (4, .int (iZ (z)))]) C.1 C.2.1 dX5_euclid_1 hl (by decide) rfl (fun ls hl => ?_)
  refine lv_lload_n C.1 C.2.1 dX5_euclid_3 rfl (lv_at hl 2 rfl) ?_
  refine lv_lstore (lv' := [(7, .long (lN (b))), (5, .long (lN (a))), (0, .long (lN (a))), (2, .long (lN (b))), (4, .int (iZ (z)))]) C.1 C.2.1 dX5_euclid_4 hl (by decide) rfl (fun ls hl => ?_)
  have L50 : ∀ (j : Nat) (f : Nat) (x5 : Nat) (x7 : Nat) (x9 : Nat) (x11 : Nat) (ls : Array Slot), f < j → (x5 < 18446744073709551616) → (x7 < 18446744073709551616) → (x9 < 18446744073709551616) → (x11 < 18446744073709551616) → (tp x7 < (f : Int)) → (euF f x5 x7 x9 x11 = eu a b (eux a z) (euy b z)) → lv_has ls 17 [(0, .long (lN (a))), (2, .long (lN (b))), (4, .int (iZ (z))), (5, .long (lN (x5))), (7, .long (lN (x7))), (9, .long (lN (x9))), (11, .long (lN (x11)))] → W p l e { frames := 2, cells := 0, slots := 0, locals := 53 } s m ([.long (lN (a)), .long (lN (b)), .int (iZ (z))] : List Value).toArray below meth c s.heap [] 0 0 (zQ below [.long (lN (a)), .long (lN (b)), .int (iZ (z))] s (.long (lN (eu a b (eux a z) (euy b z))))) (F0 m 50 ls []) := by
    intro j
    induction j with
    | zero => intro f x5 x7 x9 x11 ls hmu; exact absurd hmu (Nat.not_lt_zero _)
    | succ j ih50 =>
      intro f x5 x7 x9 x11 ls hmu i50_0 i50_1 i50_2 i50_3 i50_4 i50_5 hl
      have ht := tp_ge x7
      have ht2 := @rm_tp x5 x7 i50_0 i50_1
      refine lv_lload C.1 C.2.1 dX5_euclid_50 (lv_at hl 4 rfl) ?_
      refine z_lconst (k0 := 0) C dX5_euclid_52 rfl ?_
      refine z_lc_eq (tgt := 109) C (by first | assumption | omega | rfl | exact decide_eq_false (by omega) | exact decide_eq_true (by assumption) | exact decide_eq_true (by omega) | exact one_shl33 (by omega) | exact pm_lt _ _ | exact rm_lt (by first | assumption | exact pm_lt _ _) | exact Nat.lt_of_le_of_lt (Nat.shiftRight_le _ _) (by assumption) | exact Nat.lt_of_le_of_lt Nat.and_le_right (by omega)) (by first | assumption | omega | rfl | exact decide_eq_false (by omega) | exact decide_eq_true (by assumption) | exact decide_eq_true (by omega) | exact one_shl33 (by omega) | exact pm_lt _ _ | exact rm_lt (by first | assumption | exact pm_lt _ _) | exact Nat.lt_of_le_of_lt (Nat.shiftRight_le _ _) (by assumption) | exact Nat.lt_of_le_of_lt Nat.and_le_right (by omega)) dX5_euclid_53 dX5_euclid_54 (by decide) (fun h53 => ?_) (fun h53 => ?_)
      · refine lv_lload C.1 C.2.1 dX5_euclid_109 (lv_at hl 5 rfl) ?_
        exact z_lret C hr hk dX5_euclid_111 (congrArg (fun z : Nat => Value.long (lN z)) (by rw [← i50_5, h53, euF_0]))
      · refine lv_lload C.1 C.2.1 dX5_euclid_57 (lv_at hl 3 rfl) ?_
        refine lv_lload C.1 C.2.1 dX5_euclid_59 (lv_at hl 4 rfl) ?_
        refine z_call C (c_X5_quotientOf l (x5) (x7) (by first | assumption | omega | rfl | exact decide_eq_false (by omega) | exact decide_eq_true (by assumption) | exact decide_eq_true (by omega) | exact one_shl33 (by omega) | exact pm_lt _ _ | exact rm_lt (by first | assumption | exact pm_lt _ _) | exact Nat.lt_of_le_of_lt (Nat.shiftRight_le _ _) (by assumption) | exact Nat.lt_of_le_of_lt Nat.and_le_right (by omega)) (by first | assumption | omega | rfl | exact decide_eq_false (by omega) | exact decide_eq_true (by assumption) | exact decide_eq_true (by omega) | exact one_shl33 (by omega) | exact pm_lt _ _ | exact rm_lt (by first | assumption | exact pm_lt _ _) | exact Nat.lt_of_le_of_lt (Nat.shiftRight_le _ _) (by assumption) | exact Nat.lt_of_le_of_lt Nat.and_le_right (by omega)) (by first | assumption | omega | rfl | exact decide_eq_false (by omega) | exact decide_eq_true (by assumption) | exact decide_eq_true (by omega) | exact one_shl33 (by omega) | exact pm_lt _ _ | exact rm_lt (by first | assumption | exact pm_lt _ _) | exact Nat.lt_of_le_of_lt (Nat.shiftRight_le _ _) (by assumption) | exact Nat.lt_of_le_of_lt Nat.and_le_right (by omega))) ml_X5_37 ⟨by decide, by decide⟩ ⟨Nat.le_refl _, Nat.le_refl _⟩ hl (Nat.le_of_ble_eq_true rfl) rfl dX5_euclid_61 ?_
        refine lv_lstore (lv' := [(13, .long (lN (qo (x5) (x7)))), (0, .long (lN (a))), (2, .long (lN (b))), (4, .int (iZ (z))), (5, .long (lN (x5))), (7, .long (lN (x7))), (9, .long (lN (x9))), (11, .long (lN (x11)))]) C.1 C.2.1 dX5_euclid_64 hl (by decide) rfl (fun ls hl => ?_)
        refine lv_lload C.1 C.2.1 dX5_euclid_66 (lv_at hl 4 rfl) ?_
        refine lv_lload C.1 C.2.1 dX5_euclid_68 (lv_at hl 0 rfl) ?_
        refine lv_lload C.1 C.2.1 dX5_euclid_70 (lv_at hl 5 rfl) ?_
        refine z_call C (c_X5_product l (qo (x5) (x7)) (x7) (by first | assumption | omega | rfl | exact decide_eq_false (by omega) | exact decide_eq_true (by assumption) | exact decide_eq_true (by omega) | exact one_shl33 (by omega) | exact pm_lt _ _ | exact rm_lt (by first | assumption | exact pm_lt _ _) | exact Nat.lt_of_le_of_lt (Nat.shiftRight_le _ _) (by assumption) | exact Nat.lt_of_le_of_lt Nat.and_le_right (by omega))) ml_X5_41 ⟨by decide, by decide⟩ ⟨Nat.le_refl _, Nat.le_refl _⟩ hl (Nat.le_of_ble_eq_true rfl) rfl dX5_euclid_72 ?_
        refine z_lxor C dX5_euclid_75 ?_
        refine lv_lstore (lv' := [(15, .long (lN ((x5) ^^^ (pm (qo (x5) (x7)) (x7))))), (13, .long (lN (qo (x5) (x7)))), (0, .long (lN (a))), (2, .long (lN (b))), (4, .int (iZ (z))), (5, .long (lN (x5))), (7, .long (lN (x7))), (9, .long (lN (x9))), (11, .long (lN (x11)))]) C.1 C.2.1 dX5_euclid_76 hl (by decide) rfl (fun ls hl => ?_)
        refine lv_lload C.1 C.2.1 dX5_euclid_78 (lv_at hl 6 rfl) ?_
        refine lv_lstore (lv' := [(5, .long (lN (x7))), (15, .long (lN ((x5) ^^^ (pm (qo (x5) (x7)) (x7))))), (13, .long (lN (qo (x5) (x7)))), (0, .long (lN (a))), (2, .long (lN (b))), (4, .int (iZ (z))), (7, .long (lN (x7))), (9, .long (lN (x9))), (11, .long (lN (x11)))]) C.1 C.2.1 dX5_euclid_80 hl (by decide) rfl (fun ls hl => ?_)
        refine lv_lload C.1 C.2.1 dX5_euclid_82 (lv_at hl 1 rfl) ?_
        refine lv_lstore (lv' := [(7, .long (lN ((x5) ^^^ (pm (qo (x5) (x7)) (x7))))), (5, .long (lN (x7))), (15, .long (lN ((x5) ^^^ (pm (qo (x5) (x7)) (x7))))), (13, .long (lN (qo (x5) (x7)))), (0, .long (lN (a))), (2, .long (lN (b))), (4, .int (iZ (z))), (9, .long (lN (x9))), (11, .long (lN (x11)))]) C.1 C.2.1 dX5_euclid_84 hl (by decide) rfl (fun ls hl => ?_)
        refine lv_lload C.1 C.2.1 dX5_euclid_86 (lv_at hl 7 rfl) ?_
        refine lv_lload C.1 C.2.1 dX5_euclid_88 (lv_at hl 3 rfl) ?_
        refine lv_lload C.1 C.2.1 dX5_euclid_90 (lv_at hl 8 rfl) ?_
        refine z_call C (c_X5_product l (qo (x5) (x7)) (x11) (by first | assumption | omega | rfl | exact decide_eq_false (by omega) | exact decide_eq_true (by assumption) | exact decide_eq_true (by omega) | exact one_shl33 (by omega) | exact pm_lt _ _ | exact rm_lt (by first | assumption | exact pm_lt _ _) | exact Nat.lt_of_le_of_lt (Nat.shiftRight_le _ _) (by assumption) | exact Nat.lt_of_le_of_lt Nat.and_le_right (by omega))) ml_X5_41 ⟨by decide, by decide⟩ ⟨Nat.le_refl _, Nat.le_refl _⟩ hl (Nat.le_of_ble_eq_true rfl) rfl dX5_euclid_92 ?_
        refine z_lxor C dX5_euclid_95 ?_
        refine lv_lstore (lv' := [(15, .long (lN ((x9) ^^^ (pm (qo (x5) (x7)) (x11))))), (7, .long (lN ((x5) ^^^ (pm (qo (x5) (x7)) (x7))))), (5, .long (lN (x7))), (13, .long (lN (qo (x5) (x7)))), (0, .long (lN (a))), (2, .long (lN (b))), (4, .int (iZ (z))), (9, .long (lN (x9))), (11, .long (lN (x11)))]) C.1 C.2.1 dX5_euclid_96 hl (by decide) rfl (fun ls hl => ?_)
        refine lv_lload C.1 C.2.1 dX5_euclid_98 (lv_at hl 8 rfl) ?_
        refine lv_lstore (lv' := [(9, .long (lN (x11))), (15, .long (lN ((x9) ^^^ (pm (qo (x5) (x7)) (x11))))), (7, .long (lN ((x5) ^^^ (pm (qo (x5) (x7)) (x7))))), (5, .long (lN (x7))), (13, .long (lN (qo (x5) (x7)))), (0, .long (lN (a))), (2, .long (lN (b))), (4, .int (iZ (z))), (11, .long (lN (x11)))]) C.1 C.2.1 dX5_euclid_100 hl (by decide) rfl (fun ls hl => ?_)
        refine lv_lload C.1 C.2.1 dX5_euclid_102 (lv_at hl 1 rfl) ?_
        refine lv_lstore (lv' := [(11, .long (lN ((x9) ^^^ (pm (qo (x5) (x7)) (x11))))), (9, .long (lN (x11))), (15, .long (lN ((x9) ^^^ (pm (qo (x5) (x7)) (x11))))), (7, .long (lN ((x5) ^^^ (pm (qo (x5) (x7)) (x7))))), (5, .long (lN (x7))), (13, .long (lN (qo (x5) (x7)))), (0, .long (lN (a))), (2, .long (lN (b))), (4, .int (iZ (z)))]) C.1 C.2.1 dX5_euclid_104 hl (by decide) rfl (fun ls hl => ?_)
        refine lv_goto (tgt := 50) C.1 C.2.1 dX5_euclid_106 (by decide) ?_
        obtain ⟨f, rfl⟩ : ∃ g, f = g + 1 := ⟨f - 1, by have := tp_neg (n := x7); omega⟩
        rw [euF_s h53] at i50_5
        have ht3 := ht2 h53
        exact ih50 (f) _ _ _ _ _ (by omega) (by exact i50_1) (by exact rm_lt i50_0) (by exact i50_3) (by exact xor64 i50_2 (pm_lt _ _)) (by have : tp (x5 ^^^ pm (qo x5 x7) x7) < tp x7 := ht3; omega) (by exact i50_5) (lv_sub hl [6, 7, 8, 4, 3, 1, 0] rfl)
  refine lv_iload C.1 C.2.1 dX5_euclid_6 (lv_at hl 4 rfl) ?_
  have L28 : ∀ (j : Nat)  (x9 : Nat) (ls : Array Slot), 0 < j → (x9 = eux a z) → lv_has ls 17 [(0, .long (lN (a))), (2, .long (lN (b))), (4, .int (iZ (z))), (5, .long (lN (a))), (7, .long (lN (b))), (9, .long (lN (x9)))] → W p l e { frames := 2, cells := 0, slots := 0, locals := 53 } s m ([.long (lN (a)), .long (lN (b)), .int (iZ (z))] : List Value).toArray below meth c s.heap [] 0 0 (zQ below [.long (lN (a)), .long (lN (b)), .int (iZ (z))] s (.long (lN (eu a b (eux a z) (euy b z))))) (F0 m 28 ls []) := by
    intro j
    induction j with
    | zero => intro x9 ls hmu; exact absurd hmu (Nat.not_lt_zero _)
    | succ j ih28 =>
      intro x9 ls hmu i28_0 hl
      refine lv_iload C.1 C.2.1 dX5_euclid_28 (lv_at hl 2 rfl) ?_
      refine z_if_ne (tgt := 37) C (by omega) dX5_euclid_30 (by decide) (fun h30 => ?_) (fun h30 => ?_)
      · refine lv_iload C.1 C.2.1 dX5_euclid_37 (lv_at hl 2 rfl) ?_
        refine z_iconst C dX5_euclid_39 ?_
        refine z_icmp_ne (tgt := 47) C (by omega) (by omega) dX5_euclid_40 (by decide) (fun h40 => ?_) (fun h40 => ?_)
        · refine z_lconst (k0 := 1) C dX5_euclid_47 rfl ?_
          refine lv_lstore (lv' := [(11, .long (lN (1))), (0, .long (lN (a))), (2, .long (lN (b))), (4, .int (iZ (z))), (5, .long (lN (a))), (7, .long (lN (b))), (9, .long (lN (x9)))]) C.1 C.2.1 dX5_euclid_48 hl (by decide) rfl (fun ls hl => ?_)
          have hq := tp_rng hb
          exact L50 _ (65) _ _ _ _ _ (by exact Nat.lt_succ_self _) (by exact ha) (by exact hb) (by rw [i28_0]; exact eux_lt ha) (by first | assumption | omega) (by omega) (by rw [i28_0]; unfold euy; first | (rw [if_pos (by assumption)]; rfl) | (rw [if_neg (by assumption), if_pos (by assumption)]; rfl) | (rw [if_neg (by assumption), if_neg (by assumption)]; rfl)) (lv_sub hl [1, 2, 3, 4, 5, 6, 0] rfl)
        · refine z_lconst (k0 := 0) C dX5_euclid_43 rfl ?_
          refine lv_goto (tgt := 48) C.1 C.2.1 dX5_euclid_44 (by decide) ?_
          refine lv_lstore (lv' := [(11, .long (lN (0))), (0, .long (lN (a))), (2, .long (lN (b))), (4, .int (iZ (z))), (5, .long (lN (a))), (7, .long (lN (b))), (9, .long (lN (x9)))]) C.1 C.2.1 dX5_euclid_48 hl (by decide) rfl (fun ls hl => ?_)
          have hq := tp_rng hb
          exact L50 _ (65) _ _ _ _ _ (by exact Nat.lt_succ_self _) (by exact ha) (by exact hb) (by rw [i28_0]; exact eux_lt ha) (by first | assumption | omega) (by omega) (by rw [i28_0]; unfold euy; first | (rw [if_pos (by assumption)]; rfl) | (rw [if_neg (by assumption), if_pos (by assumption)]; rfl) | (rw [if_neg (by assumption), if_neg (by assumption)]; rfl)) (lv_sub hl [1, 2, 3, 4, 5, 6, 0] rfl)
      · refine lv_lload_n C.1 C.2.1 dX5_euclid_33 rfl (lv_at hl 1 rfl) ?_
        refine lv_goto (tgt := 48) C.1 C.2.1 dX5_euclid_34 (by decide) ?_
        refine lv_lstore (lv' := [(11, .long (lN (b))), (0, .long (lN (a))), (2, .long (lN (b))), (4, .int (iZ (z))), (5, .long (lN (a))), (7, .long (lN (b))), (9, .long (lN (x9)))]) C.1 C.2.1 dX5_euclid_48 hl (by decide) rfl (fun ls hl => ?_)
        have hq := tp_rng hb
        exact L50 _ (65) _ _ _ _ _ (by exact Nat.lt_succ_self _) (by exact ha) (by exact hb) (by rw [i28_0]; exact eux_lt ha) (by first | assumption | omega) (by omega) (by rw [i28_0]; unfold euy; first | (rw [if_pos (by assumption)]; rfl) | (rw [if_neg (by assumption), if_pos (by assumption)]; rfl) | (rw [if_neg (by assumption), if_neg (by assumption)]; rfl)) (lv_sub hl [1, 2, 3, 4, 5, 6, 0] rfl)
  refine z_if_ne (tgt := 15) C (by omega) dX5_euclid_8 (by decide) (fun h8 => ?_) (fun h8 => ?_)
  · refine lv_iload C.1 C.2.1 dX5_euclid_15 (lv_at hl 4 rfl) ?_
    refine z_iconst C dX5_euclid_17 ?_
    refine z_icmp_ne (tgt := 25) C (by omega) (by omega) dX5_euclid_18 (by decide) (fun h18 => ?_) (fun h18 => ?_)
    · refine z_lconst (k0 := 0) C dX5_euclid_25 rfl ?_
      refine lv_lstore (lv' := [(9, .long (lN (0))), (7, .long (lN (b))), (5, .long (lN (a))), (0, .long (lN (a))), (2, .long (lN (b))), (4, .int (iZ (z)))]) C.1 C.2.1 dX5_euclid_26 hl (by decide) rfl (fun ls hl => ?_)
      exact L28 _  _ _ (by exact Nat.lt_succ_self _) (by unfold eux; first | rw [if_pos (by assumption)] | rw [if_neg (by assumption), if_pos (by assumption)] | rw [if_neg (by assumption), if_neg (by assumption)]) (lv_sub hl [3, 4, 5, 2, 1, 0] rfl)
    · refine z_lconst (k0 := 1) C dX5_euclid_21 rfl ?_
      refine lv_goto (tgt := 26) C.1 C.2.1 dX5_euclid_22 (by decide) ?_
      refine lv_lstore (lv' := [(9, .long (lN (1))), (7, .long (lN (b))), (5, .long (lN (a))), (0, .long (lN (a))), (2, .long (lN (b))), (4, .int (iZ (z)))]) C.1 C.2.1 dX5_euclid_26 hl (by decide) rfl (fun ls hl => ?_)
      exact L28 _  _ _ (by exact Nat.lt_succ_self _) (by unfold eux; first | rw [if_pos (by assumption)] | rw [if_neg (by assumption), if_pos (by assumption)] | rw [if_neg (by assumption), if_neg (by assumption)]) (lv_sub hl [3, 4, 5, 2, 1, 0] rfl)
  · refine lv_lload_n C.1 C.2.1 dX5_euclid_11 rfl (lv_at hl 2 rfl) ?_
    refine lv_goto (tgt := 26) C.1 C.2.1 dX5_euclid_12 (by decide) ?_
    refine lv_lstore (lv' := [(9, .long (lN (a))), (7, .long (lN (b))), (5, .long (lN (a))), (0, .long (lN (a))), (2, .long (lN (b))), (4, .int (iZ (z)))]) C.1 C.2.1 dX5_euclid_26 hl (by decide) rfl (fun ls hl => ?_)
    exact L28 _  _ _ (by exact Nat.lt_succ_self _) (by unfold eux; first | rw [if_pos (by assumption)] | rw [if_neg (by assumption), if_pos (by assumption)] | rw [if_neg (by assumption), if_neg (by assumption)]) (lv_sub hl [3, 4, 5, 2, 1, 0] rfl)

set_option maxHeartbeats 4000000 in
set_option maxRecDepth 100000 in
theorem c_X5_derived (l : Launch) (n : Nat) (hn : n < 18446744073709551616) : zP l yX5_derived 1 46 [.long (lN (n))] (.long (lN (mdF n 16))) := by
  refine zP.intro (lo := 22) (nA := 1) (own := RX5) zs_X5_derived (by decide) rfl rfl (by decide +kernel) rfl (Nat.le_of_ble_eq_true rfl) ?_
  intro p e s m below meth c ls C hr hk hl
  have hl : lv_has ls 5 [(0, .long (lN (n)))] := hl
  refine z_lconst (k0 := 0) C dX5_derived_0 rfl ?_
  refine lv_lstore_n (lv' := [(2, .long (lN (0))), (0, .long (lN (n)))]) C.1 C.2.1 dX5_derived_1 rfl hl (by decide) rfl (fun ls hl => ?_)
  refine z_iconst C dX5_derived_2 ?_
  refine lv_istore (lv' := [(4, .int (iZ (1))), (2, .long (lN (0))), (0, .long (lN (n)))]) C.1 C.2.1 dX5_derived_3 hl (by decide) rfl (fun ls hl => ?_)
  have L5 : ∀ (j : Nat) (k : Nat) (x2 : Nat) (x4 : Int) (ls : Array Slot), 16 - k < j → (x4 = 2 * (k : Int) + 1) → (k ≤ 16) → (x2 = mdF n k) → lv_has ls 5 [(0, .long (lN (n))), (2, .long (lN (x2))), (4, .int (iZ (x4)))] → W p l e { frames := 1, cells := 0, slots := 0, locals := 22 } s m ([.long (lN (n))] : List Value).toArray below meth c s.heap [] 0 0 (zQ below [.long (lN (n))] s (.long (lN (mdF n 16)))) (F0 m 5 ls []) := by
    intro j
    induction j with
    | zero => intro k x2 x4 ls hmu; exact absurd hmu (Nat.not_lt_zero _)
    | succ j ih5 =>
      intro k x2 x4 ls hmu i5_0 i5_1 i5_2 hl
      refine lv_iload C.1 C.2.1 dX5_derived_5 (lv_at hl 2 rfl) ?_
      refine z_bipush C dX5_derived_7 (by decide) ?_
      refine z_icmp_gt (tgt := 36) C (by omega) (by omega) dX5_derived_9 (by decide) (fun h9 => ?_) (fun h9 => ?_)
      · refine lv_lload_n C.1 C.2.1 dX5_derived_36 rfl (lv_at hl 1 rfl) ?_
        exact z_lret C hr hk dX5_derived_37 (congrArg (fun z : Nat => Value.long (lN z)) (by rw [i5_2, show k = 16 by omega]))
      · refine lv_lload_n C.1 C.2.1 dX5_derived_12 rfl (lv_at hl 0 rfl) ?_
        refine lv_iload C.1 C.2.1 dX5_derived_13 (lv_at hl 2 rfl) ?_
        refine z_call C (c_X5_has l (n) (x4) (by first | assumption | omega | rfl | exact decide_eq_false (by omega) | exact decide_eq_true (by assumption) | exact decide_eq_true (by omega) | exact one_shl33 (by omega) | exact pm_lt _ _ | exact rm_lt (by first | assumption | exact pm_lt _ _) | exact Nat.lt_of_le_of_lt (Nat.shiftRight_le _ _) (by assumption) | exact Nat.lt_of_le_of_lt Nat.and_le_right (by omega)) (by first | assumption | omega | rfl | exact decide_eq_false (by omega) | exact decide_eq_true (by assumption) | exact decide_eq_true (by omega) | exact one_shl33 (by omega) | exact pm_lt _ _ | exact rm_lt (by first | assumption | exact pm_lt _ _) | exact Nat.lt_of_le_of_lt (Nat.shiftRight_le _ _) (by assumption) | exact Nat.lt_of_le_of_lt Nat.and_le_right (by omega))) ml_X5_25 ⟨by decide, by decide⟩ ⟨Nat.le_refl _, Nat.le_refl _⟩ hl (Nat.le_of_ble_eq_true rfl) rfl dX5_derived_15 ?_
        refine z_ifB_eq (tgt := 30) C dX5_derived_18 (by decide) (fun h18 => ?_) (fun h18 => ?_)
        · refine z_iinc (j := 2) (lv' := [(4, .int (iZ (x4 + 2))), (0, .long (lN (n))), (2, .long (lN (x2)))]) C dX5_derived_30 hl rfl (by decide) rfl (fun ls hl => ?_)
          refine lv_goto (tgt := 5) C.1 C.2.1 dX5_derived_33 (by decide) ?_
          rw [tb_k (k := 2 * k + 1) (by omega) (by omega)] at h18
          exact ih5 (k + 1) _ _ _ (by omega) (by omega) (by omega) (by rw [mdF_f h18]; exact i5_2) (lv_sub hl [1, 2, 0] rfl)
        · refine lv_lload_n C.1 C.2.1 dX5_derived_21 rfl (lv_at hl 1 rfl) ?_
          refine z_lconst (k0 := 1) C dX5_derived_22 rfl ?_
          refine lv_iload C.1 C.2.1 dX5_derived_23 (lv_at hl 2 rfl) ?_
          refine z_iconst C dX5_derived_25 ?_
          refine z_isub C dX5_derived_26 ?_
          refine z_lshl C (((x4) - (1)).toNat) (by omega) (by omega) dX5_derived_27 ?_
          refine z_lor C dX5_derived_28 ?_
          refine lv_lstore_n (lv' := [(2, .long (lN ((x2) ||| ((1) <<< (((x4) - (1)).toNat))))), (0, .long (lN (n))), (4, .int (iZ (x4)))]) C.1 C.2.1 dX5_derived_29 rfl hl (by decide) rfl (fun ls hl => ?_)
          refine z_iinc (j := 2) (lv' := [(4, .int (iZ (x4 + 2))), (2, .long (lN ((x2) ||| ((1) <<< (((x4) - (1)).toNat))))), (0, .long (lN (n)))]) C dX5_derived_30 hl rfl (by decide) rfl (fun ls hl => ?_)
          refine lv_goto (tgt := 5) C.1 C.2.1 dX5_derived_33 (by decide) ?_
          rw [tb_k (k := 2 * k + 1) (by omega) (by omega)] at h18
          have ek : (x4 - 1).toNat = 2 * k := by omega
          exact ih5 (k + 1) _ _ _ (by omega) (by omega) (by omega) (by rw [mdF_t h18, ek, i5_2]) (lv_sub hl [2, 1, 0] rfl)
  exact L5 _ (0) _ _ _ (by exact Nat.lt_succ_self _) (by rfl) (by omega) (by rfl) (lv_sub hl [2, 1, 0] rfl)

set_option maxHeartbeats 4000000 in
set_option maxRecDepth 100000 in
theorem c_X5_half (l : Launch) (n : Nat) (hn : n < 18446744073709551616) : zP l yX5_half 1 46 [.long (lN (n))] (.long (lN (ehF n 17))) := by
  refine zP.intro (lo := 22) (nA := 1) (own := RX5) zs_X5_half (by decide) rfl rfl (by decide +kernel) rfl (Nat.le_of_ble_eq_true rfl) ?_
  intro p e s m below meth c ls C hr hk hl
  have hl : lv_has ls 5 [(0, .long (lN (n)))] := hl
  refine z_lconst (k0 := 0) C dX5_half_0 rfl ?_
  refine lv_lstore_n (lv' := [(2, .long (lN (0))), (0, .long (lN (n)))]) C.1 C.2.1 dX5_half_1 rfl hl (by decide) rfl (fun ls hl => ?_)
  refine z_iconst C dX5_half_2 ?_
  refine lv_istore (lv' := [(4, .int (iZ (0))), (2, .long (lN (0))), (0, .long (lN (n)))]) C.1 C.2.1 dX5_half_3 hl (by decide) rfl (fun ls hl => ?_)
  have L5 : ∀ (j : Nat) (k : Nat) (x2 : Nat) (x4 : Int) (ls : Array Slot), 17 - k < j → (x4 = 2 * (k : Int)) → (k ≤ 17) → (x2 = ehF n k) → lv_has ls 5 [(0, .long (lN (n))), (2, .long (lN (x2))), (4, .int (iZ (x4)))] → W p l e { frames := 1, cells := 0, slots := 0, locals := 22 } s m ([.long (lN (n))] : List Value).toArray below meth c s.heap [] 0 0 (zQ below [.long (lN (n))] s (.long (lN (ehF n 17)))) (F0 m 5 ls []) := by
    intro j
    induction j with
    | zero => intro k x2 x4 ls hmu; exact absurd hmu (Nat.not_lt_zero _)
    | succ j ih5 =>
      intro k x2 x4 ls hmu i5_0 i5_1 i5_2 hl
      refine lv_iload C.1 C.2.1 dX5_half_5 (lv_at hl 2 rfl) ?_
      refine z_bipush C dX5_half_7 (by decide) ?_
      refine z_icmp_gt (tgt := 36) C (by omega) (by omega) dX5_half_9 (by decide) (fun h9 => ?_) (fun h9 => ?_)
      · refine lv_lload_n C.1 C.2.1 dX5_half_36 rfl (lv_at hl 1 rfl) ?_
        exact z_lret C hr hk dX5_half_37 (congrArg (fun z : Nat => Value.long (lN z)) (by rw [i5_2, show k = 17 by omega]))
      · refine lv_lload_n C.1 C.2.1 dX5_half_12 rfl (lv_at hl 0 rfl) ?_
        refine lv_iload C.1 C.2.1 dX5_half_13 (lv_at hl 2 rfl) ?_
        refine z_call C (c_X5_has l (n) (x4) (by first | assumption | omega | rfl | exact decide_eq_false (by omega) | exact decide_eq_true (by assumption) | exact decide_eq_true (by omega) | exact one_shl33 (by omega) | exact pm_lt _ _ | exact rm_lt (by first | assumption | exact pm_lt _ _) | exact Nat.lt_of_le_of_lt (Nat.shiftRight_le _ _) (by assumption) | exact Nat.lt_of_le_of_lt Nat.and_le_right (by omega)) (by first | assumption | omega | rfl | exact decide_eq_false (by omega) | exact decide_eq_true (by assumption) | exact decide_eq_true (by omega) | exact one_shl33 (by omega) | exact pm_lt _ _ | exact rm_lt (by first | assumption | exact pm_lt _ _) | exact Nat.lt_of_le_of_lt (Nat.shiftRight_le _ _) (by assumption) | exact Nat.lt_of_le_of_lt Nat.and_le_right (by omega))) ml_X5_25 ⟨by decide, by decide⟩ ⟨Nat.le_refl _, Nat.le_refl _⟩ hl (Nat.le_of_ble_eq_true rfl) rfl dX5_half_15 ?_
        refine z_ifB_eq (tgt := 30) C dX5_half_18 (by decide) (fun h18 => ?_) (fun h18 => ?_)
        · refine z_iinc (j := 2) (lv' := [(4, .int (iZ (x4 + 2))), (0, .long (lN (n))), (2, .long (lN (x2)))]) C dX5_half_30 hl rfl (by decide) rfl (fun ls hl => ?_)
          refine lv_goto (tgt := 5) C.1 C.2.1 dX5_half_33 (by decide) ?_
          rw [tb_k (k := 2 * k) (by omega) (by omega)] at h18
          exact ih5 (k + 1) _ _ _ (by omega) (by omega) (by omega) (by rw [ehF_f h18]; exact i5_2) (lv_sub hl [1, 2, 0] rfl)
        · refine lv_lload_n C.1 C.2.1 dX5_half_21 rfl (lv_at hl 1 rfl) ?_
          refine z_lconst (k0 := 1) C dX5_half_22 rfl ?_
          refine lv_iload C.1 C.2.1 dX5_half_23 (lv_at hl 2 rfl) ?_
          refine z_iconst C dX5_half_25 ?_
          refine z_idiv C (by omega) (by omega) dX5_half_26 ?_
          refine z_lshl C (((x4) / (2)).toNat) (by omega) (by omega) dX5_half_27 ?_
          refine z_lor C dX5_half_28 ?_
          refine lv_lstore_n (lv' := [(2, .long (lN ((x2) ||| ((1) <<< (((x4) / (2)).toNat))))), (0, .long (lN (n))), (4, .int (iZ (x4)))]) C.1 C.2.1 dX5_half_29 rfl hl (by decide) rfl (fun ls hl => ?_)
          refine z_iinc (j := 2) (lv' := [(4, .int (iZ (x4 + 2))), (2, .long (lN ((x2) ||| ((1) <<< (((x4) / (2)).toNat))))), (0, .long (lN (n)))]) C dX5_half_30 hl rfl (by decide) rfl (fun ls hl => ?_)
          refine lv_goto (tgt := 5) C.1 C.2.1 dX5_half_33 (by decide) ?_
          rw [tb_k (k := 2 * k) (by omega) (by omega)] at h18
          have ek : (x4 / 2).toNat = k := by omega
          exact ih5 (k + 1) _ _ _ (by omega) (by omega) (by omega) (by rw [ehF_t h18, ek, i5_2]) (lv_sub hl [2, 1, 0] rfl)
  exact L5 _ (0) _ _ _ (by exact Nat.lt_succ_self _) (by rfl) (by omega) (by rfl) (lv_sub hl [2, 1, 0] rfl)

set_option maxHeartbeats 4000000 in
set_option maxRecDepth 100000 in
theorem c_X5_isIrreducible (l : Launch) (n : Nat) (hn : n < 18446744073709551616) : zP l yX5_isIrreducible 3 100 [.long (lN (n))] (.int (iZ (zB (ir n)))) := by
  refine zP.intro (lo := 76) (nA := 1) (own := RX5) zs_X5_isIrreducible (by decide) rfl rfl (by decide +kernel) rfl (Nat.le_of_ble_eq_true rfl) ?_
  intro p e s m below meth c ls C hr hk hl
  have hl : lv_has ls 5 [(0, .long (lN (n)))] := hl
  refine lv_lload_n C.1 C.2.1 dX5_isIrreducible_0 rfl (lv_at hl 0 rfl) ?_
  refine z_call C (c_X5_degreeOf l (n) (by first | assumption | omega | rfl | exact decide_eq_false (by omega) | exact decide_eq_true (by assumption) | exact decide_eq_true (by omega) | exact one_shl33 (by omega) | exact pm_lt _ _ | exact rm_lt (by first | assumption | exact pm_lt _ _) | exact Nat.lt_of_le_of_lt (Nat.shiftRight_le _ _) (by assumption) | exact Nat.lt_of_le_of_lt Nat.and_le_right (by omega))) ml_X5_33 ⟨by decide, by decide⟩ ⟨Nat.le_refl _, Nat.le_refl _⟩ hl (Nat.le_of_ble_eq_true rfl) rfl dX5_isIrreducible_1 ?_
  have q1_0 := tp_rngE (n) (by first | assumption | omega | exact pm_lt _ _ | exact rm_lt (by assumption))
  refine lv_istore_n (lv' := [(2, .int (iZ (tp (n)))), (0, .long (lN (n)))]) C.1 C.2.1 dX5_isIrreducible_4 rfl hl (by decide) rfl (fun ls hl => ?_)
  refine lv_iload_n C.1 C.2.1 dX5_isIrreducible_5 rfl (lv_at hl 0 rfl) ?_
  refine z_iconst C dX5_isIrreducible_6 ?_
  refine z_icmp_ge (tgt := 12) C (by omega) (by omega) dX5_isIrreducible_7 (by decide) (fun h7 => ?_) (fun h7 => ?_)
  · refine z_ldc2 C 2 (T0_of kl_X5_44 rfl) (by decide) dX5_isIrreducible_12 ?_
    refine lv_lstore_n (lv' := [(3, .long (lN (2))), (2, .int (iZ (tp (n)))), (0, .long (lN (n)))]) C.1 C.2.1 dX5_isIrreducible_15 rfl hl (by decide) rfl (fun ls hl => ?_)
    have L16 : ∀ (j : Nat) (f : Nat) (x3 : Nat) (ls : Array Slot), f < j → (f + x3 = irE n) → (2 ≤ x3) → (irF n f x3 = ir n) → (1 ≤ tp n) → lv_has ls 5 [(0, .long (lN (n))), (2, .int (iZ (tp (n)))), (3, .long (lN (x3)))] → W p l e { frames := 3, cells := 0, slots := 0, locals := 76 } s m ([.long (lN (n))] : List Value).toArray below meth c s.heap [] 0 0 (zQ below [.long (lN (n))] s (.int (iZ (zB (ir n))))) (F0 m 16 ls []) := by
      intro j
      induction j with
      | zero => intro f x3 ls hmu; exact absurd hmu (Nat.not_lt_zero _)
      | succ j ih16 =>
        intro f x3 ls hmu i16_0 i16_1 i16_2 i16_3 hl
        have hq := irE_rng i16_3 (tp_rng hn).2
        have he := irE_tp (n := n) (p := x3) i16_3
        have hx3 : x3 < 18446744073709551616 := by omega
        have ht3 := tp_rng hx3
        refine z_iconst C dX5_isIrreducible_16 ?_
        refine lv_lload_n C.1 C.2.1 dX5_isIrreducible_17 rfl (lv_at hl 2 rfl) ?_
        refine z_call C (c_X5_degreeOf l (x3) (by first | assumption | omega | rfl | exact decide_eq_false (by omega) | exact decide_eq_true (by assumption) | exact decide_eq_true (by omega) | exact one_shl33 (by omega) | exact pm_lt _ _ | exact rm_lt (by first | assumption | exact pm_lt _ _) | exact Nat.lt_of_le_of_lt (Nat.shiftRight_le _ _) (by assumption) | exact Nat.lt_of_le_of_lt Nat.and_le_right (by omega))) ml_X5_33 ⟨by decide, by decide⟩ ⟨Nat.le_refl _, Nat.le_refl _⟩ hl (Nat.le_of_ble_eq_true rfl) rfl dX5_isIrreducible_18 ?_
        have q18_0 := tp_rngE (x3) (by first | assumption | omega | exact pm_lt _ _ | exact rm_lt (by assumption))
        refine z_imul C dX5_isIrreducible_21 ?_
        refine lv_iload_n C.1 C.2.1 dX5_isIrreducible_22 rfl (lv_at hl 1 rfl) ?_
        refine z_icmp_gt (tgt := 45) C (by omega) (by omega) dX5_isIrreducible_23 (by decide) (fun h23 => ?_) (fun h23 => ?_)
        · refine z_iconst C dX5_isIrreducible_45 ?_
          exact z_zret C hr hk dX5_isIrreducible_46 (by decide) (congrArg (fun z : Int => Value.int (iZ z)) (by have h29b := mt he.mpr (by omega); rw [show f = 0 by omega] at i16_2; exact zB_t i16_2.symm))
        · refine lv_lload_n C.1 C.2.1 dX5_isIrreducible_26 rfl (lv_at hl 0 rfl) ?_
          refine lv_lload_n C.1 C.2.1 dX5_isIrreducible_27 rfl (lv_at hl 2 rfl) ?_
          refine z_call C (c_X5_restOf l (n) (x3) (by first | assumption | omega | rfl | exact decide_eq_false (by omega) | exact decide_eq_true (by assumption) | exact decide_eq_true (by omega) | exact one_shl33 (by omega) | exact pm_lt _ _ | exact rm_lt (by first | assumption | exact pm_lt _ _) | exact Nat.lt_of_le_of_lt (Nat.shiftRight_le _ _) (by assumption) | exact Nat.lt_of_le_of_lt Nat.and_le_right (by omega)) (by first | assumption | omega | rfl | exact decide_eq_false (by omega) | exact decide_eq_true (by assumption) | exact decide_eq_true (by omega) | exact one_shl33 (by omega) | exact pm_lt _ _ | exact rm_lt (by first | assumption | exact pm_lt _ _) | exact Nat.lt_of_le_of_lt (Nat.shiftRight_le _ _) (by assumption) | exact Nat.lt_of_le_of_lt Nat.and_le_right (by omega)) (by first | assumption | omega | rfl | exact decide_eq_false (by omega) | exact decide_eq_true (by assumption) | exact decide_eq_true (by omega) | exact one_shl33 (by omega) | exact pm_lt _ _ | exact rm_lt (by first | assumption | exact pm_lt _ _) | exact Nat.lt_of_le_of_lt (Nat.shiftRight_le _ _) (by assumption) | exact Nat.lt_of_le_of_lt Nat.and_le_right (by omega))) ml_X5_46 ⟨by decide, by decide⟩ ⟨Nat.le_refl _, Nat.le_refl _⟩ hl (Nat.le_of_ble_eq_true rfl) rfl dX5_isIrreducible_28 ?_
          refine z_lconst (k0 := 0) C dX5_isIrreducible_31 rfl ?_
          refine z_lc_ne (tgt := 38) C (by exact rm_lt hn) (by omega) dX5_isIrreducible_32 dX5_isIrreducible_33 (by decide) (fun h32 => ?_) (fun h32 => ?_)
          · refine lv_lload_n C.1 C.2.1 dX5_isIrreducible_38 rfl (lv_at hl 2 rfl) ?_
            refine z_lconst (k0 := 1) C dX5_isIrreducible_39 rfl ?_
            refine z_ladd C dX5_isIrreducible_40 ?_
            refine lv_lstore_n (lv' := [(3, .long (lN ((x3) + (1)))), (0, .long (lN (n))), (2, .int (iZ (tp (n))))]) C.1 C.2.1 dX5_isIrreducible_41 rfl hl (by decide) rfl (fun ls hl => ?_)
            refine lv_goto (tgt := 16) C.1 C.2.1 dX5_isIrreducible_42 (by decide) ?_
            have h29b := he.mp h23
            obtain ⟨f, rfl⟩ : ∃ g, f = g + 1 := ⟨f - 1, by omega⟩
            rw [irF_f h32] at i16_2
            exact ih16 (f) _ _ (by omega) (by omega) (by omega) (by exact i16_2) (by exact i16_3) (lv_sub hl [1, 2, 0] rfl)
          · refine z_iconst C dX5_isIrreducible_36 ?_
            exact z_zret C hr hk dX5_isIrreducible_37 (by decide) (congrArg (fun z : Int => Value.int (iZ z)) (by have h29b := he.mp h23; obtain ⟨f, rfl⟩ : ∃ g, f = g + 1 := ⟨f - 1, by omega⟩; rw [irF_t h32] at i16_2; exact zB_f i16_2.symm))
    have hq := irE_rng (n := n) (by omega) (tp_rng hn).2
    exact L16 _ (irE n - 2) _ _ (by exact Nat.lt_succ_self _) (by omega) (by omega) (by rw [ir, if_neg (by omega)]) (by omega) (lv_sub hl [2, 1, 0] rfl)
  · refine z_iconst C dX5_isIrreducible_10 ?_
    exact z_zret C hr hk dX5_isIrreducible_11 (by decide) (congrArg (fun z : Int => Value.int (iZ z)) (by exact zB_f (by rw [ir, if_pos h7])))

set_option maxHeartbeats 4000000 in
set_option maxRecDepth 100000 in
theorem c_X5_rankOf (l : Launch) (n : Nat) (hn : n < 512) : zP l yX5_rankOf 4 124 [.long (lN (n))] (.int (iZ (rk n))) := by
  refine zP.intro (lo := 100) (nA := 1) (own := RX5) zs_X5_rankOf (by decide) rfl rfl (by decide +kernel) rfl (Nat.le_of_ble_eq_true rfl) ?_
  intro p e s m below meth c ls C hr hk hl
  have hl : lv_has ls 5 [(0, .long (lN (n)))] := hl
  have hnb : n < 18446744073709551616 := by omega
  have ht := tp_rng hnb
  have hge := tp_pow n
  refine lv_lload_n C.1 C.2.1 dX5_rankOf_0 rfl (lv_at hl 0 rfl) ?_
  refine z_call C (c_X5_isIrreducible l (n) (by first | assumption | omega | rfl | exact decide_eq_false (by omega) | exact decide_eq_true (by assumption) | exact decide_eq_true (by omega) | exact one_shl33 (by omega) | exact pm_lt _ _ | exact rm_lt (by first | assumption | exact pm_lt _ _) | exact Nat.lt_of_le_of_lt (Nat.shiftRight_le _ _) (by assumption) | exact Nat.lt_of_le_of_lt Nat.and_le_right (by omega))) ml_X5_49 ⟨by decide, by decide⟩ ⟨Nat.le_refl _, Nat.le_refl _⟩ hl (Nat.le_of_ble_eq_true rfl) rfl dX5_rankOf_1 ?_
  refine z_ifB_ne (tgt := 9) C dX5_rankOf_4 (by decide) (fun h4 => ?_) (fun h4 => ?_)
  · refine z_iconst C dX5_rankOf_9 ?_
    refine lv_istore_n (lv' := [(2, .int (iZ (0))), (0, .long (lN (n)))]) C.1 C.2.1 dX5_rankOf_10 rfl hl (by decide) rfl (fun ls hl => ?_)
    refine z_lconst (k0 := 1) C dX5_rankOf_11 rfl ?_
    refine lv_lload_n C.1 C.2.1 dX5_rankOf_12 rfl (lv_at hl 1 rfl) ?_
    refine z_call C (c_X5_degreeOf l (n) (by first | assumption | omega | rfl | exact decide_eq_false (by omega) | exact decide_eq_true (by assumption) | exact decide_eq_true (by omega) | exact one_shl33 (by omega) | exact pm_lt _ _ | exact rm_lt (by first | assumption | exact pm_lt _ _) | exact Nat.lt_of_le_of_lt (Nat.shiftRight_le _ _) (by assumption) | exact Nat.lt_of_le_of_lt Nat.and_le_right (by omega))) ml_X5_33 ⟨by decide, by decide⟩ ⟨Nat.le_refl _, Nat.le_refl _⟩ hl (Nat.le_of_ble_eq_true rfl) rfl dX5_rankOf_13 ?_
    have q13_0 := tp_rngE (n) (by first | assumption | omega | exact pm_lt _ _ | exact rm_lt (by assumption))
    refine z_lshl C ((tp (n)).toNat) (by have h9 := ir_tp (n := n) h4; omega) (by omega) dX5_rankOf_16 ?_
    refine lv_lstore_n (lv' := [(3, .long (lN ((1) <<< ((tp (n)).toNat)))), (2, .int (iZ (0))), (0, .long (lN (n)))]) C.1 C.2.1 dX5_rankOf_17 rfl hl (by decide) rfl (fun ls hl => ?_)
    have L18 : ∀ (j : Nat) (f : Nat) (x2 : Int) (x3 : Nat) (ls : Array Slot), f < j → (f = n - x3) → (x3 ≤ n) → (cbF f x3 x2 = cb (2 ^ (tp n).toNat) n) → (0 ≤ x2) → (x2 ≤ (x3 : Int)) → lv_has ls 5 [(0, .long (lN (n))), (2, .int (iZ (x2))), (3, .long (lN (x3)))] → W p l e { frames := 4, cells := 0, slots := 0, locals := 100 } s m ([.long (lN (n))] : List Value).toArray below meth c s.heap [] 0 0 (zQ below [.long (lN (n))] s (.int (iZ (rk n)))) (F0 m 18 ls []) := by
      intro j
      induction j with
      | zero => intro f x2 x3 ls hmu; exact absurd hmu (Nat.not_lt_zero _)
      | succ j ih18 =>
        intro f x2 x3 ls hmu i18_0 i18_1 i18_2 i18_3 i18_4 hl
        refine lv_lload_n C.1 C.2.1 dX5_rankOf_18 rfl (lv_at hl 2 rfl) ?_
        refine lv_lload_n C.1 C.2.1 dX5_rankOf_19 rfl (lv_at hl 0 rfl) ?_
        refine z_lc_ge (tgt := 41) C (by first | assumption | omega | rfl | exact decide_eq_false (by omega) | exact decide_eq_true (by assumption) | exact decide_eq_true (by omega) | exact one_shl33 (by omega) | exact pm_lt _ _ | exact rm_lt (by first | assumption | exact pm_lt _ _) | exact Nat.lt_of_le_of_lt (Nat.shiftRight_le _ _) (by assumption) | exact Nat.lt_of_le_of_lt Nat.and_le_right (by omega)) (by first | assumption | omega | rfl | exact decide_eq_false (by omega) | exact decide_eq_true (by assumption) | exact decide_eq_true (by omega) | exact one_shl33 (by omega) | exact pm_lt _ _ | exact rm_lt (by first | assumption | exact pm_lt _ _) | exact Nat.lt_of_le_of_lt (Nat.shiftRight_le _ _) (by assumption) | exact Nat.lt_of_le_of_lt Nat.and_le_right (by omega)) dX5_rankOf_20 dX5_rankOf_21 (by decide) (fun h20 => ?_) (fun h20 => ?_)
        · refine lv_iload_n C.1 C.2.1 dX5_rankOf_41 rfl (lv_at hl 1 rfl) ?_
          exact z_iret C hr hk dX5_rankOf_42 (congrArg (fun z : Int => Value.int (iZ z)) (by rw [show f = 0 by omega] at i18_2; rw [rk, if_pos h4]; exact i18_2))
        · refine lv_iload_n C.1 C.2.1 dX5_rankOf_24 rfl (lv_at hl 1 rfl) ?_
          refine lv_lload_n C.1 C.2.1 dX5_rankOf_25 rfl (lv_at hl 2 rfl) ?_
          refine z_call C (c_X5_isIrreducible l (x3) (by first | assumption | omega | rfl | exact decide_eq_false (by omega) | exact decide_eq_true (by assumption) | exact decide_eq_true (by omega) | exact one_shl33 (by omega) | exact pm_lt _ _ | exact rm_lt (by first | assumption | exact pm_lt _ _) | exact Nat.lt_of_le_of_lt (Nat.shiftRight_le _ _) (by assumption) | exact Nat.lt_of_le_of_lt Nat.and_le_right (by omega))) ml_X5_49 ⟨by decide, by decide⟩ ⟨Nat.le_refl _, Nat.le_refl _⟩ hl (Nat.le_of_ble_eq_true rfl) rfl dX5_rankOf_26 ?_
          refine z_call C (c_X5_one l (ir (x3)) ) ml_X5_29 ⟨by decide, by decide⟩ ⟨Nat.le_refl _, Nat.le_refl _⟩ hl (Nat.le_of_ble_eq_true rfl) rfl dX5_rankOf_29 ?_
          have q29_0 := zB_rng (ir (x3))
          refine z_iadd C dX5_rankOf_32 ?_
          refine lv_istore_n (lv' := [(2, .int (iZ ((x2) + (zB (ir (x3)))))), (0, .long (lN (n))), (3, .long (lN (x3)))]) C.1 C.2.1 dX5_rankOf_33 rfl hl (by decide) rfl (fun ls hl => ?_)
          refine lv_lload_n C.1 C.2.1 dX5_rankOf_34 rfl (lv_at hl 2 rfl) ?_
          refine z_lconst (k0 := 1) C dX5_rankOf_35 rfl ?_
          refine z_ladd C dX5_rankOf_36 ?_
          refine lv_lstore_n (lv' := [(3, .long (lN ((x3) + (1)))), (2, .int (iZ ((x2) + (zB (ir (x3)))))), (0, .long (lN (n)))]) C.1 C.2.1 dX5_rankOf_37 rfl hl (by decide) rfl (fun ls hl => ?_)
          refine lv_goto (tgt := 18) C.1 C.2.1 dX5_rankOf_38 (by decide) ?_
          obtain ⟨f, rfl⟩ : ∃ g, f = g + 1 := ⟨f - 1, by omega⟩
          rw [cbF] at i18_2
          exact ih18 (f) _ _ _ (by omega) (by omega) (by omega) (by exact i18_2) (by omega) (by omega) (lv_sub hl [2, 1, 0] rfl)
    have e1 : 1 <<< (tp n).toNat = 2 ^ (tp n).toNat := by rw [Nat.shiftLeft_eq, Nat.one_mul]
    have h9 := ir_tp (n := n) h4
    have h8 := hge (by omega)
    exact L18 _ (n - 2 ^ (tp n).toNat) _ _ _ (by exact Nat.lt_succ_self _) (by rw [e1]) (by rw [e1]; exact h8) (by rw [e1]; rfl) (by omega) (by exact Int.natCast_nonneg _) (lv_sub hl [2, 1, 0] rfl)
  · refine z_iconst C dX5_rankOf_7 ?_
    exact z_iret C hr hk dX5_rankOf_8 (congrArg (fun z : Int => Value.int (iZ z)) (by rw [rk, h4]; rfl))

set_option maxHeartbeats 4000000 in
set_option maxRecDepth 100000 in
theorem c_X5_howMany (l : Launch) (d : Int) (hd : 1 ≤ d ∧ d ≤ 8) : zP l yX5_howMany 4 123 [.int (iZ (d))] (.int (iZ (cb (2 ^ d.toNat) (2 ^ (d.toNat + 1))))) := by
  refine zP.intro (lo := 100) (nA := 1) (own := RX5) zs_X5_howMany (by decide) rfl rfl (by decide +kernel) rfl (Nat.le_of_ble_eq_true rfl) ?_
  intro p e s m below meth c ls C hr hk hl
  have hl : lv_has ls 4 [(0, .int (iZ (d)))] := hl
  have hp := pow_8 (d := d.toNat) (by omega)
  have hps := pow_s d.toNat
  have e1 : 1 <<< d.toNat = 2 ^ d.toNat := by rw [Nat.shiftLeft_eq, Nat.one_mul]
  have e2 : 2 <<< d.toNat = 2 ^ (d.toNat + 1) := by rw [Nat.shiftLeft_eq]; omega
  refine z_iconst C dX5_howMany_0 ?_
  refine lv_istore_n (lv' := [(1, .int (iZ (0))), (0, .int (iZ (d)))]) C.1 C.2.1 dX5_howMany_1 rfl hl (by decide) rfl (fun ls hl => ?_)
  refine z_lconst (k0 := 1) C dX5_howMany_2 rfl ?_
  refine lv_iload_n C.1 C.2.1 dX5_howMany_3 rfl (lv_at hl 1 rfl) ?_
  refine z_lshl C ((d).toNat) (by omega) (by omega) dX5_howMany_4 ?_
  refine lv_lstore_n (lv' := [(2, .long (lN ((1) <<< ((d).toNat)))), (1, .int (iZ (0))), (0, .int (iZ (d)))]) C.1 C.2.1 dX5_howMany_5 rfl hl (by decide) rfl (fun ls hl => ?_)
  have L6 : ∀ (j : Nat) (f : Nat) (x1 : Int) (x2 : Nat) (ls : Array Slot), f < j → (f = 2 ^ (d.toNat + 1) - x2) → (x2 ≤ 512) → (cbF f x2 x1 = cb (2 ^ d.toNat) (2 ^ (d.toNat + 1))) → (0 ≤ x1) → (x1 ≤ (x2 : Int)) → lv_has ls 4 [(0, .int (iZ (d))), (1, .int (iZ (x1))), (2, .long (lN (x2)))] → W p l e { frames := 4, cells := 0, slots := 0, locals := 100 } s m ([.int (iZ (d))] : List Value).toArray below meth c s.heap [] 0 0 (zQ below [.int (iZ (d))] s (.int (iZ (cb (2 ^ d.toNat) (2 ^ (d.toNat + 1)))))) (F0 m 6 ls []) := by
    intro j
    induction j with
    | zero => intro f x1 x2 ls hmu; exact absurd hmu (Nat.not_lt_zero _)
    | succ j ih6 =>
      intro f x1 x2 ls hmu i6_0 i6_1 i6_2 i6_3 i6_4 hl
      refine lv_lload_n C.1 C.2.1 dX5_howMany_6 rfl (lv_at hl 2 rfl) ?_
      refine z_ldc2 C 2 (T0_of kl_X5_44 rfl) (by decide) dX5_howMany_7 ?_
      refine lv_iload_n C.1 C.2.1 dX5_howMany_10 rfl (lv_at hl 0 rfl) ?_
      refine z_lshl C ((d).toNat) (by omega) (by omega) dX5_howMany_11 ?_
      refine z_lc_ge (tgt := 33) C (by omega) (by rw [e2]; omega) dX5_howMany_12 dX5_howMany_13 (by decide) (fun h12 => ?_) (fun h12 => ?_)
      · refine lv_iload_n C.1 C.2.1 dX5_howMany_33 rfl (lv_at hl 1 rfl) ?_
        exact z_iret C hr hk dX5_howMany_34 (congrArg (fun z : Int => Value.int (iZ z)) (by have h12b : 2 ^ (d.toNat + 1) ≤ x2 := (by rw [← e2]; exact h12); rw [show f = 0 by omega] at i6_2; exact i6_2))
      · refine lv_iload_n C.1 C.2.1 dX5_howMany_16 rfl (lv_at hl 1 rfl) ?_
        refine lv_lload_n C.1 C.2.1 dX5_howMany_17 rfl (lv_at hl 2 rfl) ?_
        refine z_call C (c_X5_isIrreducible l (x2) (by first | assumption | omega | rfl | exact decide_eq_false (by omega) | exact decide_eq_true (by assumption) | exact decide_eq_true (by omega) | exact one_shl33 (by omega) | exact pm_lt _ _ | exact rm_lt (by first | assumption | exact pm_lt _ _) | exact Nat.lt_of_le_of_lt (Nat.shiftRight_le _ _) (by assumption) | exact Nat.lt_of_le_of_lt Nat.and_le_right (by omega))) ml_X5_49 ⟨by decide, by decide⟩ ⟨Nat.le_refl _, Nat.le_refl _⟩ hl (Nat.le_of_ble_eq_true rfl) rfl dX5_howMany_18 ?_
        refine z_call C (c_X5_one l (ir (x2)) ) ml_X5_29 ⟨by decide, by decide⟩ ⟨Nat.le_refl _, Nat.le_refl _⟩ hl (Nat.le_of_ble_eq_true rfl) rfl dX5_howMany_21 ?_
        have q21_0 := zB_rng (ir (x2))
        refine z_iadd C dX5_howMany_24 ?_
        refine lv_istore_n (lv' := [(1, .int (iZ ((x1) + (zB (ir (x2)))))), (0, .int (iZ (d))), (2, .long (lN (x2)))]) C.1 C.2.1 dX5_howMany_25 rfl hl (by decide) rfl (fun ls hl => ?_)
        refine lv_lload_n C.1 C.2.1 dX5_howMany_26 rfl (lv_at hl 2 rfl) ?_
        refine z_lconst (k0 := 1) C dX5_howMany_27 rfl ?_
        refine z_ladd C dX5_howMany_28 ?_
        refine lv_lstore_n (lv' := [(2, .long (lN ((x2) + (1)))), (1, .int (iZ ((x1) + (zB (ir (x2)))))), (0, .int (iZ (d)))]) C.1 C.2.1 dX5_howMany_29 rfl hl (by decide) rfl (fun ls hl => ?_)
        refine lv_goto (tgt := 6) C.1 C.2.1 dX5_howMany_30 (by decide) ?_
        obtain ⟨f, rfl⟩ : ∃ g, f = g + 1 := ⟨f - 1, by have h12b : x2 < 2 ^ (d.toNat + 1) := (by rw [← e2]; exact h12); omega⟩
        rw [cbF] at i6_2
        exact ih6 (f) _ _ _ (by omega) (by omega) (by omega) (by exact i6_2) (by omega) (by omega) (lv_sub hl [2, 1, 0] rfl)
  exact L6 _ (2 ^ (d.toNat + 1) - 2 ^ d.toNat) _ _ _ (by exact Nat.lt_succ_self _) (by rw [e1]) (by rw [e1]; omega) (by rw [e1]; rfl) (by omega) (by omega) (lv_sub hl [2, 1, 0] rfl)
