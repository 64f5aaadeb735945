set_option maxHeartbeats 4000000 in
set_option maxRecDepth 100000 in
theorem c_X0_isOne (l : Launch) (n : Nat) (hn : n < 18446744073709551616) : zP l yX0_isOne 4 124 [.long (lN (n))] (.int (iZ (zB (ir n)))) := by
  refine zP.intro (lo := 98) (nA := 1) (own := RX0) zs_X0_isOne (by decide) rfl rfl (by decide +kernel) rfl (Nat.le_of_ble_eq_true rfl) ?_
  intro p e s m below meth c ls C hr hk hl
  have hl : lv_has ls 7 [(0, .long (lN (n)))] := hl
  refine lv_lload_n C.1 C.2.1 dX0_isOne_0 rfl (lv_at hl 0 rfl) ?_
  refine z_call C (c_X1_topPlace l (n) (by first | assumption | omega | rfl | exact decide_eq_false (by omega) | exact decide_eq_true (by assumption) | exact decide_eq_true (by omega) | exact one_shl33 (by omega) | exact pm_lt _ _ | exact rm_lt (by first | assumption | exact pm_lt _ _) | exact Nat.lt_of_le_of_lt (Nat.shiftRight_le _ _) (by assumption) | exact Nat.lt_of_le_of_lt Nat.and_le_right (by omega))) ml_X0_9 ⟨by decide, by decide⟩ ⟨Nat.le_refl _, Nat.le_refl _⟩ hl (Nat.le_of_ble_eq_true rfl) rfl dX0_isOne_1 ?_
  have q1_0 := tp_rngE (n) (by first | assumption | omega)
  refine lv_istore_n (lv' := [(2, .int (iZ (tp (n)))), (0, .long (lN (n)))]) C.1 C.2.1 dX0_isOne_4 rfl hl (by decide) rfl (fun ls hl => ?_)
  refine lv_iload_n C.1 C.2.1 dX0_isOne_5 rfl (lv_at hl 0 rfl) ?_
  refine z_iconst C dX0_isOne_6 ?_
  refine z_icmp_ge (tgt := 12) C (by omega) (by omega) dX0_isOne_7 (by decide) (fun h7 => ?_) (fun h7 => ?_)
  · refine lv_iload_n C.1 C.2.1 dX0_isOne_12 rfl (lv_at hl 0 rfl) ?_
    refine z_iconst C dX0_isOne_13 ?_
    refine z_idiv C (by omega) (by omega) dX0_isOne_14 ?_
    refine z_iconst C dX0_isOne_15 ?_
    refine z_iadd C dX0_isOne_16 ?_
    refine z_call C (c_X1_single l (((tp (n)) / (2)) + (1)) (by first | assumption | omega | rfl | exact decide_eq_false (by omega) | exact decide_eq_true (by assumption) | exact decide_eq_true (by omega) | exact one_shl33 (by omega) | exact pm_lt _ _ | exact rm_lt (by first | assumption | exact pm_lt _ _) | exact Nat.lt_of_le_of_lt (Nat.shiftRight_le _ _) (by assumption) | exact Nat.lt_of_le_of_lt Nat.and_le_right (by omega))) ml_X0_15 ⟨by decide, by decide⟩ ⟨Nat.le_refl _, Nat.le_refl _⟩ hl (Nat.le_of_ble_eq_true rfl) rfl dX0_isOne_17 ?_
    refine lv_lstore_n (lv' := [(3, .long (lN (1 <<< (((tp (n)) / (2)) + (1)).toNat))), (2, .int (iZ (tp (n)))), (0, .long (lN (n)))]) C.1 C.2.1 dX0_isOne_20 rfl hl (by decide) rfl (fun ls hl => ?_)
    refine z_ldc2 C 2 (T0_of kl_X0_19 rfl) (by decide) dX0_isOne_21 ?_
    refine lv_lstore (lv' := [(5, .long (lN (2))), (3, .long (lN (1 <<< (((tp (n)) / (2)) + (1)).toNat))), (2, .int (iZ (tp (n)))), (0, .long (lN (n)))]) C.1 C.2.1 dX0_isOne_24 hl (by decide) rfl (fun ls hl => ?_)
    have L26 : ∀ (j : Nat) (f : Nat) (x5 : Nat) (ls : Array Slot), f < j → (f + x5 = irE n) → (2 ≤ x5) → (irF n f x5 = ir n) → (1 ≤ tp n) → lv_has ls 7 [(0, .long (lN (n))), (2, .int (iZ (tp (n)))), (3, .long (lN (1 <<< (((tp (n)) / (2)) + (1)).toNat))), (5, .long (lN (x5)))] → W p l e { frames := 4, cells := 0, slots := 0, locals := 98 } s m ([.long (lN (n))] : List Value).toArray below meth c s.heap [] 0 0 (zQ below [.long (lN (n))] s (.int (iZ (zB (ir n))))) (F0 m 26 ls []) := by
      intro j
      induction j with
      | zero => intro f x5 ls hmu; exact absurd hmu (Nat.not_lt_zero _)
      | succ j ih26 =>
        intro f x5 ls hmu i26_0 i26_1 i26_2 i26_3 hl
        have hq := irE_rng i26_3 (tp_rng hn).2
        refine lv_lload C.1 C.2.1 dX0_isOne_26 (lv_at hl 3 rfl) ?_
        refine lv_lload_n C.1 C.2.1 dX0_isOne_28 rfl (lv_at hl 2 rfl) ?_
        refine z_lc_ge (tgt := 53) C (by omega) (by show irE n < _; omega) dX0_isOne_29 dX0_isOne_30 (by decide) (fun h29 => ?_) (fun h29 => ?_)
        · refine z_iconst C dX0_isOne_53 ?_
          exact z_zret C hr hk dX0_isOne_54 (by decide) (congrArg (fun z : Int => Value.int (iZ z)) (by rw [show f = 0 by have h29b : irE n ≤ x5 := h29; omega] at i26_2; exact zB_t i26_2.symm))
        · refine lv_lload C.1 C.2.1 dX0_isOne_33 (lv_at hl 3 rfl) ?_
          refine lv_lload_n C.1 C.2.1 dX0_isOne_35 rfl (lv_at hl 0 rfl) ?_
          refine z_call C (c_X1_isDivisor l (x5) (n) (by first | assumption | omega | rfl | exact decide_eq_false (by omega) | exact decide_eq_true (by assumption) | exact decide_eq_true (by omega) | exact one_shl33 (by omega) | exact pm_lt _ _ | exact rm_lt (by first | assumption | exact pm_lt _ _) | exact Nat.lt_of_le_of_lt (Nat.shiftRight_le _ _) (by assumption) | exact Nat.lt_of_le_of_lt Nat.and_le_right (by omega)) (by first | assumption | omega | rfl | exact decide_eq_false (by omega) | exact decide_eq_true (by assumption) | exact decide_eq_true (by omega) | exact one_shl33 (by omega) | exact pm_lt _ _ | exact rm_lt (by first | assumption | exact pm_lt _ _) | exact Nat.lt_of_le_of_lt (Nat.shiftRight_le _ _) (by assumption) | exact Nat.lt_of_le_of_lt Nat.and_le_right (by omega))) ml_X0_21 ⟨by decide, by decide⟩ ⟨Nat.le_refl _, Nat.le_refl _⟩ hl (Nat.le_of_ble_eq_true rfl) rfl dX0_isOne_36 ?_
          refine z_ifB_eq (tgt := 44) C dX0_isOne_39 (by decide) (fun h39 => ?_) (fun h39 => ?_)
          · refine lv_lload C.1 C.2.1 dX0_isOne_44 (lv_at hl 3 rfl) ?_
            refine z_lconst (k0 := 1) C dX0_isOne_46 rfl ?_
            refine z_ladd C dX0_isOne_47 ?_
            refine lv_lstore (lv' := [(5, .long (lN ((x5) + (1)))), (0, .long (lN (n))), (2, .int (iZ (tp (n)))), (3, .long (lN (1 <<< (((tp (n)) / (2)) + (1)).toNat)))]) C.1 C.2.1 dX0_isOne_48 hl (by decide) rfl (fun ls hl => ?_)
            refine lv_goto (tgt := 26) C.1 C.2.1 dX0_isOne_50 (by decide) ?_
            have h29b : x5 < irE n := h29; obtain ⟨f, rfl⟩ : ∃ g, f = g + 1 := ⟨f - 1, by omega⟩
            rw [irF_f (of_decide_eq_false h39)] at i26_2
            exact ih26 (f) _ _ (by omega) (by omega) (by omega) (by exact i26_2) (by exact i26_3) (lv_sub hl [1, 2, 3, 0] rfl)
          · refine z_iconst C dX0_isOne_42 ?_
            exact z_zret C hr hk dX0_isOne_43 (by decide) (congrArg (fun z : Int => Value.int (iZ z)) (by obtain ⟨f, rfl⟩ : ∃ g, f = g + 1 := ⟨f - 1, by have h29b : x5 < irE n := h29; omega⟩; rw [irF_t (of_decide_eq_true h39)] at i26_2; exact zB_f i26_2.symm))
    have hq := irE_rng (n := n) (by omega) (tp_rng hn).2
    exact L26 _ (irE n - 2) _ _ (by exact Nat.lt_succ_self _) (by omega) (by omega) (by rw [ir, if_neg (by omega)]) (by omega) (lv_sub hl [3, 2, 1, 0] rfl)
  · refine z_iconst C dX0_isOne_10 ?_
    exact z_zret C hr hk dX0_isOne_11 (by decide) (congrArg (fun z : Int => Value.int (iZ z)) (by exact zB_f (by rw [ir, if_pos h7])))

set_option maxHeartbeats 4000000 in
set_option maxRecDepth 100000 in
theorem c_X0_countBelow (l : Launch) (d : Int) (n : Nat) (hd : 0 ≤ d ∧ d ≤ 8) (hn : n ≤ 512) : zP l yX0_countBelow 5 149 [.int (iZ (d)), .long (lN (n))] (.int (iZ (cb (2 ^ d.toNat) n))) := by
  refine zP.intro (lo := 124) (nA := 2) (own := RX0) zs_X0_countBelow (by decide) rfl rfl (by decide +kernel) rfl (Nat.le_of_ble_eq_true rfl) ?_
  intro p e s m below meth c ls C hr hk hl
  have hl : lv_has ls 6 [(0, .int (iZ (d))), (1, .long (lN (n)))] := hl
  have hp := pow_8 (d := d.toNat) (by omega)
  have e1 : 1 <<< d.toNat = 2 ^ d.toNat := by rw [Nat.shiftLeft_eq, Nat.one_mul]
  refine z_iconst C dX0_countBelow_0 ?_
  refine lv_istore_n (lv' := [(3, .int (iZ (0))), (0, .int (iZ (d))), (1, .long (lN (n)))]) C.1 C.2.1 dX0_countBelow_1 rfl hl (by decide) rfl (fun ls hl => ?_)
  refine lv_iload_n C.1 C.2.1 dX0_countBelow_2 rfl (lv_at hl 1 rfl) ?_
  refine z_call C (c_X1_single l (d) (by first | assumption | omega | rfl | exact decide_eq_false (by omega) | exact decide_eq_true (by assumption) | exact decide_eq_true (by omega) | exact one_shl33 (by omega) | exact pm_lt _ _ | exact rm_lt (by first | assumption | exact pm_lt _ _) | exact Nat.lt_of_le_of_lt (Nat.shiftRight_le _ _) (by assumption) | exact Nat.lt_of_le_of_lt Nat.and_le_right (by omega))) ml_X0_15 ⟨by decide, by decide⟩ ⟨Nat.le_refl _, Nat.le_refl _⟩ hl (Nat.le_of_ble_eq_true rfl) rfl dX0_countBelow_3 ?_
  refine lv_lstore (lv' := [(4, .long (lN (1 <<< (d).toNat))), (3, .int (iZ (0))), (0, .int (iZ (d))), (1, .long (lN (n)))]) C.1 C.2.1 dX0_countBelow_6 hl (by decide) rfl (fun ls hl => ?_)
  have L8 : ∀ (j : Nat) (f : Nat) (x3 : Int) (x4 : Nat) (ls : Array Slot), f < j → (f = n - x4) → (x4 ≤ 512) → (cbF f x4 x3 = cb (2 ^ d.toNat) n) → (0 ≤ x3) → (x3 ≤ (x4 : Int)) → lv_has ls 6 [(0, .int (iZ (d))), (1, .long (lN (n))), (3, .int (iZ (x3))), (4, .long (lN (x4)))] → W p l e { frames := 5, cells := 0, slots := 0, locals := 124 } s m ([.int (iZ (d)), .long (lN (n))] : List Value).toArray below meth c s.heap [] 0 0 (zQ below [.int (iZ (d)), .long (lN (n))] s (.int (iZ (cb (2 ^ d.toNat) n)))) (F0 m 8 ls []) := by
    intro j
    induction j with
    | zero => intro f x3 x4 ls hmu; exact absurd hmu (Nat.not_lt_zero _)
    | succ j ih8 =>
      intro f x3 x4 ls hmu i8_0 i8_1 i8_2 i8_3 i8_4 hl
      refine lv_lload C.1 C.2.1 dX0_countBelow_8 (lv_at hl 3 rfl) ?_
      refine lv_lload_n C.1 C.2.1 dX0_countBelow_10 rfl (lv_at hl 1 rfl) ?_
      refine z_lc_ge (tgt := 35) C (by first | assumption | omega | rfl | exact decide_eq_false (by omega) | exact decide_eq_true (by assumption) | exact decide_eq_true (by omega) | exact one_shl33 (by omega) | exact pm_lt _ _ | exact rm_lt (by first | assumption | exact pm_lt _ _) | exact Nat.lt_of_le_of_lt (Nat.shiftRight_le _ _) (by assumption) | exact Nat.lt_of_le_of_lt Nat.and_le_right (by omega)) (by first | assumption | omega | rfl | exact decide_eq_false (by omega) | exact decide_eq_true (by assumption) | exact decide_eq_true (by omega) | exact one_shl33 (by omega) | exact pm_lt _ _ | exact rm_lt (by first | assumption | exact pm_lt _ _) | exact Nat.lt_of_le_of_lt (Nat.shiftRight_le _ _) (by assumption) | exact Nat.lt_of_le_of_lt Nat.and_le_right (by omega)) dX0_countBelow_11 dX0_countBelow_12 (by decide) (fun h11 => ?_) (fun h11 => ?_)
      · refine lv_iload_n C.1 C.2.1 dX0_countBelow_35 rfl (lv_at hl 2 rfl) ?_
        exact z_iret C hr hk dX0_countBelow_36 (congrArg (fun z : Int => Value.int (iZ z)) (by rw [show f = 0 by omega] at i8_2; exact i8_2))
      · refine lv_lload C.1 C.2.1 dX0_countBelow_15 (lv_at hl 3 rfl) ?_
        refine z_call C (c_X0_isOne l (x4) (by first | assumption | omega | rfl | exact decide_eq_false (by omega) | exact decide_eq_true (by assumption) | exact decide_eq_true (by omega) | exact one_shl33 (by omega) | exact pm_lt _ _ | exact rm_lt (by first | assumption | exact pm_lt _ _) | exact Nat.lt_of_le_of_lt (Nat.shiftRight_le _ _) (by assumption) | exact Nat.lt_of_le_of_lt Nat.and_le_right (by omega))) ml_X0_25 ⟨by decide, by decide⟩ ⟨Nat.le_refl _, Nat.le_refl _⟩ hl (Nat.le_of_ble_eq_true rfl) rfl dX0_countBelow_17 ?_
        refine z_ifB_eq (tgt := 26) C dX0_countBelow_20 (by decide) (fun h20 => ?_) (fun h20 => ?_)
        · refine lv_lload C.1 C.2.1 dX0_countBelow_26 (lv_at hl 3 rfl) ?_
          refine z_lconst (k0 := 1) C dX0_countBelow_28 rfl ?_
          refine z_ladd C dX0_countBelow_29 ?_
          refine lv_lstore (lv' := [(4, .long (lN ((x4) + (1)))), (0, .int (iZ (d))), (1, .long (lN (n))), (3, .int (iZ (x3)))]) C.1 C.2.1 dX0_countBelow_30 hl (by decide) rfl (fun ls hl => ?_)
          refine lv_goto (tgt := 8) C.1 C.2.1 dX0_countBelow_32 (by decide) ?_
          obtain ⟨f, rfl⟩ : ∃ g, f = g + 1 := ⟨f - 1, by omega⟩
          rw [cbF, h20] at i8_2
          exact ih8 (f) _ _ _ (by omega) (by omega) (by omega) (by rw [← i8_2]; congr 1; rw [show zB false = 0 from rfl]; omega) (by omega) (by omega) (lv_sub hl [1, 2, 3, 0] rfl)
        · refine z_iinc (j := 2) (lv' := [(3, .int (iZ (x3 + 1))), (0, .int (iZ (d))), (1, .long (lN (n))), (4, .long (lN (x4)))]) C dX0_countBelow_23 hl rfl (by decide) rfl (fun ls hl => ?_)
          refine lv_lload C.1 C.2.1 dX0_countBelow_26 (lv_at hl 3 rfl) ?_
          refine z_lconst (k0 := 1) C dX0_countBelow_28 rfl ?_
          refine z_ladd C dX0_countBelow_29 ?_
          refine lv_lstore (lv' := [(4, .long (lN ((x4) + (1)))), (3, .int (iZ (x3 + 1))), (0, .int (iZ (d))), (1, .long (lN (n)))]) C.1 C.2.1 dX0_countBelow_30 hl (by decide) rfl (fun ls hl => ?_)
          refine lv_goto (tgt := 8) C.1 C.2.1 dX0_countBelow_32 (by decide) ?_
          obtain ⟨f, rfl⟩ : ∃ g, f = g + 1 := ⟨f - 1, by omega⟩
          rw [cbF, h20] at i8_2
          exact ih8 (f) _ _ _ (by omega) (by omega) (by omega) (by exact i8_2) (by omega) (by omega) (lv_sub hl [2, 3, 1, 0] rfl)
  exact L8 _ (n - 2 ^ d.toNat) _ _ _ (by exact Nat.lt_succ_self _) (by rw [e1]) (by omega) (by rw [e1]; rfl) (by omega) (by omega) (lv_sub hl [2, 3, 1, 0] rfl)

set_option maxHeartbeats 4000000 in
set_option maxRecDepth 100000 in
theorem c_X0_withRank (l : Launch) (d : Int) (r : Int) (hd : 1 ≤ d ∧ d ≤ 8) (hr0 : 0 ≤ r ∧ r ≤ 40) : zP l yX0_withRank 5 148 [.int (iZ (d)), .int (iZ (r))] (.long (lN (wr d.toNat r))) := by
  refine zP.intro (lo := 124) (nA := 2) (own := RX0) zs_X0_withRank (by decide) rfl rfl (by decide +kernel) rfl (Nat.le_of_ble_eq_true rfl) ?_
  intro p e s m below meth c ls C hr hk hl
  have hl : lv_has ls 5 [(0, .int (iZ (d))), (1, .int (iZ (r)))] := hl
  have hp := pow_8 (d := d.toNat) (by omega)
  have hps := pow_s d.toNat
  have e1 : 1 <<< d.toNat = 2 ^ d.toNat := by rw [Nat.shiftLeft_eq, Nat.one_mul]
  have e2 : 1 <<< (d + 1).toNat = 2 ^ (d.toNat + 1) := by rw [Nat.shiftLeft_eq, Nat.one_mul]; congr 1; omega
  refine z_iconst C dX0_withRank_0 ?_
  refine lv_istore_n (lv' := [(2, .int (iZ (0))), (0, .int (iZ (d))), (1, .int (iZ (r)))]) C.1 C.2.1 dX0_withRank_1 rfl hl (by decide) rfl (fun ls hl => ?_)
  refine lv_iload_n C.1 C.2.1 dX0_withRank_2 rfl (lv_at hl 1 rfl) ?_
  refine z_call C (c_X1_single l (d) (by first | assumption | omega | rfl | exact decide_eq_false (by omega) | exact decide_eq_true (by assumption) | exact decide_eq_true (by omega) | exact one_shl33 (by omega) | exact pm_lt _ _ | exact rm_lt (by first | assumption | exact pm_lt _ _) | exact Nat.lt_of_le_of_lt (Nat.shiftRight_le _ _) (by assumption) | exact Nat.lt_of_le_of_lt Nat.and_le_right (by omega))) ml_X0_15 ⟨by decide, by decide⟩ ⟨Nat.le_refl _, Nat.le_refl _⟩ hl (Nat.le_of_ble_eq_true rfl) rfl dX0_withRank_3 ?_
  refine lv_lstore_n (lv' := [(3, .long (lN (1 <<< (d).toNat))), (2, .int (iZ (0))), (0, .int (iZ (d))), (1, .int (iZ (r)))]) C.1 C.2.1 dX0_withRank_6 rfl hl (by decide) rfl (fun ls hl => ?_)
  have L7 : ∀ (j : Nat) (f : Nat) (x2 : Int) (x3 : Nat) (ls : Array Slot), f < j → (f = 2 ^ (d.toNat + 1) - x3) → (2 ^ d.toNat ≤ x3) → (x3 ≤ 2 ^ (d.toNat + 1)) → (wrF r f x3 x2 = wr d.toNat r) → (0 ≤ x2) → (x2 ≤ (x3 : Int)) → lv_has ls 5 [(0, .int (iZ (d))), (1, .int (iZ (r))), (2, .int (iZ (x2))), (3, .long (lN (x3)))] → W p l e { frames := 5, cells := 0, slots := 0, locals := 124 } s m ([.int (iZ (d)), .int (iZ (r))] : List Value).toArray below meth c s.heap [] 0 0 (zQ below [.int (iZ (d)), .int (iZ (r))] s (.long (lN (wr d.toNat r)))) (F0 m 7 ls []) := by
    intro j
    induction j with
    | zero => intro f x2 x3 ls hmu; exact absurd hmu (Nat.not_lt_zero _)
    | succ j ih7 =>
      intro f x2 x3 ls hmu i7_0 i7_1 i7_2 i7_3 i7_4 i7_5 hl
      refine lv_lload_n C.1 C.2.1 dX0_withRank_7 rfl (lv_at hl 3 rfl) ?_
      refine lv_iload_n C.1 C.2.1 dX0_withRank_8 rfl (lv_at hl 0 rfl) ?_
      refine z_iconst C dX0_withRank_9 ?_
      refine z_iadd C dX0_withRank_10 ?_
      refine z_call C (c_X1_single l ((d) + (1)) (by first | assumption | omega | rfl | exact decide_eq_false (by omega) | exact decide_eq_true (by assumption) | exact decide_eq_true (by omega) | exact one_shl33 (by omega) | exact pm_lt _ _ | exact rm_lt (by first | assumption | exact pm_lt _ _) | exact Nat.lt_of_le_of_lt (Nat.shiftRight_le _ _) (by assumption) | exact Nat.lt_of_le_of_lt Nat.and_le_right (by omega))) ml_X0_15 ⟨by decide, by decide⟩ ⟨Nat.le_refl _, Nat.le_refl _⟩ hl (Nat.le_of_ble_eq_true rfl) rfl dX0_withRank_11 ?_
      refine z_lc_ge (tgt := 42) C (by omega) (by show 1 <<< (d + 1).toNat < _; rw [e2]; omega) dX0_withRank_14 dX0_withRank_15 (by decide) (fun h14 => ?_) (fun h14 => ?_)
      · refine z_lconst (k0 := 0) C dX0_withRank_42 rfl ?_
        exact z_lret C hr hk dX0_withRank_43 (congrArg (fun z : Nat => Value.long (lN z)) (by have h14b : 2 ^ (d.toNat + 1) ≤ x3 := (by rw [← e2]; exact h14); rw [show f = 0 by omega] at i7_3; exact i7_3))
      · refine lv_lload_n C.1 C.2.1 dX0_withRank_18 rfl (lv_at hl 3 rfl) ?_
        refine z_call C (c_X0_isOne l (x3) (by first | assumption | omega | rfl | exact decide_eq_false (by omega) | exact decide_eq_true (by assumption) | exact decide_eq_true (by omega) | exact one_shl33 (by omega) | exact pm_lt _ _ | exact rm_lt (by first | assumption | exact pm_lt _ _) | exact Nat.lt_of_le_of_lt (Nat.shiftRight_le _ _) (by assumption) | exact Nat.lt_of_le_of_lt Nat.and_le_right (by omega))) ml_X0_25 ⟨by decide, by decide⟩ ⟨Nat.le_refl _, Nat.le_refl _⟩ hl (Nat.le_of_ble_eq_true rfl) rfl dX0_withRank_19 ?_
        refine z_ifB_eq (tgt := 35) C dX0_withRank_22 (by decide) (fun h22 => ?_) (fun h22 => ?_)
        · refine lv_lload_n C.1 C.2.1 dX0_withRank_35 rfl (lv_at hl 3 rfl) ?_
          refine z_lconst (k0 := 1) C dX0_withRank_36 rfl ?_
          refine z_ladd C dX0_withRank_37 ?_
          refine lv_lstore_n (lv' := [(3, .long (lN ((x3) + (1)))), (0, .int (iZ (d))), (1, .int (iZ (r))), (2, .int (iZ (x2)))]) C.1 C.2.1 dX0_withRank_38 rfl hl (by decide) rfl (fun ls hl => ?_)
          refine lv_goto (tgt := 7) C.1 C.2.1 dX0_withRank_39 (by decide) ?_
          obtain ⟨f, rfl⟩ : ∃ g, f = g + 1 := ⟨f - 1, by have h14b : x3 < 2 ^ (d.toNat + 1) := (by rw [← e2]; exact h14); omega⟩
          rw [wrF_n h22] at i7_3
          exact ih7 (f) _ _ _ (by omega) (by omega) (by omega) (by omega) (by exact i7_3) (by omega) (by omega) (lv_sub hl [1, 2, 3, 0] rfl)
        · refine lv_iload_n C.1 C.2.1 dX0_withRank_25 rfl (lv_at hl 2 rfl) ?_
          refine lv_iload_n C.1 C.2.1 dX0_withRank_26 rfl (lv_at hl 1 rfl) ?_
          refine z_icmp_ne (tgt := 32) C (by omega) (by omega) dX0_withRank_27 (by decide) (fun h27 => ?_) (fun h27 => ?_)
          · refine z_iinc (j := 2) (lv' := [(2, .int (iZ (x2 + 1))), (0, .int (iZ (d))), (1, .int (iZ (r))), (3, .long (lN (x3)))]) C dX0_withRank_32 hl rfl (by decide) rfl (fun ls hl => ?_)
            refine lv_lload_n C.1 C.2.1 dX0_withRank_35 rfl (lv_at hl 3 rfl) ?_
            refine z_lconst (k0 := 1) C dX0_withRank_36 rfl ?_
            refine z_ladd C dX0_withRank_37 ?_
            refine lv_lstore_n (lv' := [(3, .long (lN ((x3) + (1)))), (2, .int (iZ (x2 + 1))), (0, .int (iZ (d))), (1, .int (iZ (r)))]) C.1 C.2.1 dX0_withRank_38 rfl hl (by decide) rfl (fun ls hl => ?_)
            refine lv_goto (tgt := 7) C.1 C.2.1 dX0_withRank_39 (by decide) ?_
            obtain ⟨f, rfl⟩ : ∃ g, f = g + 1 := ⟨f - 1, by have h14b : x3 < 2 ^ (d.toNat + 1) := (by rw [← e2]; exact h14); omega⟩
            rw [wrF_s h22 h27] at i7_3
            exact ih7 (f) _ _ _ (by omega) (by omega) (by omega) (by omega) (by exact i7_3) (by omega) (by omega) (lv_sub hl [2, 3, 1, 0] rfl)
          · refine lv_lload_n C.1 C.2.1 dX0_withRank_30 rfl (lv_at hl 3 rfl) ?_
            exact z_lret C hr hk dX0_withRank_31 (congrArg (fun z : Nat => Value.long (lN z)) (by obtain ⟨f, rfl⟩ : ∃ g, f = g + 1 := ⟨f - 1, by have h14b : x3 < 2 ^ (d.toNat + 1) := (by rw [← e2]; exact h14); omega⟩; rw [wrF_e h22 h27] at i7_3; exact i7_3))
  exact L7 _ (2 ^ (d.toNat + 1) - 2 ^ d.toNat) _ _ _ (by exact Nat.lt_succ_self _) (by rw [e1]) (by omega) (by omega) (by rw [e1]; rfl) (by omega) (by omega) (lv_sub hl [2, 3, 1, 0] rfl)

set_option maxHeartbeats 4000000 in
set_option maxRecDepth 100000 in
theorem c_X0_timesAllOf (l : Launch) (x : Nat) (d : Int) (hx : x < 18446744073709551616) (hd : 1 ≤ d ∧ d ≤ 8) : zP l yX0_timesAllOf 5 150 [.long (lN (x)), .int (iZ (d))] (.long (lN (ta x d.toNat))) := by
  refine zP.intro (lo := 124) (nA := 2) (own := RX0) zs_X0_timesAllOf (by decide) rfl rfl (by decide +kernel) rfl (Nat.le_of_ble_eq_true rfl) ?_
  intro p e s m below meth c ls C hr hk hl
  have hl : lv_has ls 7 [(0, .long (lN (x))), (2, .int (iZ (d)))] := hl
  have hp := pow_8 (d := d.toNat) (by omega)
  have hps := pow_s d.toNat
  have e1 : 1 <<< d.toNat = 2 ^ d.toNat := by rw [Nat.shiftLeft_eq, Nat.one_mul]
  have e2 : 1 <<< (d + 1).toNat = 2 ^ (d.toNat + 1) := by rw [Nat.shiftLeft_eq, Nat.one_mul]; congr 1; omega
  refine lv_lload_n C.1 C.2.1 dX0_timesAllOf_0 rfl (lv_at hl 0 rfl) ?_
  refine lv_lstore_n (lv' := [(3, .long (lN (x))), (0, .long (lN (x))), (2, .int (iZ (d)))]) C.1 C.2.1 dX0_timesAllOf_1 rfl hl (by decide) rfl (fun ls hl => ?_)
  refine lv_iload_n C.1 C.2.1 dX0_timesAllOf_2 rfl (lv_at hl 2 rfl) ?_
  refine z_call C (c_X1_single l (d) (by first | assumption | omega | rfl | exact decide_eq_false (by omega) | exact decide_eq_true (by assumption) | exact decide_eq_true (by omega) | exact one_shl33 (by omega) | exact pm_lt _ _ | exact rm_lt (by first | assumption | exact pm_lt _ _) | exact Nat.lt_of_le_of_lt (Nat.shiftRight_le _ _) (by assumption) | exact Nat.lt_of_le_of_lt Nat.and_le_right (by omega))) ml_X0_15 ⟨by decide, by decide⟩ ⟨Nat.le_refl _, Nat.le_refl _⟩ hl (Nat.le_of_ble_eq_true rfl) rfl dX0_timesAllOf_3 ?_
  refine lv_lstore (lv' := [(5, .long (lN (1 <<< (d).toNat))), (3, .long (lN (x))), (0, .long (lN (x))), (2, .int (iZ (d)))]) C.1 C.2.1 dX0_timesAllOf_6 hl (by decide) rfl (fun ls hl => ?_)
  have L8 : ∀ (j : Nat) (f : Nat) (x3 : Nat) (x5 : Nat) (ls : Array Slot), f < j → (f = 2 ^ (d.toNat + 1) - x5) → (2 ^ d.toNat ≤ x5) → (x5 ≤ 2 ^ (d.toNat + 1)) → (taF f x5 x3 = ta x d.toNat) → (x3 < 18446744073709551616) → lv_has ls 7 [(0, .long (lN (x))), (2, .int (iZ (d))), (3, .long (lN (x3))), (5, .long (lN (x5)))] → W p l e { frames := 5, cells := 0, slots := 0, locals := 124 } s m ([.long (lN (x)), .int (iZ (d))] : List Value).toArray below meth c s.heap [] 0 0 (zQ below [.long (lN (x)), .int (iZ (d))] s (.long (lN (ta x d.toNat)))) (F0 m 8 ls []) := by
    intro j
    induction j with
    | zero => intro f x3 x5 ls hmu; exact absurd hmu (Nat.not_lt_zero _)
    | succ j ih8 =>
      intro f x3 x5 ls hmu i8_0 i8_1 i8_2 i8_3 i8_4 hl
      refine lv_lload C.1 C.2.1 dX0_timesAllOf_8 (lv_at hl 3 rfl) ?_
      refine lv_iload_n C.1 C.2.1 dX0_timesAllOf_10 rfl (lv_at hl 1 rfl) ?_
      refine z_iconst C dX0_timesAllOf_11 ?_
      refine z_iadd C dX0_timesAllOf_12 ?_
      refine z_call C (c_X1_single l ((d) + (1)) (by first | assumption | omega | rfl | exact decide_eq_false (by omega) | exact decide_eq_true (by assumption) | exact decide_eq_true (by omega) | exact one_shl33 (by omega) | exact pm_lt _ _ | exact rm_lt (by first | assumption | exact pm_lt _ _) | exact Nat.lt_of_le_of_lt (Nat.shiftRight_le _ _) (by assumption) | exact Nat.lt_of_le_of_lt Nat.and_le_right (by omega))) ml_X0_15 ⟨by decide, by decide⟩ ⟨Nat.le_refl _, Nat.le_refl _⟩ hl (Nat.le_of_ble_eq_true rfl) rfl dX0_timesAllOf_13 ?_
      refine z_lc_ge (tgt := 44) C (by omega) (by show 1 <<< (d + 1).toNat < _; rw [e2]; omega) dX0_timesAllOf_16 dX0_timesAllOf_17 (by decide) (fun h16 => ?_) (fun h16 => ?_)
      · refine lv_lload_n C.1 C.2.1 dX0_timesAllOf_44 rfl (lv_at hl 2 rfl) ?_
        exact z_lret C hr hk dX0_timesAllOf_45 (congrArg (fun z : Nat => Value.long (lN z)) (by have h16b : 2 ^ (d.toNat + 1) ≤ x5 := (by rw [← e2]; exact h16); rw [show f = 0 by omega] at i8_3; exact i8_3))
      · refine lv_lload C.1 C.2.1 dX0_timesAllOf_20 (lv_at hl 3 rfl) ?_
        refine z_call C (c_X0_isOne l (x5) (by first | assumption | omega | rfl | exact decide_eq_false (by omega) | exact decide_eq_true (by assumption) | exact decide_eq_true (by omega) | exact one_shl33 (by omega) | exact pm_lt _ _ | exact rm_lt (by first | assumption | exact pm_lt _ _) | exact Nat.lt_of_le_of_lt (Nat.shiftRight_le _ _) (by assumption) | exact Nat.lt_of_le_of_lt Nat.and_le_right (by omega))) ml_X0_25 ⟨by decide, by decide⟩ ⟨Nat.le_refl _, Nat.le_refl _⟩ hl (Nat.le_of_ble_eq_true rfl) rfl dX0_timesAllOf_22 ?_
        refine z_ifB_eq (tgt := 35) C dX0_timesAllOf_25 (by decide) (fun h25 => ?_) (fun h25 => ?_)
        · refine lv_lload C.1 C.2.1 dX0_timesAllOf_35 (lv_at hl 3 rfl) ?_
          refine z_lconst (k0 := 1) C dX0_timesAllOf_37 rfl ?_
          refine z_ladd C dX0_timesAllOf_38 ?_
          refine lv_lstore (lv' := [(5, .long (lN ((x5) + (1)))), (0, .long (lN (x))), (2, .int (iZ (d))), (3, .long (lN (x3)))]) C.1 C.2.1 dX0_timesAllOf_39 hl (by decide) rfl (fun ls hl => ?_)
          refine lv_goto (tgt := 8) C.1 C.2.1 dX0_timesAllOf_41 (by decide) ?_
          obtain ⟨f, rfl⟩ : ∃ g, f = g + 1 := ⟨f - 1, by have h16b : x5 < 2 ^ (d.toNat + 1) := (by rw [← e2]; exact h16); omega⟩
          rw [taF_f h25] at i8_3
          exact ih8 (f) _ _ _ (by omega) (by omega) (by omega) (by omega) (by exact i8_3) (by assumption) (lv_sub hl [1, 2, 3, 0] rfl)
        · refine lv_lload_n C.1 C.2.1 dX0_timesAllOf_28 rfl (lv_at hl 2 rfl) ?_
          refine lv_lload C.1 C.2.1 dX0_timesAllOf_29 (lv_at hl 3 rfl) ?_
          refine z_call C (c_X1_product l (x3) (x5) (by first | assumption | omega | rfl | exact decide_eq_false (by omega) | exact decide_eq_true (by assumption) | exact decide_eq_true (by omega) | exact one_shl33 (by omega) | exact pm_lt _ _ | exact rm_lt (by first | assumption | exact pm_lt _ _) | exact Nat.lt_of_le_of_lt (Nat.shiftRight_le _ _) (by assumption) | exact Nat.lt_of_le_of_lt Nat.and_le_right (by omega))) ml_X0_35 ⟨by decide, by decide⟩ ⟨Nat.le_refl _, Nat.le_refl _⟩ hl (Nat.le_of_ble_eq_true rfl) rfl dX0_timesAllOf_31 ?_
          refine lv_lstore_n (lv' := [(3, .long (lN (pm (x3) (x5)))), (0, .long (lN (x))), (2, .int (iZ (d))), (5, .long (lN (x5)))]) C.1 C.2.1 dX0_timesAllOf_34 rfl hl (by decide) rfl (fun ls hl => ?_)
          refine lv_lload C.1 C.2.1 dX0_timesAllOf_35 (lv_at hl 3 rfl) ?_
          refine z_lconst (k0 := 1) C dX0_timesAllOf_37 rfl ?_
          refine z_ladd C dX0_timesAllOf_38 ?_
          refine lv_lstore (lv' := [(5, .long (lN ((x5) + (1)))), (3, .long (lN (pm (x3) (x5)))), (0, .long (lN (x))), (2, .int (iZ (d)))]) C.1 C.2.1 dX0_timesAllOf_39 hl (by decide) rfl (fun ls hl => ?_)
          refine lv_goto (tgt := 8) C.1 C.2.1 dX0_timesAllOf_41 (by decide) ?_
          obtain ⟨f, rfl⟩ : ∃ g, f = g + 1 := ⟨f - 1, by have h16b : x5 < 2 ^ (d.toNat + 1) := (by rw [← e2]; exact h16); omega⟩
          rw [taF_t h25] at i8_3
          exact ih8 (f) _ _ _ (by omega) (by omega) (by omega) (by omega) (by exact i8_3) (by exact pm_lt _ _) (lv_sub hl [2, 3, 1, 0] rfl)
  exact L8 _ (2 ^ (d.toNat + 1) - 2 ^ d.toNat) _ _ _ (by exact Nat.lt_succ_self _) (by rw [e1]) (by omega) (by omega) (by rw [e1]; rfl) (by exact hx) (lv_sub hl [2, 3, 1, 0] rfl)

set_option maxHeartbeats 4000000 in
set_option maxRecDepth 100000 in
theorem c_X0_productForDivisors (l : Launch) (n : Int) (hn : 1 ≤ n ∧ n ≤ 5) : zP l yX0_productForDivisors 6 173 [.int (iZ (n))] (.long (lN (pd n))) := by
  refine zP.intro (lo := 150) (nA := 1) (own := RX0) zs_X0_productForDivisors (by decide) rfl rfl (by decide +kernel) rfl (Nat.le_of_ble_eq_true rfl) ?_
  intro p e s m below meth c ls C hr hk hl
  have hl : lv_has ls 4 [(0, .int (iZ (n)))] := hl
  refine z_lconst (k0 := 1) C dX0_productForDivisors_0 rfl ?_
  refine lv_lstore_n (lv' := [(1, .long (lN (1))), (0, .int (iZ (n)))]) C.1 C.2.1 dX0_productForDivisors_1 rfl hl (by decide) rfl (fun ls hl => ?_)
  refine z_iconst C dX0_productForDivisors_2 ?_
  refine lv_istore_n (lv' := [(3, .int (iZ (1))), (1, .long (lN (1))), (0, .int (iZ (n)))]) C.1 C.2.1 dX0_productForDivisors_3 rfl hl (by decide) rfl (fun ls hl => ?_)
  have L4 : ∀ (j : Nat) (f : Nat) (d : Nat) (x1 : Nat) (x3 : Int) (ls : Array Slot), f < j → (x3 = (d : Int)) → ((f : Int) + x3 = n + 1) → (1 ≤ d) → (x1 < 18446744073709551616) → (pdF n f d x1 = pd n) → lv_has ls 4 [(0, .int (iZ (n))), (1, .long (lN (x1))), (3, .int (iZ (x3)))] → W p l e { frames := 6, cells := 0, slots := 0, locals := 150 } s m ([.int (iZ (n))] : List Value).toArray below meth c s.heap [] 0 0 (zQ below [.int (iZ (n))] s (.long (lN (pd n)))) (F0 m 4 ls []) := by
    intro j
    induction j with
    | zero => intro f d x1 x3 ls hmu; exact absurd hmu (Nat.not_lt_zero _)
    | succ j ih4 =>
      intro f d x1 x3 ls hmu i4_0 i4_1 i4_2 i4_3 i4_4 hl
      refine lv_iload_n C.1 C.2.1 dX0_productForDivisors_4 rfl (lv_at hl 2 rfl) ?_
      refine lv_iload_n C.1 C.2.1 dX0_productForDivisors_5 rfl (lv_at hl 0 rfl) ?_
      refine z_icmp_gt (tgt := 27) C (by omega) (by omega) dX0_productForDivisors_6 (by decide) (fun h6 => ?_) (fun h6 => ?_)
      · refine lv_lload_n C.1 C.2.1 dX0_productForDivisors_27 rfl (lv_at hl 1 rfl) ?_
        exact z_lret C hr hk dX0_productForDivisors_28 (congrArg (fun z : Nat => Value.long (lN z)) (by rw [show f = 0 by omega] at i4_4; exact i4_4))
      · refine lv_iload_n C.1 C.2.1 dX0_productForDivisors_9 rfl (lv_at hl 0 rfl) ?_
        refine lv_iload_n C.1 C.2.1 dX0_productForDivisors_10 rfl (lv_at hl 2 rfl) ?_
        refine z_irem C (by omega) (by omega) dX0_productForDivisors_11 ?_
        refine z_if_ne (tgt := 21) C (by have := Int.emod_nonneg n (b := x3) (by omega); have := Int.emod_lt_of_pos n (b := x3) (by omega); omega) dX0_productForDivisors_12 (by decide) (fun h12 => ?_) (fun h12 => ?_)
        · refine z_iinc (j := 2) (lv' := [(3, .int (iZ (x3 + 1))), (0, .int (iZ (n))), (1, .long (lN (x1)))]) C dX0_productForDivisors_21 hl rfl (by decide) rfl (fun ls hl => ?_)
          refine lv_goto (tgt := 4) C.1 C.2.1 dX0_productForDivisors_24 (by decide) ?_
          obtain ⟨f, rfl⟩ : ∃ g, f = g + 1 := ⟨f - 1, by omega⟩
          rw [i4_0] at h12
          rw [pdF_f h12] at i4_4
          exact ih4 (f) (d + 1) _ _ _ (by omega) (by omega) (by omega) (by omega) (by assumption) (by exact i4_4) (lv_sub hl [1, 2, 0] rfl)
        · refine lv_lload_n C.1 C.2.1 dX0_productForDivisors_15 rfl (lv_at hl 1 rfl) ?_
          refine lv_iload_n C.1 C.2.1 dX0_productForDivisors_16 rfl (lv_at hl 2 rfl) ?_
          refine z_call C (c_X0_timesAllOf l (x1) (x3) (by first | assumption | omega | rfl | exact decide_eq_false (by omega) | exact decide_eq_true (by assumption) | exact decide_eq_true (by omega) | exact one_shl33 (by omega) | exact pm_lt _ _ | exact rm_lt (by first | assumption | exact pm_lt _ _) | exact Nat.lt_of_le_of_lt (Nat.shiftRight_le _ _) (by assumption) | exact Nat.lt_of_le_of_lt Nat.and_le_right (by omega)) (by first | assumption | omega | rfl | exact decide_eq_false (by omega) | exact decide_eq_true (by assumption) | exact decide_eq_true (by omega) | exact one_shl33 (by omega) | exact pm_lt _ _ | exact rm_lt (by first | assumption | exact pm_lt _ _) | exact Nat.lt_of_le_of_lt (Nat.shiftRight_le _ _) (by assumption) | exact Nat.lt_of_le_of_lt Nat.and_le_right (by omega))) ml_X0_31 ⟨by decide, by decide⟩ ⟨Nat.le_refl _, Nat.le_refl _⟩ hl (Nat.le_of_ble_eq_true rfl) rfl dX0_productForDivisors_17 ?_
          have q17_0 := ta_ltE (x1) (x3).toNat (by first | assumption | omega)
          refine lv_lstore_n (lv' := [(1, .long (lN (ta (x1) (x3).toNat))), (0, .int (iZ (n))), (3, .int (iZ (x3)))]) C.1 C.2.1 dX0_productForDivisors_20 rfl hl (by decide) rfl (fun ls hl => ?_)
          refine z_iinc (j := 2) (lv' := [(3, .int (iZ (x3 + 1))), (1, .long (lN (ta (x1) (x3).toNat))), (0, .int (iZ (n)))]) C dX0_productForDivisors_21 hl rfl (by decide) rfl (fun ls hl => ?_)
          refine lv_goto (tgt := 4) C.1 C.2.1 dX0_productForDivisors_24 (by decide) ?_
          obtain ⟨f, rfl⟩ : ∃ g, f = g + 1 := ⟨f - 1, by omega⟩
          rw [i4_0] at h12
          rw [pdF_t h12] at i4_4
          have ed : x3.toNat = d := by omega
          exact ih4 (f) (d + 1) _ _ _ (by omega) (by omega) (by omega) (by omega) (by exact q17_0) (by rw [ed]; exact i4_4) (lv_sub hl [2, 1, 0] rfl)
  exact L4 _ (n.toNat) (1) _ _ _ (by exact Nat.lt_succ_self _) (by rfl) (by omega) (by omega) (by omega) (by rfl) (lv_sub hl [2, 1, 0] rfl)

set_option maxHeartbeats 4000000 in
set_option maxRecDepth 100000 in
theorem c_X0_signOf (l : Launch) (d : Int) (hd : 1 ≤ d ∧ d ≤ 8) : zP l yX0_signOf 0 20 [.int (iZ (d))] (.int (iZ (sg d))) := by
  refine zP.intro (lo := 0) (nA := 1) (own := RX0) zs_X0_signOf (by decide) rfl rfl (by decide +kernel) rfl (Nat.le_of_ble_eq_true rfl) ?_
  intro p e s m below meth c ls C hr hk hl
  have hl : lv_has ls 1 [(0, .int (iZ (d)))] := hl
  refine lv_iload_n C.1 C.2.1 dX0_signOf_0 rfl (lv_at hl 0 rfl) ?_
  by_cases hs : (d) = 1
  · refine z_tableIn (off := 43) (tgt := 44) C dX0_signOf_1 (by omega) (by omega) (by omega) (by rw [hs]; rfl) (by decide) ?_
    refine z_iconst C dX0_signOf_44 ?_
    exact z_iret C hr hk dX0_signOf_45 (congrArg (fun z : Int => Value.int (iZ z)) (by rw [hs]; rfl))
  · skip
    by_cases hs : (d) = 2
    · refine z_tableIn (off := 45) (tgt := 46) C dX0_signOf_1 (by omega) (by omega) (by omega) (by rw [hs]; rfl) (by decide) ?_
      refine z_iconst C dX0_signOf_46 ?_
      exact z_iret C hr hk dX0_signOf_47 (congrArg (fun z : Int => Value.int (iZ z)) (by rw [hs]; rfl))
    · skip
      by_cases hs : (d) = 3
      · refine z_tableIn (off := 45) (tgt := 46) C dX0_signOf_1 (by omega) (by omega) (by omega) (by rw [hs]; rfl) (by decide) ?_
        refine z_iconst C dX0_signOf_46 ?_
        exact z_iret C hr hk dX0_signOf_47 (congrArg (fun z : Int => Value.int (iZ z)) (by rw [hs]; rfl))
      · skip
        by_cases hs : (d) = 4
        · refine z_tableIn (off := 47) (tgt := 48) C dX0_signOf_1 (by omega) (by omega) (by omega) (by rw [hs]; rfl) (by decide) ?_
          refine z_iconst C dX0_signOf_48 ?_
          exact z_iret C hr hk dX0_signOf_49 (congrArg (fun z : Int => Value.int (iZ z)) (by rw [hs]; rfl))
        · skip
          by_cases hs : (d) = 5
          · refine z_tableIn (off := 45) (tgt := 46) C dX0_signOf_1 (by omega) (by omega) (by omega) (by rw [hs]; rfl) (by decide) ?_
            refine z_iconst C dX0_signOf_46 ?_
            exact z_iret C hr hk dX0_signOf_47 (congrArg (fun z : Int => Value.int (iZ z)) (by rw [hs]; rfl))
          · skip
            by_cases hs : (d) = 6
            · refine z_tableIn (off := 43) (tgt := 44) C dX0_signOf_1 (by omega) (by omega) (by omega) (by rw [hs]; rfl) (by decide) ?_
              refine z_iconst C dX0_signOf_44 ?_
              exact z_iret C hr hk dX0_signOf_45 (congrArg (fun z : Int => Value.int (iZ z)) (by rw [hs]; rfl))
            · skip
              by_cases hs : (d) = 7
              · refine z_tableIn (off := 45) (tgt := 46) C dX0_signOf_1 (by omega) (by omega) (by omega) (by rw [hs]; rfl) (by decide) ?_
                refine z_iconst C dX0_signOf_46 ?_
                exact z_iret C hr hk dX0_signOf_47 (congrArg (fun z : Int => Value.int (iZ z)) (by rw [hs]; rfl))
              · skip
                refine z_tableOut (tgt := 48) C dX0_signOf_1 (by omega) (by omega) (by decide) ?_
                refine z_iconst C dX0_signOf_48 ?_
                exact z_iret C hr hk dX0_signOf_49 (congrArg (fun z : Int => Value.int (iZ z)) (by rw [show d = 8 by omega]; rfl))

set_option maxHeartbeats 4000000 in
set_option maxRecDepth 100000 in
theorem c_X0_formulaFor (l : Launch) (n : Int) (hn : 1 ≤ n ∧ n ≤ 8) : zP l yX0_formulaFor 1 42 [.int (iZ (n))] (.int (iZ (fo n))) := by
  refine zP.intro (lo := 20) (nA := 1) (own := RX0) zs_X0_formulaFor (by decide) rfl rfl (by decide +kernel) rfl (Nat.le_of_ble_eq_true rfl) ?_
  intro p e s m below meth c ls C hr hk hl
  have hl : lv_has ls 3 [(0, .int (iZ (n)))] := hl
  refine z_iconst C dX0_formulaFor_0 ?_
  refine lv_istore_n (lv' := [(1, .int (iZ (0))), (0, .int (iZ (n)))]) C.1 C.2.1 dX0_formulaFor_1 rfl hl (by decide) rfl (fun ls hl => ?_)
  refine z_iconst C dX0_formulaFor_2 ?_
  refine lv_istore_n (lv' := [(2, .int (iZ (1))), (1, .int (iZ (0))), (0, .int (iZ (n)))]) C.1 C.2.1 dX0_formulaFor_3 rfl hl (by decide) rfl (fun ls hl => ?_)
  have L4 : ∀ (j : Nat) (d : Nat) (x1 : Int) (x2 : Int) (ls : Array Slot), 9 - d < j → (x2 = (d : Int) + 1) → (x2 ≤ n + 1) → (x1 = foF n d) → lv_has ls 3 [(0, .int (iZ (n))), (1, .int (iZ (x1))), (2, .int (iZ (x2)))] → W p l e { frames := 1, cells := 0, slots := 0, locals := 20 } s m ([.int (iZ (n))] : List Value).toArray below meth c s.heap [] 0 0 (zQ below [.int (iZ (n))] s (.int (iZ (fo n)))) (F0 m 4 ls []) := by
    intro j
    induction j with
    | zero => intro d x1 x2 ls hmu; exact absurd hmu (Nat.not_lt_zero _)
    | succ j ih4 =>
      intro d x1 x2 ls hmu i4_0 i4_1 i4_2 hl
      refine lv_iload_n C.1 C.2.1 dX0_formulaFor_4 rfl (lv_at hl 2 rfl) ?_
      refine lv_iload_n C.1 C.2.1 dX0_formulaFor_5 rfl (lv_at hl 0 rfl) ?_
      refine z_icmp_gt (tgt := 34) C (by omega) (by omega) dX0_formulaFor_6 (by decide) (fun h6 => ?_) (fun h6 => ?_)
      · refine lv_iload_n C.1 C.2.1 dX0_formulaFor_34 rfl (lv_at hl 0 rfl) ?_
        refine z_if_le (tgt := 44) C (by omega) dX0_formulaFor_35 (by decide) (fun h35 => ?_) (fun h35 => ?_)
        · exact absurd h35 (by omega)
        · refine lv_iload_n C.1 C.2.1 dX0_formulaFor_38 rfl (lv_at hl 1 rfl) ?_
          refine lv_iload_n C.1 C.2.1 dX0_formulaFor_39 rfl (lv_at hl 0 rfl) ?_
          refine z_idiv C (by rw [i4_2, show d = n.toNat by omega]; exact (fo_rngE n hn).1) (by omega) dX0_formulaFor_40 ?_
          refine lv_goto (tgt := 45) C.1 C.2.1 dX0_formulaFor_41 (by decide) ?_
          exact z_iret C hr hk dX0_formulaFor_45 (congrArg (fun z : Int => Value.int (iZ z)) (by rw [i4_2, show d = n.toNat by omega]; rfl))
      · refine lv_iload_n C.1 C.2.1 dX0_formulaFor_9 rfl (lv_at hl 0 rfl) ?_
        refine lv_iload_n C.1 C.2.1 dX0_formulaFor_10 rfl (lv_at hl 2 rfl) ?_
        refine z_irem C (by omega) (by omega) dX0_formulaFor_11 ?_
        refine z_if_ne (tgt := 28) C (by have := Int.emod_nonneg n (b := x2) (by omega); have := Int.emod_lt_of_pos n (b := x2) (by omega); omega) dX0_formulaFor_12 (by decide) (fun h12 => ?_) (fun h12 => ?_)
        · refine z_iinc (j := 2) (lv' := [(2, .int (iZ (x2 + 1))), (0, .int (iZ (n))), (1, .int (iZ (x1)))]) C dX0_formulaFor_28 hl rfl (by decide) rfl (fun ls hl => ?_)
          refine lv_goto (tgt := 4) C.1 C.2.1 dX0_formulaFor_31 (by decide) ?_
          have e2 : x2 = ((d + 1 : Nat) : Int) := by omega
          rw [e2] at h12
          exact ih4 (d + 1) _ _ _ (by omega) (by omega) (by omega) (by rw [foF, if_neg h12]; exact i4_2) (lv_sub hl [1, 2, 0] rfl)
        · refine lv_iload_n C.1 C.2.1 dX0_formulaFor_15 rfl (lv_at hl 1 rfl) ?_
          refine lv_iload_n C.1 C.2.1 dX0_formulaFor_16 rfl (lv_at hl 2 rfl) ?_
          refine z_call C (c_X0_signOf l (x2) (by first | assumption | omega | rfl | exact decide_eq_false (by omega) | exact decide_eq_true (by assumption) | exact decide_eq_true (by omega) | exact one_shl33 (by omega) | exact pm_lt _ _ | exact rm_lt (by first | assumption | exact pm_lt _ _) | exact Nat.lt_of_le_of_lt (Nat.shiftRight_le _ _) (by assumption) | exact Nat.lt_of_le_of_lt Nat.and_le_right (by omega))) ml_X0_63 ⟨by decide, by decide⟩ ⟨Nat.le_refl _, Nat.le_refl _⟩ hl (Nat.le_of_ble_eq_true rfl) rfl dX0_formulaFor_17 ?_
          have q17_0 := sg_rngE (x2)
          refine z_iconst C dX0_formulaFor_20 ?_
          refine lv_iload_n C.1 C.2.1 dX0_formulaFor_21 rfl (lv_at hl 0 rfl) ?_
          refine lv_iload_n C.1 C.2.1 dX0_formulaFor_22 rfl (lv_at hl 2 rfl) ?_
          refine z_idiv C (by omega) (by omega) dX0_formulaFor_23 ?_
          refine z_ishl1 C (((n) / (x2)).toNat) (by have h9 : n / x2 ≤ n := Int.ediv_le_self _ (by omega); have h8 : 0 ≤ n / x2 := Int.ediv_nonneg (by omega) (by omega); omega) (by have h9 : n / x2 ≤ n := Int.ediv_le_self _ (by omega); have h8 : 0 ≤ n / x2 := Int.ediv_nonneg (by omega) (by omega); omega) dX0_formulaFor_24 ?_
          refine z_imul C dX0_formulaFor_25 ?_
          refine z_iadd C dX0_formulaFor_26 ?_
          refine lv_istore_n (lv' := [(1, .int (iZ ((x1) + ((sg (x2)) * (((1 <<< ((n) / (x2)).toNat : Nat) : Int)))))), (0, .int (iZ (n))), (2, .int (iZ (x2)))]) C.1 C.2.1 dX0_formulaFor_27 rfl hl (by decide) rfl (fun ls hl => ?_)
          refine z_iinc (j := 2) (lv' := [(2, .int (iZ (x2 + 1))), (1, .int (iZ ((x1) + ((sg (x2)) * (((1 <<< ((n) / (x2)).toNat : Nat) : Int)))))), (0, .int (iZ (n)))]) C dX0_formulaFor_28 hl rfl (by decide) rfl (fun ls hl => ?_)
          refine lv_goto (tgt := 4) C.1 C.2.1 dX0_formulaFor_31 (by decide) ?_
          have e2 : x2 = ((d + 1 : Nat) : Int) := by omega
          rw [e2] at h12
          exact ih4 (d + 1) _ _ _ (by omega) (by omega) (by omega) (by rw [foF, if_pos h12, i4_2, e2]) (lv_sub hl [2, 1, 0] rfl)
  exact L4 _ (0) _ _ _ (by exact Nat.lt_succ_self _) (by rfl) (by omega) (by rfl) (lv_sub hl [2, 1, 0] rfl)

set_option maxHeartbeats 4000000 in
set_option maxRecDepth 100000 in
theorem c_X0_periodOf (l : Launch) (m0 : Nat) (hm0 : m0 < 512) (hm1 : ¬ m0 = 0) : zP l yX0_periodOf 3 99 [.long (lN (m0))] (.int (iZ (pe m0))) := by
  refine zP.intro (lo := 75) (nA := 1) (own := RX0) zs_X0_periodOf (by decide) rfl rfl (by decide +kernel) rfl (Nat.le_of_ble_eq_true rfl) ?_
  intro p e s m below meth c ls C hr hk hl
  have hl : lv_has ls 5 [(0, .long (lN (m0)))] := hl
  have hb : m0 < 18446744073709551616 := by omega
  have ht := tp_rng hb
  have h9 : tp m0 ≤ 8 := (tp_le (k := 8)).mpr (by omega)
  refine z_lconst (k0 := 1) C dX0_periodOf_0 rfl ?_
  refine lv_lstore_n (lv' := [(2, .long (lN (1))), (0, .long (lN (m0)))]) C.1 C.2.1 dX0_periodOf_1 rfl hl (by decide) rfl (fun ls hl => ?_)
  refine z_iconst C dX0_periodOf_2 ?_
  refine lv_istore (lv' := [(4, .int (iZ (1))), (2, .long (lN (1))), (0, .long (lN (m0)))]) C.1 C.2.1 dX0_periodOf_3 hl (by decide) rfl (fun ls hl => ?_)
  have L5 : ∀ (j : Nat) (f : Nat) (x2 : Nat) (x4 : Int) (ls : Array Slot), f < j → (x4 + (f : Int) = 256) → (1 ≤ x4) → (x2 < 512) → (peF m0 f x4 x2 = pe m0) → lv_has ls 5 [(0, .long (lN (m0))), (2, .long (lN (x2))), (4, .int (iZ (x4)))] → W p l e { frames := 3, cells := 0, slots := 0, locals := 75 } s m ([.long (lN (m0))] : List Value).toArray below meth c s.heap [] 0 0 (zQ below [.long (lN (m0))] s (.int (iZ (pe m0)))) (F0 m 5 ls []) := by
    intro j
    induction j with
    | zero => intro f x2 x4 ls hmu; exact absurd hmu (Nat.not_lt_zero _)
    | succ j ih5 =>
      intro f x2 x4 ls hmu i5_0 i5_1 i5_2 i5_3 hl
      have hx2 : x2 <<< 1 < 18446744073709551616 := shl1_lt (by omega)
      have hr2 := rm_tp (a := x2 <<< 1) hx2 hb hm1
      have hr3 : rm (x2 <<< 1) m0 < 512 := (tp_lt (k := 9)).mp (by omega)
      refine lv_iload C.1 C.2.1 dX0_periodOf_5 (lv_at hl 2 rfl) ?_
      refine z_sipush C dX0_periodOf_7 (by decide) ?_
      refine z_icmp_gt (tgt := 36) C (by omega) (by omega) dX0_periodOf_10 (by decide) (fun h10 => ?_) (fun h10 => ?_)
      · refine z_iconst C dX0_periodOf_36 ?_
        exact z_iret C hr hk dX0_periodOf_37 (congrArg (fun z : Int => Value.int (iZ z)) (by rw [show f = 0 by omega] at i5_3; exact i5_3))
      · refine lv_lload_n C.1 C.2.1 dX0_periodOf_13 rfl (lv_at hl 1 rfl) ?_
        refine z_iconst C dX0_periodOf_14 ?_
        refine z_lshl C (1) (by omega) (by omega) dX0_periodOf_15 ?_
        refine lv_lload_n C.1 C.2.1 dX0_periodOf_16 rfl (lv_at hl 0 rfl) ?_
        refine z_call C (c_X1_restOf l ((x2) <<< (1)) (m0) (by exact hx2) (by exact hb)) ml_X0_60 ⟨by decide, by decide⟩ ⟨Nat.le_refl _, Nat.le_refl _⟩ hl (Nat.le_of_ble_eq_true rfl) rfl dX0_periodOf_17 ?_
        refine lv_lstore_n (lv' := [(2, .long (lN (rm ((x2) <<< (1)) (m0)))), (0, .long (lN (m0))), (4, .int (iZ (x4)))]) C.1 C.2.1 dX0_periodOf_20 rfl hl (by decide) rfl (fun ls hl => ?_)
        refine lv_lload_n C.1 C.2.1 dX0_periodOf_21 rfl (lv_at hl 0 rfl) ?_
        refine z_lconst (k0 := 1) C dX0_periodOf_22 rfl ?_
        refine z_lc_ne (tgt := 30) C (by have := hr3; show rm (x2 <<< 1) m0 < _; omega) (by omega) dX0_periodOf_23 dX0_periodOf_24 (by decide) (fun h23 => ?_) (fun h23 => ?_)
        · refine z_iinc (j := 2) (lv' := [(4, .int (iZ (x4 + 1))), (2, .long (lN (rm ((x2) <<< (1)) (m0)))), (0, .long (lN (m0)))]) C dX0_periodOf_30 hl rfl (by decide) rfl (fun ls hl => ?_)
          refine lv_goto (tgt := 5) C.1 C.2.1 dX0_periodOf_33 (by decide) ?_
          obtain ⟨f, rfl⟩ : ∃ g, f = g + 1 := ⟨f - 1, by omega⟩
          rw [peF_f h23] at i5_3
          exact ih5 (f) _ _ _ (by omega) (by omega) (by omega) (by exact hr3) (by exact i5_3) (lv_sub hl [2, 1, 0] rfl)
        · refine lv_iload C.1 C.2.1 dX0_periodOf_27 (lv_at hl 2 rfl) ?_
          exact z_iret C hr hk dX0_periodOf_29 (congrArg (fun z : Int => Value.int (iZ z)) (by obtain ⟨f, rfl⟩ : ∃ g, f = g + 1 := ⟨f - 1, by omega⟩; rw [peF_t h23] at i5_3; exact i5_3))
  exact L5 _ (255) _ _ _ (by exact Nat.lt_succ_self _) (by omega) (by omega) (by omega) (by rfl) (lv_sub hl [2, 1, 0] rfl)
