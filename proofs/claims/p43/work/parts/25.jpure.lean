section JB
set_option maxHeartbeats 4000000 in
set_option maxRecDepth 100000 in
theorem c_J8_newLength_cabcc (l : Launch) (a : Int) (b : Int) (g : Int) (ha : 0 ≤ a ∧ a ≤ 100000) (hb : 0 < b ∧ b ≤ 100000) (hg : 0 ≤ g ∧ g ≤ 100000) : zP l yJ8_newLength_cabcc 1 54 [.int (iZ (a)), .int (iZ (b)), .int (iZ (g))] (.int (iZ (a + mxi b g))) := by
  refine zP.intro (lo := 31) (nA := 3) (own := RJ8) zs_J8_newLength_cabcc (by decide) rfl rfl (by decide +kernel) rfl (Nat.le_of_ble_eq_true rfl) ?_
  intro p e s m below meth c ls C hr hk hl
  have hl : lv_has ls 4 [(0, .int (iZ (a))), (1, .int (iZ (b))), (2, .int (iZ (g)))] := hl
  refine lv_iload_n C.1 C.2.1 dJ8_newLength_cabcc_0 rfl (lv_at hl 0 rfl) ?_
  refine lv_iload_n C.1 C.2.1 dJ8_newLength_cabcc_1 rfl (lv_at hl 1 rfl) ?_
  refine lv_iload_n C.1 C.2.1 dJ8_newLength_cabcc_2 rfl (lv_at hl 2 rfl) ?_
  refine z_mxI C (by omega) (by omega) my_J8_194 hl ⟨Nat.le_of_ble_eq_true rfl, Nat.le_of_ble_eq_true rfl⟩ ⟨Nat.le_refl _, Nat.le_refl _⟩ (Nat.le_of_ble_eq_true rfl) dJ8_newLength_cabcc_3 ?_
  have q3 := mxi_rng (b) (g)
  refine z_iadd C dJ8_newLength_cabcc_6 ?_
  refine lv_istore_n (lv' := [(3, .int (iZ ((a) + (mxi (b) (g))))), (0, .int (iZ (a))), (1, .int (iZ (b))), (2, .int (iZ (g)))]) C.1 C.2.1 dJ8_newLength_cabcc_7 rfl hl (by decide) rfl (fun ls hl => ?_)
  refine z_iconst C dJ8_newLength_cabcc_8 ?_
  refine lv_iload_n C.1 C.2.1 dJ8_newLength_cabcc_9 rfl (lv_at hl 0 rfl) ?_
  refine z_icmp_ge (tgt := 21) C (by omega) (by omega) dJ8_newLength_cabcc_10 (by decide) (fun h10 => ?_) (fun h10 => ?_)
  · exfalso; omega
  · refine lv_iload_n C.1 C.2.1 dJ8_newLength_cabcc_13 rfl (lv_at hl 0 rfl) ?_
    refine z_ldc C (2147483639) ki_J8_200 rfl dJ8_newLength_cabcc_14 ?_
    refine z_icmp_gt (tgt := 21) C (by omega) (by omega) dJ8_newLength_cabcc_16 (by decide) (fun h16 => ?_) (fun h16 => ?_)
    · exfalso; omega
    · refine lv_iload_n C.1 C.2.1 dJ8_newLength_cabcc_19 rfl (lv_at hl 0 rfl) ?_
      exact z_iret C hr hk dJ8_newLength_cabcc_20 (congrArg (fun z : Int => Value.int (iZ z)) (by rfl))

set_option maxHeartbeats 4000000 in
set_option maxRecDepth 100000 in
theorem c_J6_stringSize_0f7a4 (l : Launch) (z : Int) (hz : 0 ≤ z ∧ z ≤ 999) : zP l yJ6_stringSize_0f7a4 0 23 [.int (iZ (z))] (.int (iZ (ssz z))) := by
  refine zP.intro (lo := 0) (nA := 1) (own := RJ6) zs_J6_stringSize_0f7a4 (by decide) rfl rfl (by decide +kernel) rfl (Nat.le_of_ble_eq_true rfl) ?_
  intro p e s m below meth c ls C hr hk hl
  have hl : lv_has ls 4 [(0, .int (iZ (z)))] := hl
  refine z_iconst C dJ6_stringSize_0f7a4_0 ?_
  refine lv_istore_n (lv' := [(1, .int (iZ (1))), (0, .int (iZ (z)))]) C.1 C.2.1 dJ6_stringSize_0f7a4_1 rfl hl (by decide) rfl (fun ls hl => ?_)
  refine lv_iload_n C.1 C.2.1 dJ6_stringSize_0f7a4_2 rfl (lv_at hl 1 rfl) ?_
  refine z_if_lt (tgt := 11) C (by omega) dJ6_stringSize_0f7a4_3 (by decide) (fun h3 => ?_) (fun h3 => ?_)
  · exfalso; omega
  · refine z_iconst C dJ6_stringSize_0f7a4_6 ?_
    refine lv_istore_n (lv' := [(1, .int (iZ (0))), (0, .int (iZ (z)))]) C.1 C.2.1 dJ6_stringSize_0f7a4_7 rfl hl (by decide) rfl (fun ls hl => ?_)
    refine lv_iload_n C.1 C.2.1 dJ6_stringSize_0f7a4_8 rfl (lv_at hl 1 rfl) ?_
    refine z_ineg C dJ6_stringSize_0f7a4_9 ?_
    refine lv_istore_n (lv' := [(0, .int (iZ (-(z)))), (1, .int (iZ (0)))]) C.1 C.2.1 dJ6_stringSize_0f7a4_10 rfl hl (by decide) rfl (fun ls hl => ?_)
    refine z_bipush C dJ6_stringSize_0f7a4_11 (by decide) ?_
    refine lv_istore_n (lv' := [(2, .int (iZ (-10))), (0, .int (iZ (-(z)))), (1, .int (iZ (0)))]) C.1 C.2.1 dJ6_stringSize_0f7a4_13 rfl hl (by decide) rfl (fun ls hl => ?_)
    refine z_iconst C dJ6_stringSize_0f7a4_14 ?_
    refine lv_istore_n (lv' := [(3, .int (iZ (1))), (2, .int (iZ (-10))), (0, .int (iZ (-(z)))), (1, .int (iZ (0)))]) C.1 C.2.1 dJ6_stringSize_0f7a4_15 rfl hl (by decide) rfl (fun ls hl => ?_)
    have L16 : ∀ (j : Nat)  (x2 : Int) (x3 : Int) (ls : Array Slot), (4 - x3).toNat < j → ((x3 = 1 ∧ x2 = -10) ∨ (x3 = 2 ∧ x2 = -100 ∧ 10 ≤ z) ∨ (x3 = 3 ∧ x2 = -1000 ∧ 100 ≤ z)) → lv_has ls 4 [(0, .int (iZ (-(z)))), (1, .int (iZ (0))), (2, .int (iZ (x2))), (3, .int (iZ (x3)))] → W p l e { frames := 0, cells := 0, slots := 0, locals := 0 } s m ([.int (iZ (z))] : List Value).toArray below meth c s.heap [] 0 0 (zQ below [.int (iZ (z))] s (.int (iZ (ssz z)))) (F0 m 16 ls []) := by
      intro j
      induction j with
      | zero => intro x2 x3 ls hmu; exact absurd hmu (Nat.not_lt_zero _)
      | succ j ih16 =>
        intro x2 x3 ls hmu i16_0 hl
        refine lv_iload_n C.1 C.2.1 dJ6_stringSize_0f7a4_16 rfl (lv_at hl 3 rfl) ?_
        refine z_bipush C dJ6_stringSize_0f7a4_17 (by decide) ?_
        refine z_icmp_ge (tgt := 42) C (by omega) (by omega) dJ6_stringSize_0f7a4_19 (by decide) (fun h19 => ?_) (fun h19 => ?_)
        · exfalso; omega
        · refine lv_iload_n C.1 C.2.1 dJ6_stringSize_0f7a4_22 rfl (lv_at hl 0 rfl) ?_
          refine lv_iload_n C.1 C.2.1 dJ6_stringSize_0f7a4_23 rfl (lv_at hl 2 rfl) ?_
          refine z_icmp_le (tgt := 31) C (by omega) (by omega) dJ6_stringSize_0f7a4_24 (by decide) (fun h24 => ?_) (fun h24 => ?_)
          · refine z_bipush C dJ6_stringSize_0f7a4_31 (by decide) ?_
            refine lv_iload_n C.1 C.2.1 dJ6_stringSize_0f7a4_33 rfl (lv_at hl 2 rfl) ?_
            refine z_imul C dJ6_stringSize_0f7a4_34 ?_
            refine lv_istore_n (lv' := [(2, .int (iZ ((10) * (x2)))), (0, .int (iZ (-(z)))), (1, .int (iZ (0))), (3, .int (iZ (x3)))]) C.1 C.2.1 dJ6_stringSize_0f7a4_35 rfl hl (by decide) rfl (fun ls hl => ?_)
            refine z_iinc (j := 3) (lv' := [(3, .int (iZ (x3 + 1))), (2, .int (iZ ((10) * (x2)))), (0, .int (iZ (-(z)))), (1, .int (iZ (0)))]) C dJ6_stringSize_0f7a4_36 hl rfl (by decide) rfl (fun ls hl => ?_)
            refine lv_goto (tgt := 16) C.1 C.2.1 dJ6_stringSize_0f7a4_39 (by decide) ?_
            exact ih16  _ _ _ (by omega) (by omega) (lv_sub hl [2, 3, 1, 0] rfl)
          · refine lv_iload_n C.1 C.2.1 dJ6_stringSize_0f7a4_27 rfl (lv_at hl 3 rfl) ?_
            refine lv_iload_n C.1 C.2.1 dJ6_stringSize_0f7a4_28 rfl (lv_at hl 1 rfl) ?_
            refine z_iadd C dJ6_stringSize_0f7a4_29 ?_
            exact z_iret C hr hk dJ6_stringSize_0f7a4_30 (congrArg (fun z : Int => Value.int (iZ z)) (by rw [ssz_eq z x3 (by omega)]; omega))
    exact L16 _  _ _ _ (by exact Nat.lt_succ_self _) (by exact Or.inl ⟨rfl, rfl⟩) (lv_sub hl [2, 3, 1, 0] rfl)

set_option maxHeartbeats 4000000 in
set_option maxRecDepth 100000 in
theorem c_J1_canEncode_fc78d (l : Launch) (z : Int) (hz : 0 ≤ z ∧ z ≤ 255) : zP l yJ1_canEncode_fc78d 0 20 [.int (iZ (z))] (.int (iZ (zB (true)))) := by
  refine zP.intro (lo := 0) (nA := 1) (own := RJ1) zs_J1_canEncode_fc78d (by decide) rfl rfl (by decide +kernel) rfl (Nat.le_of_ble_eq_true rfl) ?_
  intro p e s m below meth c ls C hr hk hl
  have hl : lv_has ls 1 [(0, .int (iZ (z)))] := hl
  refine lv_iload_n C.1 C.2.1 dJ1_canEncode_fc78d_0 rfl (lv_at hl 0 rfl) ?_
  refine z_sipush C dJ1_canEncode_fc78d_1 (by decide) ?_
  refine z_icmp_gt (tgt := 11) C (by omega) (by omega) dJ1_canEncode_fc78d_4 (by decide) (fun h4 => ?_) (fun h4 => ?_)
  · exfalso; omega
  · refine z_iconst C dJ1_canEncode_fc78d_7 ?_
    refine lv_goto (tgt := 12) C.1 C.2.1 dJ1_canEncode_fc78d_8 (by decide) ?_
    exact z_zret C hr hk dJ1_canEncode_fc78d_12 (by decide) (congrArg (fun z : Int => Value.int (iZ z)) (by rfl))

set_option maxHeartbeats 4000000 in
set_option maxRecDepth 100000 in
theorem c_J7_checkLength_df160 (l : Launch) (a : Int) (b : Int) (ha : 0 ≤ a ∧ a ≤ b ∧ b ≤ 100000) : zPv l yJ7_checkLength_df160 0 21 [.int (iZ (a)), .int (iZ (b))]  := by
  refine zPv.intro (lo := 0) (nA := 2) (own := RJ7) zs_J7_checkLength_df160 (by decide) rfl rfl (by decide +kernel) rfl (Nat.le_of_ble_eq_true rfl) ?_
  intro p e s m below meth c ls C hr hk hl
  have hl : lv_has ls 2 [(0, .int (iZ (a))), (1, .int (iZ (b)))] := hl
  refine lv_iload_n C.1 C.2.1 dJ7_checkLength_df160_0 rfl (lv_at hl 1 rfl) ?_
  refine lv_iload_n C.1 C.2.1 dJ7_checkLength_df160_1 rfl (lv_at hl 0 rfl) ?_
  refine z_icmp_ge (tgt := 37) C (by omega) (by omega) dJ7_checkLength_df160_2 (by decide) (fun h2 => ?_) (fun h2 => ?_)
  · exact z_vret C hr hk dJ7_checkLength_df160_37
  · exfalso; omega

set_option maxHeartbeats 4000000 in
set_option maxRecDepth 100000 in
theorem c_X2_signOf (l : Launch) (z : Int) (hz : 0 ≤ z ∧ z ≤ 35) : zP l yX2_signOf 0 20 [.int (iZ (z))] (.int (iZ (sgn z))) := by
  refine zP.intro (lo := 0) (nA := 1) (own := RX2) zs_X2_signOf (by decide) rfl rfl (by decide +kernel) rfl (Nat.le_of_ble_eq_true rfl) ?_
  intro p e s m below meth c ls C hr hk hl
  have hl : lv_has ls 1 [(0, .int (iZ (z)))] := hl
  refine lv_iload_n C.1 C.2.1 dX2_signOf_0 rfl (lv_at hl 0 rfl) ?_
  refine z_bipush C dX2_signOf_1 (by decide) ?_
  refine z_icmp_ge (tgt := 13) C (by omega) (by omega) dX2_signOf_3 (by decide) (fun h3 => ?_) (fun h3 => ?_)
  · refine z_bipush C dX2_signOf_13 (by decide) ?_
    refine lv_iload_n C.1 C.2.1 dX2_signOf_15 rfl (lv_at hl 0 rfl) ?_
    refine z_bipush C dX2_signOf_16 (by decide) ?_
    refine z_isub C dX2_signOf_18 ?_
    refine z_iadd C dX2_signOf_19 ?_
    refine z_i2c C (by omega) dX2_signOf_20 ?_
    exact z_zret C hr hk dX2_signOf_21 (zn_char (by omega)) (congrArg (fun z : Int => Value.int (iZ z)) (by rw [sgn, if_neg (by omega)]))
  · refine z_bipush C dX2_signOf_6 (by decide) ?_
    refine lv_iload_n C.1 C.2.1 dX2_signOf_8 rfl (lv_at hl 0 rfl) ?_
    refine z_iadd C dX2_signOf_9 ?_
    refine lv_goto (tgt := 20) C.1 C.2.1 dX2_signOf_10 (by decide) ?_
    refine z_i2c C (by omega) dX2_signOf_20 ?_
    exact z_zret C hr hk dX2_signOf_21 (zn_char (by omega)) (congrArg (fun z : Int => Value.int (iZ z)) (by rw [sgn, if_pos (by omega)]))

set_option maxHeartbeats 4000000 in
set_option maxRecDepth 100000 in
theorem c_J6_getChars_ba4f3 (l : Launch) (D : va_G) (cB : ClassId) (z q : Int) (k : Nat) (hz : 0 ≤ z ∧ z ≤ 999) (hq : ssz z ≤ q ∧ q ≤ (k : Int)) (hk9 : k ≤ 100000) : zGC l 1 26 D cB z q k := by
  refine ⟨0, rfl, fun v sz => ?_⟩
  refine Met.ofW (ws' := T0) (by decide) rfl ?_
  intro p e s m args below meth c s₁ B hml hv
  obtain ⟨hv, hsz, hAt, hV⟩ := hv
  subst hv
  subst hsz
  have hts := atoms_spec (ws := Cond.code yJ6_getChars_ba4f3 cJ6_getChars_ba4f3 7 (some .int) :: T0) B.pre
  have hown : s.vm.findClass RJ6 = some m.cls := findClass_of_methodNamed B.named
  rw [lg_entry_eq]
  have C : CallFix p m c cJ6_getChars_ba4f3 7 s ([.int (iZ z), .int (iZ q), .ref v] : List Value).toArray T0 RJ6 := ⟨B.exec, B.bytes, hml, hown, fun w h => hts w (List.mem_cons_of_mem _ h)⟩
  have hr := B.returns
  have hk := B.notSynchronized
  have hl : lv_has _ 7 [(0, .int (iZ z)), (1, .int (iZ q)), (2, .ref v)] := lv_entry ([.int (iZ z), .int (iZ q), .ref v] : List Value) (n := 7) (Nat.le_of_ble_eq_true rfl)
  generalize (lg_sl ([.int (iZ z), .int (iZ q), .ref v] : List Value) ++ List.replicate (7 - (lg_sl ([.int (iZ z), .int (iZ q), .ref v] : List Value)).length) Slot.unset).toArray = ls at hl ⊢
  obtain ⟨-, -, ⟨tO, gO, V1, V2⟩, ⟨tT, gT, V3, V4⟩, -⟩ := hV
  have B : AtR D cB v k s s.heap ∧ va_S (fun q => q = v) s.heap s.heap [] := ⟨hAt, va_S.rf⟩
  refine lv_iload_n C.1 C.2.1 dJ6_getChars_ba4f3_0 rfl (lv_at hl 1 rfl) ?_
  refine lv_istore (lv' := [(5, .int (iZ (q))), (0, .int (iZ (z))), (1, .int (iZ (q))), (2, .ref v)]) C.1 C.2.1 dJ6_getChars_ba4f3_1 hl (by decide) rfl (fun ls hl => ?_)
  refine lv_iload_n C.1 C.2.1 dJ6_getChars_ba4f3_3 rfl (lv_at hl 1 rfl) ?_
  refine z_if_ge (tgt := 11) C (by omega) dJ6_getChars_ba4f3_4 (by decide) (fun h4 => ?_) (fun h4 => ?_)
  · refine z_iconst C dJ6_getChars_ba4f3_11 ?_
    refine lv_istore (lv' := [(6, .int (iZ (0))), (5, .int (iZ (q))), (0, .int (iZ (z))), (1, .int (iZ (q))), (2, .ref v)]) C.1 C.2.1 dJ6_getChars_ba4f3_12 hl (by decide) rfl (fun ls hl => ?_)
    refine lv_iload C.1 C.2.1 dJ6_getChars_ba4f3_14 (lv_at hl 0 rfl) ?_
    refine z_if_ne (tgt := 22) C (by omega) dJ6_getChars_ba4f3_16 (by decide) (fun h16 => ?_) (fun h16 => ?_)
    · exfalso; omega
    · refine lv_iload_n C.1 C.2.1 dJ6_getChars_ba4f3_19 rfl (lv_at hl 2 rfl) ?_
      refine z_ineg C dJ6_getChars_ba4f3_20 ?_
      refine lv_istore_n (lv' := [(0, .int (iZ (-(z)))), (6, .int (iZ (0))), (5, .int (iZ (q))), (1, .int (iZ (q))), (2, .ref v)]) C.1 C.2.1 dJ6_getChars_ba4f3_21 rfl hl (by decide) rfl (fun ls hl => ?_)
      have L22 : ∀ (j : Nat) (w : Nat) (x0 : Int) (x5 : Int) (H : Heap) (locs : List Loc) (ls : Array Slot), w + 1 < j → (x0 = -(w : Int)) → (w ≤ 999) → (ssz (w : Int) ≤ x5) → (x5 ≤ (k : Int)) → (AtR D cB v k s H ∧ va_S (fun q => q = v) s.heap H locs) → lv_has ls 7 [(0, .int (iZ (x0))), (1, .int (iZ (q))), (2, .ref v), (5, .int (iZ (x5))), (6, .int (iZ (0)))] → W p l e { frames := 1, cells := 0, slots := 0, locals := 0 } s m ([.int (iZ z), .int (iZ q), .ref v] : List Value).toArray below meth c H locs 0 0 (MQ below (fun _ st oc t => (∃ x : Int32, oc = .returned (some (.int x))) ∧ AtR D cB v k t t.heap ∧ va_F (fun x => x = v) st t) ([.int (iZ z), .int (iZ q), .ref v] : List Value).toArray s 0 0 (fun x => x = v)) (F0 m 22 ls []) := by
        intro j
        induction j with
        | zero => intro w x0 x5 H locs ls hmu; exact absurd hmu (Nat.not_lt_zero _)
        | succ j ih22 =>
          intro w x0 x5 H locs ls hmu i22_0 i22_1 i22_2 i22_3 B hl
          refine lv_iload_n C.1 C.2.1 dJ6_getChars_ba4f3_22 rfl (lv_at hl 0 rfl) ?_
          refine z_bipush C dJ6_getChars_ba4f3_23 (by decide) ?_
          refine z_icmp_gt (tgt := 72) C (by omega) (by omega) dJ6_getChars_ba4f3_25 (by decide) (fun h25 => ?_) (fun h25 => ?_)
          · refine lv_aload_n C.1 C.2.1 dJ6_getChars_ba4f3_72 rfl (lv_at hl 2 rfl) ?_
            refine z_iinc (j := 3) (lv' := [(5, .int (iZ (x5 + (-1)))), (0, .int (iZ (x0))), (1, .int (iZ (q))), (2, .ref v), (6, .int (iZ (0)))]) C dJ6_getChars_ba4f3_73 hl rfl (by decide) rfl (fun ls hl => ?_)
            refine lv_iload C.1 C.2.1 dJ6_getChars_ba4f3_76 (lv_at hl 0 rfl) ?_
            refine zv_gets C V1 B.2 fl_J6_83 dJ6_getChars_ba4f3_78 ?_
            refine lv_iload_n C.1 C.2.1 dJ6_getChars_ba4f3_81 rfl (lv_at hl 1 rfl) ?_
            refine z_ineg C dJ6_getChars_ba4f3_82 ?_
            refine zv_tb C V2 B.2 (w) (by omega) (by omega) (by decide) dJ6_getChars_ba4f3_83 (fun x83 => ?_)
            refine zr_bast C B.1 B.2 rfl (x5.toNat - 1) (by have h1 := ssz_rng (w : Int); omega) (by have h1 := ssz_rng (w : Int); omega) (by omega) dJ6_getChars_ba4f3_84 (fun H locs R1 S1 hq => ?_)
            have B : AtR D cB v k s H ∧ va_S (fun q => q = v) s.heap H locs := ⟨R1, S1⟩
            refine lv_iload_n C.1 C.2.1 dJ6_getChars_ba4f3_85 rfl (lv_at hl 1 rfl) ?_
            refine z_bipush C dJ6_getChars_ba4f3_86 (by decide) ?_
            refine z_icmp_ge (tgt := 104) C (by omega) (by omega) dJ6_getChars_ba4f3_88 (by decide) (fun h88 => ?_) (fun h88 => ?_)
            · refine lv_iload C.1 C.2.1 dJ6_getChars_ba4f3_104 (lv_at hl 4 rfl) ?_
              refine z_if_eq (tgt := 118) C (by omega) dJ6_getChars_ba4f3_106 (by decide) (fun h106 => ?_) (fun h106 => ?_)
              · refine lv_iload C.1 C.2.1 dJ6_getChars_ba4f3_118 (lv_at hl 0 rfl) ?_
                exact W.iret C.1 C.2.1 hr (fun t ht hW => ⟨⟨_, rfl⟩, by rw [ht]; exact B.1.moved hW.alike, B.2.F ht⟩) B.2.2.2 dJ6_getChars_ba4f3_120 hk
              · exfalso; omega
            · refine lv_aload_n C.1 C.2.1 dJ6_getChars_ba4f3_91 rfl (lv_at hl 3 rfl) ?_
              refine z_iinc (j := 0) (lv' := [(5, .int (iZ (x5 + (-1) + (-1)))), (0, .int (iZ (x0))), (1, .int (iZ (q))), (2, .ref v), (6, .int (iZ (0)))]) C dJ6_getChars_ba4f3_92 hl rfl (by decide) rfl (fun ls hl => ?_)
              refine lv_iload C.1 C.2.1 dJ6_getChars_ba4f3_95 (lv_at hl 0 rfl) ?_
              refine zv_gets C V3 B.2 fl_J6_87 dJ6_getChars_ba4f3_97 ?_
              refine lv_iload_n C.1 C.2.1 dJ6_getChars_ba4f3_100 rfl (lv_at hl 1 rfl) ?_
              refine z_ineg C dJ6_getChars_ba4f3_101 ?_
              refine zv_tb C V4 B.2 (w) (by omega) (by omega) (by decide) dJ6_getChars_ba4f3_102 (fun x102 => ?_)
              refine zr_bast C B.1 B.2 rfl (x5.toNat - 2) (by have h1 := ssz_10 (w := w) (by omega); omega) (by have h1 := ssz_10 (w := w) (by omega); omega) (by omega) dJ6_getChars_ba4f3_103 (fun H locs R1 S1 hq => ?_)
              have B : AtR D cB v k s H ∧ va_S (fun q => q = v) s.heap H locs := ⟨R1, S1⟩
              refine lv_iload C.1 C.2.1 dJ6_getChars_ba4f3_104 (lv_at hl 4 rfl) ?_
              refine z_if_eq (tgt := 118) C (by omega) dJ6_getChars_ba4f3_106 (by decide) (fun h106 => ?_) (fun h106 => ?_)
              · refine lv_iload C.1 C.2.1 dJ6_getChars_ba4f3_118 (lv_at hl 0 rfl) ?_
                exact W.iret C.1 C.2.1 hr (fun t ht hW => ⟨⟨_, rfl⟩, by rw [ht]; exact B.1.moved hW.alike, B.2.F ht⟩) B.2.2.2 dJ6_getChars_ba4f3_120 hk
              · exfalso; omega
          · refine lv_iload_n C.1 C.2.1 dJ6_getChars_ba4f3_28 rfl (lv_at hl 0 rfl) ?_
            refine z_bipush C dJ6_getChars_ba4f3_29 (by decide) ?_
            refine z_idivN C (w) (by omega) (by omega) dJ6_getChars_ba4f3_31 ?_
            refine lv_istore_n (lv' := [(3, .int (iZ (-((w / 100 : Nat) : Int)))), (0, .int (iZ (x0))), (1, .int (iZ (q))), (2, .ref v), (5, .int (iZ (x5))), (6, .int (iZ (0)))]) C.1 C.2.1 dJ6_getChars_ba4f3_32 rfl hl (by decide) rfl (fun ls hl => ?_)
            refine lv_iload_n C.1 C.2.1 dJ6_getChars_ba4f3_33 rfl (lv_at hl 0 rfl) ?_
            refine z_bipush C dJ6_getChars_ba4f3_34 (by decide) ?_
            refine z_imul C dJ6_getChars_ba4f3_36 ?_
            refine lv_iload_n C.1 C.2.1 dJ6_getChars_ba4f3_37 rfl (lv_at hl 1 rfl) ?_
            refine z_isub C dJ6_getChars_ba4f3_38 ?_
            refine lv_istore (lv' := [(4, .int (iZ (((-((w / 100 : Nat) : Int)) * (100)) - (x0)))), (3, .int (iZ (-((w / 100 : Nat) : Int)))), (0, .int (iZ (x0))), (1, .int (iZ (q))), (2, .ref v), (5, .int (iZ (x5))), (6, .int (iZ (0)))]) C.1 C.2.1 dJ6_getChars_ba4f3_39 hl (by decide) rfl (fun ls hl => ?_)
            refine lv_iload_n C.1 C.2.1 dJ6_getChars_ba4f3_41 rfl (lv_at hl 1 rfl) ?_
            refine lv_istore_n (lv' := [(0, .int (iZ (-((w / 100 : Nat) : Int)))), (4, .int (iZ (((-((w / 100 : Nat) : Int)) * (100)) - (x0)))), (3, .int (iZ (-((w / 100 : Nat) : Int)))), (1, .int (iZ (q))), (2, .ref v), (5, .int (iZ (x5))), (6, .int (iZ (0)))]) C.1 C.2.1 dJ6_getChars_ba4f3_42 rfl hl (by decide) rfl (fun ls hl => ?_)
            refine lv_aload_n C.1 C.2.1 dJ6_getChars_ba4f3_43 rfl (lv_at hl 4 rfl) ?_
            refine z_iinc (j := 5) (lv' := [(5, .int (iZ (x5 + (-1)))), (0, .int (iZ (-((w / 100 : Nat) : Int)))), (4, .int (iZ (((-((w / 100 : Nat) : Int)) * (100)) - (x0)))), (3, .int (iZ (-((w / 100 : Nat) : Int)))), (1, .int (iZ (q))), (2, .ref v), (6, .int (iZ (0)))]) C dJ6_getChars_ba4f3_44 hl rfl (by decide) rfl (fun ls hl => ?_)
            refine lv_iload C.1 C.2.1 dJ6_getChars_ba4f3_47 (lv_at hl 0 rfl) ?_
            refine zv_gets C V1 B.2 fl_J6_83 dJ6_getChars_ba4f3_49 ?_
            refine lv_iload C.1 C.2.1 dJ6_getChars_ba4f3_52 (lv_at hl 2 rfl) ?_
            refine zv_tb C V2 B.2 (w % 100) (by omega) (by omega) (by decide) dJ6_getChars_ba4f3_54 (fun x54 => ?_)
            refine zr_bast C B.1 B.2 rfl (x5.toNat - 1) (by have h1 := ssz_100 (w := w) (by omega) (by omega); omega) (by have h1 := ssz_100 (w := w) (by omega) (by omega); omega) (by omega) dJ6_getChars_ba4f3_55 (fun H locs R1 S1 hq => ?_)
            have B : AtR D cB v k s H ∧ va_S (fun q => q = v) s.heap H locs := ⟨R1, S1⟩
            refine lv_aload_n C.1 C.2.1 dJ6_getChars_ba4f3_56 rfl (lv_at hl 5 rfl) ?_
            refine z_iinc (j := 0) (lv' := [(5, .int (iZ (x5 + (-1) + (-1)))), (0, .int (iZ (-((w / 100 : Nat) : Int)))), (4, .int (iZ (((-((w / 100 : Nat) : Int)) * (100)) - (x0)))), (3, .int (iZ (-((w / 100 : Nat) : Int)))), (1, .int (iZ (q))), (2, .ref v), (6, .int (iZ (0)))]) C dJ6_getChars_ba4f3_57 hl rfl (by decide) rfl (fun ls hl => ?_)
            refine lv_iload C.1 C.2.1 dJ6_getChars_ba4f3_60 (lv_at hl 0 rfl) ?_
            refine zv_gets C V3 B.2 fl_J6_87 dJ6_getChars_ba4f3_62 ?_
            refine lv_iload C.1 C.2.1 dJ6_getChars_ba4f3_65 (lv_at hl 2 rfl) ?_
            refine zv_tb C V4 B.2 (w % 100) (by omega) (by omega) (by decide) dJ6_getChars_ba4f3_67 (fun x67 => ?_)
            refine zr_bast C B.1 B.2 rfl (x5.toNat - 2) (by have h1 := ssz_100 (w := w) (by omega) (by omega); omega) (by have h1 := ssz_100 (w := w) (by omega) (by omega); omega) (by omega) dJ6_getChars_ba4f3_68 (fun H locs R1 S1 hq => ?_)
            have B : AtR D cB v k s H ∧ va_S (fun q => q = v) s.heap H locs := ⟨R1, S1⟩
            refine lv_goto (tgt := 22) C.1 C.2.1 dJ6_getChars_ba4f3_69 (by decide) ?_
            exact ih22 (w / 100) _ _ _ _ _ (by omega) (by omega) (by omega) (by have h1 := ssz_100 (w := w) (by omega) (by omega); omega) (by omega) B (lv_sub hl [1, 4, 5, 0, 6] rfl)
      exact L22 _ (z.toNat) _ _ _ _ _ (by exact Nat.lt_succ_self _) (by omega) (by omega) (by rw [show ((z.toNat : Nat) : Int) = z by omega]; omega) (by omega) B (lv_sub hl [0, 3, 4, 2, 1] rfl)
  · exfalso; omega

end JB
