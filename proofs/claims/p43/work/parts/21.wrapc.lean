/-! ===== the law's wrappers by contract ===== -/
section WF
set_option maxHeartbeats 4000000 in
set_option maxRecDepth 100000 in
theorem c_L_put (l : Launch) (D : va_G) (cJ : ClassId) (o a : Nat) (c : Nat → Nat) (ac : Int32) (re : Int32) (kn : Int32) (z : Int) (g : Int) (hz : 0 ≤ z ∧ z ≤ 5) (hg : -2147483648 ≤ g ∧ g ≤ 2147483647) (w9 : Nat) (n9 : Int64) (s9 : Value) : zL l yL_put 4 112 0 0 D cJ o a w9 [.ref o, .int (iZ (z)), .int (iZ (g)), .ref w9] c [.int (ac), .int (re), .int (kn)] n9 s9 0 (aC c (z.toNat) (some ((g % 18446744073709551616).toNat &&& 4294967295))) [.int (aA ac (some ((g % 18446744073709551616).toNat &&& 4294967295))), .int (aF re (some ((g % 18446744073709551616).toNat &&& 4294967295))), .int (kn)] ((iZ (aR c (z.toNat) (some ((g % 18446744073709551616).toNat &&& 4294967295))))).toInt64 s9 := by
  refine zL.intro (lo := 88) (nA := 4) zw_L_put (by decide) rfl rfl (by decide +kernel) rfl (Nat.le_of_ble_eq_true rfl) ?_
  intro p e s m below meth c0 ls C9 hr9 hk9 ht9 hLi9 hS9 hl9
  have hl9 : lv_has ls 5 [(0, .ref o), (1, .int (iZ (z))), (2, .int (iZ (g))), (3, .ref w9)] := hl9
  refine lv_aload_n C9.1 C9.2.1 dL_put_0 rfl (lv_at hl9 3 rfl) ?_
  refine lv_aload_n C9.1 C9.2.1 dL_put_1 rfl (lv_at hl9 0 rfl) ?_
  refine lv_iload_n C9.1 C9.2.1 dL_put_2 rfl (lv_at hl9 1 rfl) ?_
  refine lv_iload_n C9.1 C9.2.1 dL_put_3 rfl (lv_at hl9 2 rfl) ?_
  refine zg_call (as := [.int (iZ (z)), .int (iZ (g))]) C9 hLi9.1 hS9 (fun q h => Or.inr h) (c_X3_put l D cJ o a c ac re kn z g hz hg) ml_L_7 rfl (by decide) (by decide) hl9 (Nat.le_of_ble_eq_true rfl) rfl dL_put_4 (fun v9 H1 locs1 hv9 hAt1 hS1 hk1 hz1 => ?_)
  subst hv9
  refine lv_i2l C9.1 C9.2.1 dL_put_7 rfl ?_
  refine zw_putN C9 (hLi9.2.1.kept (hk1 w9 hLi9.2.1.lt (fun z => z.elim hLi9.2.2.1.1 hLi9.2.2.1.2))) hS1 (Or.inl rfl) hLi9.2.2.2.2.2.2.2.1 dL_put_8 (fun H2 locs2 hW2 hS2 hk2 hz2 => ?_)
  refine lv_goto (tgt := 18) C9.1 C9.2.1 dL_put_11 (by decide) ?_
  refine z_iconst C9 dL_put_18 ?_
  exact zl_ret C9 (hAt1.kept (hk2 o (Ne.symm hLi9.2.2.1.1)) (hk2 a (Ne.symm hLi9.2.2.1.2))) hW2 hS2 hr9 hk9 (Nat.le_of_ble_eq_true rfl) (Nat.le_of_ble_eq_true rfl) dL_put_19 rfl
set_option maxHeartbeats 4000000 in
set_option maxRecDepth 100000 in
theorem c_L_mono (l : Launch) (D : va_G) (cJ : ClassId) (o a : Nat) (c : Nat → Nat) (ac : Int32) (re : Int32) (kn : Int32) (z : Int) (g : Int) (hz : 0 ≤ z ∧ z ≤ 5) (hg : 0 ≤ g ∧ g ≤ 32) (w9 : Nat) (n9 : Int64) (s9 : Value) : zL l yL_mono 4 112 0 0 D cJ o a w9 [.ref o, .int (iZ (z)), .int (iZ (g)), .ref w9] c [.int (ac), .int (re), .int (kn)] n9 s9 0 (aC c (z.toNat) (some (1 <<< g.toNat))) [.int (aA ac (some (1 <<< g.toNat))), .int (aF re (some (1 <<< g.toNat))), .int (kn)] ((iZ (aR c (z.toNat) (some (1 <<< g.toNat))))).toInt64 s9 := by
  refine zL.intro (lo := 88) (nA := 4) zw_L_mono (by decide) rfl rfl (by decide +kernel) rfl (Nat.le_of_ble_eq_true rfl) ?_
  intro p e s m below meth c0 ls C9 hr9 hk9 ht9 hLi9 hS9 hl9
  have hl9 : lv_has ls 5 [(0, .ref o), (1, .int (iZ (z))), (2, .int (iZ (g))), (3, .ref w9)] := hl9
  refine lv_aload_n C9.1 C9.2.1 dL_mono_0 rfl (lv_at hl9 3 rfl) ?_
  refine lv_aload_n C9.1 C9.2.1 dL_mono_1 rfl (lv_at hl9 0 rfl) ?_
  refine lv_iload_n C9.1 C9.2.1 dL_mono_2 rfl (lv_at hl9 1 rfl) ?_
  refine lv_iload_n C9.1 C9.2.1 dL_mono_3 rfl (lv_at hl9 2 rfl) ?_
  refine zg_call (as := [.int (iZ (z)), .int (iZ (g))]) C9 hLi9.1 hS9 (fun q h => Or.inr h) (c_X3_mono l D cJ o a c ac re kn z g hz hg) ml_L_21 rfl (by decide) (by decide) hl9 (Nat.le_of_ble_eq_true rfl) rfl dL_mono_4 (fun v9 H1 locs1 hv9 hAt1 hS1 hk1 hz1 => ?_)
  subst hv9
  refine lv_i2l C9.1 C9.2.1 dL_mono_7 rfl ?_
  refine zw_putN C9 (hLi9.2.1.kept (hk1 w9 hLi9.2.1.lt (fun z => z.elim hLi9.2.2.1.1 hLi9.2.2.1.2))) hS1 (Or.inl rfl) hLi9.2.2.2.2.2.2.2.1 dL_mono_8 (fun H2 locs2 hW2 hS2 hk2 hz2 => ?_)
  refine lv_goto (tgt := 22) C9.1 C9.2.1 dL_mono_11 (by decide) ?_
  refine z_iconst C9 dL_mono_22 ?_
  exact zl_ret C9 (hAt1.kept (hk2 o (Ne.symm hLi9.2.2.1.1)) (hk2 a (Ne.symm hLi9.2.2.1.2))) hW2 hS2 hr9 hk9 (Nat.le_of_ble_eq_true rfl) (Nat.le_of_ble_eq_true rfl) dL_mono_23 rfl
set_option maxHeartbeats 4000000 in
set_option maxRecDepth 100000 in
theorem c_L_digit (l : Launch) (D : va_G) (cJ : ClassId) (o a : Nat) (c : Nat → Nat) (ac : Int32) (re : Int32) (kn : Int32) (z : Int) (g : Int) (b : Bool) (hz : 0 ≤ z ∧ z ≤ 5) (hg : 0 ≤ g ∧ g ≤ 32) (w9 : Nat) (n9 : Int64) (s9 : Value) : zL l yL_digit 4 116 0 0 D cJ o a w9 [.ref o, .int (iZ (z)), .int (iZ (g)), .int (iZ (zB (b))), .ref w9] c [.int (ac), .int (re), .int (kn)] n9 s9 0 (aC c z.toNat (some (dg (c z.toNat) g b))) [.int (aA ac (some 0)), .int (re), .int (kn)] ((iZ (zB (tb (c z.toNat) g)))).toInt64 s9 := by
  refine zL.intro (lo := 91) (nA := 5) zw_L_digit (by decide) rfl rfl (by decide +kernel) rfl (Nat.le_of_ble_eq_true rfl) ?_
  intro p e s m below meth c0 ls C9 hr9 hk9 ht9 hLi9 hS9 hl9
  have hl9 : lv_has ls 6 [(0, .ref o), (1, .int (iZ (z))), (2, .int (iZ (g))), (3, .int (iZ (zB (b)))), (4, .ref w9)] := hl9
  refine lv_aload C9.1 C9.2.1 dL_digit_0 (lv_at hl9 4 rfl) ?_
  refine lv_aload_n C9.1 C9.2.1 dL_digit_2 rfl (lv_at hl9 0 rfl) ?_
  refine lv_iload_n C9.1 C9.2.1 dL_digit_3 rfl (lv_at hl9 1 rfl) ?_
  refine lv_iload_n C9.1 C9.2.1 dL_digit_4 rfl (lv_at hl9 2 rfl) ?_
  refine lv_iload_n C9.1 C9.2.1 dL_digit_5 rfl (lv_at hl9 3 rfl) ?_
  refine zg_call (as := [.int (iZ (z)), .int (iZ (g)), .int (iZ (zB (b)))]) C9 hLi9.1 hS9 (fun q h => Or.inr h) (c_X3_digit l D cJ o a c ac re kn z g b hz hg) ml_L_26 rfl (by decide) (by decide) hl9 (Nat.le_of_ble_eq_true rfl) rfl dL_digit_6 (fun v9 H1 locs1 hv9 hAt1 hS1 hk1 hz1 => ?_)
  subst hv9
  refine zl_bool C9 dL_digit_9 dL_digit_12 dL_digit_13 dL_digit_16 ?_
  refine zw_putN C9 (hLi9.2.1.kept (hk1 w9 hLi9.2.1.lt (fun z => z.elim hLi9.2.2.1.1 hLi9.2.2.1.2))) hS1 (Or.inl rfl) hLi9.2.2.2.2.2.2.2.1 dL_digit_17 (fun H2 locs2 hW2 hS2 hk2 hz2 => ?_)
  refine lv_goto (tgt := 31) C9.1 C9.2.1 dL_digit_20 (by decide) ?_
  refine z_iconst C9 dL_digit_31 ?_
  exact zl_ret C9 (hAt1.kept (hk2 o (Ne.symm hLi9.2.2.1.1)) (hk2 a (Ne.symm hLi9.2.2.1.2))) hW2 hS2 hr9 hk9 (Nat.le_of_ble_eq_true rfl) (Nat.le_of_ble_eq_true rfl) dL_digit_32 rfl
set_option maxHeartbeats 4000000 in
set_option maxRecDepth 100000 in
theorem c_L_flip (l : Launch) (D : va_G) (cJ : ClassId) (o a : Nat) (c : Nat → Nat) (ac : Int32) (re : Int32) (kn : Int32) (z : Int) (g : Int) (hz : 0 ≤ z ∧ z ≤ 5) (hg : 0 ≤ g ∧ g ≤ 32) (w9 : Nat) (n9 : Int64) (s9 : Value) : zL l yL_flip 4 114 0 0 D cJ o a w9 [.ref o, .int (iZ (z)), .int (iZ (g)), .ref w9] c [.int (ac), .int (re), .int (kn)] n9 s9 0 (aC c z.toNat (some (c z.toNat ^^^ (1 <<< g.toNat)))) [.int (aA ac (some 0)), .int (re), .int (kn)] ((iZ (zB (!tb (c z.toNat) g)))).toInt64 s9 := by
  refine zL.intro (lo := 90) (nA := 4) zw_L_flip (by decide) rfl rfl (by decide +kernel) rfl (Nat.le_of_ble_eq_true rfl) ?_
  intro p e s m below meth c0 ls C9 hr9 hk9 ht9 hLi9 hS9 hl9
  have hl9 : lv_has ls 5 [(0, .ref o), (1, .int (iZ (z))), (2, .int (iZ (g))), (3, .ref w9)] := hl9
  refine lv_aload_n C9.1 C9.2.1 dL_flip_0 rfl (lv_at hl9 3 rfl) ?_
  refine lv_aload_n C9.1 C9.2.1 dL_flip_1 rfl (lv_at hl9 0 rfl) ?_
  refine lv_iload_n C9.1 C9.2.1 dL_flip_2 rfl (lv_at hl9 1 rfl) ?_
  refine lv_iload_n C9.1 C9.2.1 dL_flip_3 rfl (lv_at hl9 2 rfl) ?_
  refine zg_call (as := [.int (iZ (z)), .int (iZ (g))]) C9 hLi9.1 hS9 (fun q h => Or.inr h) (c_X3_flip l D cJ o a c ac re kn z g hz hg) ml_L_30 rfl (by decide) (by decide) hl9 (Nat.le_of_ble_eq_true rfl) rfl dL_flip_4 (fun v9 H1 locs1 hv9 hAt1 hS1 hk1 hz1 => ?_)
  subst hv9
  refine zl_bool C9 dL_flip_7 dL_flip_10 dL_flip_11 dL_flip_14 ?_
  refine zw_putN C9 (hLi9.2.1.kept (hk1 w9 hLi9.2.1.lt (fun z => z.elim hLi9.2.2.1.1 hLi9.2.2.1.2))) hS1 (Or.inl rfl) hLi9.2.2.2.2.2.2.2.1 dL_flip_15 (fun H2 locs2 hW2 hS2 hk2 hz2 => ?_)
  refine lv_goto (tgt := 29) C9.1 C9.2.1 dL_flip_18 (by decide) ?_
  refine z_iconst C9 dL_flip_29 ?_
  exact zl_ret C9 (hAt1.kept (hk2 o (Ne.symm hLi9.2.2.1.1)) (hk2 a (Ne.symm hLi9.2.2.1.2))) hW2 hS2 hr9 hk9 (Nat.le_of_ble_eq_true rfl) (Nat.le_of_ble_eq_true rfl) dL_flip_30 rfl
set_option maxHeartbeats 4000000 in
set_option maxRecDepth 100000 in
theorem c_L_copy (l : Launch) (D : va_G) (cJ : ClassId) (o a : Nat) (c : Nat → Nat) (ac : Int32) (re : Int32) (kn : Int32) (f : Int) (z : Int) (hf : 0 ≤ f ∧ f ≤ 5) (hz : 0 ≤ z ∧ z ≤ 5) (w9 : Nat) (n9 : Int64) (s9 : Value) : zL l yL_copy 4 114 0 0 D cJ o a w9 [.ref o, .int (iZ (f)), .int (iZ (z)), .ref w9] c [.int (ac), .int (re), .int (kn)] n9 s9 0 (aC c (z.toNat) (some (c f.toNat))) [.int (aA ac (some (c f.toNat))), .int (aF re (some (c f.toNat))), .int (kn)] ((iZ (aR c (z.toNat) (some (c f.toNat))))).toInt64 s9 := by
  refine zL.intro (lo := 90) (nA := 4) zw_L_copy (by decide) rfl rfl (by decide +kernel) rfl (Nat.le_of_ble_eq_true rfl) ?_
  intro p e s m below meth c0 ls C9 hr9 hk9 ht9 hLi9 hS9 hl9
  have hl9 : lv_has ls 5 [(0, .ref o), (1, .int (iZ (f))), (2, .int (iZ (z))), (3, .ref w9)] := hl9
  refine lv_aload_n C9.1 C9.2.1 dL_copy_0 rfl (lv_at hl9 3 rfl) ?_
  refine lv_aload_n C9.1 C9.2.1 dL_copy_1 rfl (lv_at hl9 0 rfl) ?_
  refine lv_iload_n C9.1 C9.2.1 dL_copy_2 rfl (lv_at hl9 1 rfl) ?_
  refine lv_iload_n C9.1 C9.2.1 dL_copy_3 rfl (lv_at hl9 2 rfl) ?_
  refine zg_call (as := [.int (iZ (f)), .int (iZ (z))]) C9 hLi9.1 hS9 (fun q h => Or.inr h) (c_X3_copy l D cJ o a c ac re kn f z hf hz) ml_L_34 rfl (by decide) (by decide) hl9 (Nat.le_of_ble_eq_true rfl) rfl dL_copy_4 (fun v9 H1 locs1 hv9 hAt1 hS1 hk1 hz1 => ?_)
  subst hv9
  refine lv_i2l C9.1 C9.2.1 dL_copy_7 rfl ?_
  refine zw_putN C9 (hLi9.2.1.kept (hk1 w9 hLi9.2.1.lt (fun z => z.elim hLi9.2.2.1.1 hLi9.2.2.1.2))) hS1 (Or.inl rfl) hLi9.2.2.2.2.2.2.2.1 dL_copy_8 (fun H2 locs2 hW2 hS2 hk2 hz2 => ?_)
  refine lv_goto (tgt := 18) C9.1 C9.2.1 dL_copy_11 (by decide) ?_
  refine z_iconst C9 dL_copy_18 ?_
  exact zl_ret C9 (hAt1.kept (hk2 o (Ne.symm hLi9.2.2.1.1)) (hk2 a (Ne.symm hLi9.2.2.1.2))) hW2 hS2 hr9 hk9 (Nat.le_of_ble_eq_true rfl) (Nat.le_of_ble_eq_true rfl) dL_copy_19 rfl
set_option maxHeartbeats 4000000 in
set_option maxRecDepth 100000 in
theorem c_L_swap (l : Launch) (D : va_G) (cJ : ClassId) (o a : Nat) (c : Nat → Nat) (ac : Int32) (re : Int32) (kn : Int32) (f : Int) (z : Int) (hf : 0 ≤ f ∧ f ≤ 5) (hz : 0 ≤ z ∧ z ≤ 5) (w9 : Nat) (n9 : Int64) (s9 : Value) : zL l yL_swap 3 92 0 0 D cJ o a w9 [.ref o, .int (iZ (f)), .int (iZ (z)), .ref w9] c [.int (ac), .int (re), .int (kn)] n9 s9 0 (zu (zu c f.toNat (c z.toNat)) z.toNat (c f.toNat)) [.int (aA ac (some 0)), .int (re), .int (kn)] ((iZ (if c f.toNat = c z.toNat then 0 else 1))).toInt64 s9 := by
  refine zL.intro (lo := 68) (nA := 4) zw_L_swap (by decide) rfl rfl (by decide +kernel) rfl (Nat.le_of_ble_eq_true rfl) ?_
  intro p e s m below meth c0 ls C9 hr9 hk9 ht9 hLi9 hS9 hl9
  have hl9 : lv_has ls 5 [(0, .ref o), (1, .int (iZ (f))), (2, .int (iZ (z))), (3, .ref w9)] := hl9
  refine lv_aload_n C9.1 C9.2.1 dL_swap_0 rfl (lv_at hl9 3 rfl) ?_
  refine lv_aload_n C9.1 C9.2.1 dL_swap_1 rfl (lv_at hl9 0 rfl) ?_
  refine lv_iload_n C9.1 C9.2.1 dL_swap_2 rfl (lv_at hl9 1 rfl) ?_
  refine lv_iload_n C9.1 C9.2.1 dL_swap_3 rfl (lv_at hl9 2 rfl) ?_
  refine zg_call (as := [.int (iZ (f)), .int (iZ (z))]) C9 hLi9.1 hS9 (fun q h => Or.inr h) (c_X3_swap l D cJ o a c ac re kn f z hf hz) ml_L_37 rfl (by decide) (by decide) hl9 (Nat.le_of_ble_eq_true rfl) rfl dL_swap_4 (fun v9 H1 locs1 hv9 hAt1 hS1 hk1 hz1 => ?_)
  subst hv9
  refine lv_i2l C9.1 C9.2.1 dL_swap_7 rfl ?_
  refine zw_putN C9 (hLi9.2.1.kept (hk1 w9 hLi9.2.1.lt (fun z => z.elim hLi9.2.2.1.1 hLi9.2.2.1.2))) hS1 (Or.inl rfl) hLi9.2.2.2.2.2.2.2.1 dL_swap_8 (fun H2 locs2 hW2 hS2 hk2 hz2 => ?_)
  refine lv_goto (tgt := 18) C9.1 C9.2.1 dL_swap_11 (by decide) ?_
  refine z_iconst C9 dL_swap_18 ?_
  exact zl_ret C9 (hAt1.kept (hk2 o (Ne.symm hLi9.2.2.1.1)) (hk2 a (Ne.symm hLi9.2.2.1.2))) hW2 hS2 hr9 hk9 (Nat.le_of_ble_eq_true rfl) (Nat.le_of_ble_eq_true rfl) dL_swap_19 rfl
set_option maxHeartbeats 4000000 in
set_option maxRecDepth 100000 in
theorem c_L_end (l : Launch) (D : va_G) (cJ : ClassId) (o a : Nat) (c : Nat → Nat) (ac : Int32) (re : Int32) (kn : Int32) (f : Int) (g : Int) (b : Bool) (z : Int) (hf : 0 ≤ f ∧ f ≤ 5) (hg : 0 ≤ g ∧ g ≤ 5) (hz : 0 ≤ z ∧ z ≤ 5) (w9 : Nat) (n9 : Int64) (s9 : Value) : zL l yL_end 4 120 0 0 D cJ o a w9 [.ref o, .int (iZ (f)), .int (iZ (g)), .int (iZ (zB (b))), .int (iZ (z)), .ref w9] c [.int (ac), .int (re), .int (kn)] n9 s9 0 (aC c (z.toNat) (some (if b = true then mx (c f.toNat) (c g.toNat) else mn (c f.toNat) (c g.toNat)))) [.int (aA ac (some (if b = true then mx (c f.toNat) (c g.toNat) else mn (c f.toNat) (c g.toNat)))), .int (aF re (some (if b = true then mx (c f.toNat) (c g.toNat) else mn (c f.toNat) (c g.toNat)))), .int (kn)] ((iZ (aR c (z.toNat) (some (if b = true then mx (c f.toNat) (c g.toNat) else mn (c f.toNat) (c g.toNat)))))).toInt64 s9 := by
  refine zL.intro (lo := 94) (nA := 6) zw_L_end (by decide) rfl rfl (by decide +kernel) rfl (Nat.le_of_ble_eq_true rfl) ?_
  intro p e s m below meth c0 ls C9 hr9 hk9 ht9 hLi9 hS9 hl9
  have hl9 : lv_has ls 7 [(0, .ref o), (1, .int (iZ (f))), (2, .int (iZ (g))), (3, .int (iZ (zB (b)))), (4, .int (iZ (z))), (5, .ref w9)] := hl9
  refine lv_aload C9.1 C9.2.1 dL_end_0 (lv_at hl9 5 rfl) ?_
  refine lv_aload_n C9.1 C9.2.1 dL_end_2 rfl (lv_at hl9 0 rfl) ?_
  refine lv_iload_n C9.1 C9.2.1 dL_end_3 rfl (lv_at hl9 1 rfl) ?_
  refine lv_iload_n C9.1 C9.2.1 dL_end_4 rfl (lv_at hl9 2 rfl) ?_
  refine lv_iload_n C9.1 C9.2.1 dL_end_5 rfl (lv_at hl9 3 rfl) ?_
  refine lv_iload C9.1 C9.2.1 dL_end_6 (lv_at hl9 4 rfl) ?_
  refine zg_call (as := [.int (iZ (f)), .int (iZ (g)), .int (iZ (zB (b))), .int (iZ (z))]) C9 hLi9.1 hS9 (fun q h => Or.inr h) (c_X3_end l D cJ o a c ac re kn f g b z hf hg hz) ml_L_40 rfl (by decide) (by decide) hl9 (Nat.le_of_ble_eq_true rfl) rfl dL_end_8 (fun v9 H1 locs1 hv9 hAt1 hS1 hk1 hz1 => ?_)
  subst hv9
  refine lv_i2l C9.1 C9.2.1 dL_end_11 rfl ?_
  refine zw_putN C9 (hLi9.2.1.kept (hk1 w9 hLi9.2.1.lt (fun z => z.elim hLi9.2.2.1.1 hLi9.2.2.1.2))) hS1 (Or.inl rfl) hLi9.2.2.2.2.2.2.2.1 dL_end_12 (fun H2 locs2 hW2 hS2 hk2 hz2 => ?_)
  refine lv_goto (tgt := 22) C9.1 C9.2.1 dL_end_15 (by decide) ?_
  refine z_iconst C9 dL_end_22 ?_
  exact zl_ret C9 (hAt1.kept (hk2 o (Ne.symm hLi9.2.2.1.1)) (hk2 a (Ne.symm hLi9.2.2.1.2))) hW2 hS2 hr9 hk9 (Nat.le_of_ble_eq_true rfl) (Nat.le_of_ble_eq_true rfl) dL_end_23 rfl
set_option maxHeartbeats 4000000 in
set_option maxRecDepth 100000 in
theorem c_L_join (l : Launch) (D : va_G) (cJ : ClassId) (o a : Nat) (c : Nat → Nat) (ac : Int32) (re : Int32) (kn : Int32) (f : Int) (g : Int) (h : Int) (z : Int) (hf : 0 ≤ f ∧ f ≤ 5) (hg : 0 ≤ g ∧ g ≤ 5) (hh : 0 ≤ h ∧ h ≤ 3) (hz : 0 ≤ z ∧ z ≤ 5) (w9 : Nat) (n9 : Int64) (s9 : Value) : zL l yL_join 4 120 0 0 D cJ o a w9 [.ref o, .int (iZ (f)), .int (iZ (g)), .int (iZ (h)), .int (iZ (z)), .ref w9] c [.int (ac), .int (re), .int (kn)] n9 s9 0 (aC c (z.toNat) (some (jo (c f.toNat) (c g.toNat) h))) [.int (aA ac (some (jo (c f.toNat) (c g.toNat) h))), .int (aF re (some (jo (c f.toNat) (c g.toNat) h))), .int (kn)] ((iZ (aR c (z.toNat) (some (jo (c f.toNat) (c g.toNat) h))))).toInt64 s9 := by
  refine zL.intro (lo := 94) (nA := 6) zw_L_join (by decide) rfl rfl (by decide +kernel) rfl (Nat.le_of_ble_eq_true rfl) ?_
  intro p e s m below meth c0 ls C9 hr9 hk9 ht9 hLi9 hS9 hl9
  have hl9 : lv_has ls 7 [(0, .ref o), (1, .int (iZ (f))), (2, .int (iZ (g))), (3, .int (iZ (h))), (4, .int (iZ (z))), (5, .ref w9)] := hl9
  refine lv_aload C9.1 C9.2.1 dL_join_0 (lv_at hl9 5 rfl) ?_
  refine lv_aload_n C9.1 C9.2.1 dL_join_2 rfl (lv_at hl9 0 rfl) ?_
  refine lv_iload_n C9.1 C9.2.1 dL_join_3 rfl (lv_at hl9 1 rfl) ?_
  refine lv_iload_n C9.1 C9.2.1 dL_join_4 rfl (lv_at hl9 2 rfl) ?_
  refine lv_iload_n C9.1 C9.2.1 dL_join_5 rfl (lv_at hl9 3 rfl) ?_
  refine lv_iload C9.1 C9.2.1 dL_join_6 (lv_at hl9 4 rfl) ?_
  refine zg_call (as := [.int (iZ (f)), .int (iZ (g)), .int (iZ (h)), .int (iZ (z))]) C9 hLi9.1 hS9 (fun q h => Or.inr h) (c_X3_join l D cJ o a c ac re kn f g h z hf hg hh hz) ml_L_44 rfl (by decide) (by decide) hl9 (Nat.le_of_ble_eq_true rfl) rfl dL_join_8 (fun v9 H1 locs1 hv9 hAt1 hS1 hk1 hz1 => ?_)
  subst hv9
  refine lv_i2l C9.1 C9.2.1 dL_join_11 rfl ?_
  refine zw_putN C9 (hLi9.2.1.kept (hk1 w9 hLi9.2.1.lt (fun z => z.elim hLi9.2.2.1.1 hLi9.2.2.1.2))) hS1 (Or.inl rfl) hLi9.2.2.2.2.2.2.2.1 dL_join_12 (fun H2 locs2 hW2 hS2 hk2 hz2 => ?_)
  refine lv_goto (tgt := 26) C9.1 C9.2.1 dL_join_15 (by decide) ?_
  refine z_iconst C9 dL_join_26 ?_
  exact zl_ret C9 (hAt1.kept (hk2 o (Ne.symm hLi9.2.2.1.1)) (hk2 a (Ne.symm hLi9.2.2.1.2))) hW2 hS2 hr9 hk9 (Nat.le_of_ble_eq_true rfl) (Nat.le_of_ble_eq_true rfl) dL_join_27 rfl
set_option maxHeartbeats 4000000 in
set_option maxRecDepth 100000 in
theorem c_L_times (l : Launch) (D : va_G) (cJ : ClassId) (o a : Nat) (c : Nat → Nat) (ac : Int32) (re : Int32) (kn : Int32) (f : Int) (g : Int) (z : Int) (hf : 0 ≤ f ∧ f ≤ 5) (hg : 0 ≤ g ∧ g ≤ 5) (hz : 0 ≤ z ∧ z ≤ 5) (w9 : Nat) (n9 : Int64) (s9 : Value) : zL l yL_times 5 143 0 0 D cJ o a w9 [.ref o, .int (iZ (f)), .int (iZ (g)), .int (iZ (z)), .ref w9] c [.int (ac), .int (re), .int (kn)] n9 s9 0 (aC c (z.toNat) (wT (c f.toNat) (c g.toNat))) [.int (aA ac (wT (c f.toNat) (c g.toNat))), .int (aF re (wT (c f.toNat) (c g.toNat))), .int (kn)] ((iZ (aR c (z.toNat) (wT (c f.toNat) (c g.toNat))))).toInt64 s9 := by
  refine zL.intro (lo := 118) (nA := 5) zw_L_times (by decide) rfl rfl (by decide +kernel) rfl (Nat.le_of_ble_eq_true rfl) ?_
  intro p e s m below meth c0 ls C9 hr9 hk9 ht9 hLi9 hS9 hl9
  have hl9 : lv_has ls 6 [(0, .ref o), (1, .int (iZ (f))), (2, .int (iZ (g))), (3, .int (iZ (z))), (4, .ref w9)] := hl9
  refine lv_aload C9.1 C9.2.1 dL_times_0 (lv_at hl9 4 rfl) ?_
  refine lv_aload_n C9.1 C9.2.1 dL_times_2 rfl (lv_at hl9 0 rfl) ?_
  refine lv_iload_n C9.1 C9.2.1 dL_times_3 rfl (lv_at hl9 1 rfl) ?_
  refine lv_iload_n C9.1 C9.2.1 dL_times_4 rfl (lv_at hl9 2 rfl) ?_
  refine lv_iload_n C9.1 C9.2.1 dL_times_5 rfl (lv_at hl9 3 rfl) ?_
  refine zg_call (as := [.int (iZ (f)), .int (iZ (g)), .int (iZ (z))]) C9 hLi9.1 hS9 (fun q h => Or.inr h) (c_X3_times l D cJ o a c ac re kn f g z hf hg hz) ml_L_48 rfl (by decide) (by decide) hl9 (Nat.le_of_ble_eq_true rfl) rfl dL_times_6 (fun v9 H1 locs1 hv9 hAt1 hS1 hk1 hz1 => ?_)
  subst hv9
  refine lv_i2l C9.1 C9.2.1 dL_times_9 rfl ?_
  refine zw_putN C9 (hLi9.2.1.kept (hk1 w9 hLi9.2.1.lt (fun z => z.elim hLi9.2.2.1.1 hLi9.2.2.1.2))) hS1 (Or.inl rfl) hLi9.2.2.2.2.2.2.2.1 dL_times_10 (fun H2 locs2 hW2 hS2 hk2 hz2 => ?_)
  refine lv_goto (tgt := 20) C9.1 C9.2.1 dL_times_13 (by decide) ?_
  refine z_iconst C9 dL_times_20 ?_
  exact zl_ret C9 (hAt1.kept (hk2 o (Ne.symm hLi9.2.2.1.1)) (hk2 a (Ne.symm hLi9.2.2.1.2))) hW2 hS2 hr9 hk9 (Nat.le_of_ble_eq_true rfl) (Nat.le_of_ble_eq_true rfl) dL_times_21 rfl
set_option maxHeartbeats 4000000 in
set_option maxRecDepth 100000 in
theorem c_L_square (l : Launch) (D : va_G) (cJ : ClassId) (o a : Nat) (c : Nat → Nat) (ac : Int32) (re : Int32) (kn : Int32) (f : Int) (z : Int) (hf : 0 ≤ f ∧ f ≤ 5) (hz : 0 ≤ z ∧ z ≤ 5) (w9 : Nat) (n9 : Int64) (s9 : Value) : zL l yL_square 5 139 0 0 D cJ o a w9 [.ref o, .int (iZ (f)), .int (iZ (z)), .ref w9] c [.int (ac), .int (re), .int (kn)] n9 s9 0 (aC c (z.toNat) (wT (c f.toNat) (c f.toNat))) [.int (aA ac (wT (c f.toNat) (c f.toNat))), .int (aF re (wT (c f.toNat) (c f.toNat))), .int (kn)] ((iZ (aR c (z.toNat) (wT (c f.toNat) (c f.toNat))))).toInt64 s9 := by
  refine zL.intro (lo := 115) (nA := 4) zw_L_square (by decide) rfl rfl (by decide +kernel) rfl (Nat.le_of_ble_eq_true rfl) ?_
  intro p e s m below meth c0 ls C9 hr9 hk9 ht9 hLi9 hS9 hl9
  have hl9 : lv_has ls 5 [(0, .ref o), (1, .int (iZ (f))), (2, .int (iZ (z))), (3, .ref w9)] := hl9
  refine lv_aload_n C9.1 C9.2.1 dL_square_0 rfl (lv_at hl9 3 rfl) ?_
  refine lv_aload_n C9.1 C9.2.1 dL_square_1 rfl (lv_at hl9 0 rfl) ?_
  refine lv_iload_n C9.1 C9.2.1 dL_square_2 rfl (lv_at hl9 1 rfl) ?_
  refine lv_iload_n C9.1 C9.2.1 dL_square_3 rfl (lv_at hl9 2 rfl) ?_
  refine zg_call (as := [.int (iZ (f)), .int (iZ (z))]) C9 hLi9.1 hS9 (fun q h => Or.inr h) (c_X3_square l D cJ o a c ac re kn f z hf hz) ml_L_52 rfl (by decide) (by decide) hl9 (Nat.le_of_ble_eq_true rfl) rfl dL_square_4 (fun v9 H1 locs1 hv9 hAt1 hS1 hk1 hz1 => ?_)
  subst hv9
  refine lv_i2l C9.1 C9.2.1 dL_square_7 rfl ?_
  refine zw_putN C9 (hLi9.2.1.kept (hk1 w9 hLi9.2.1.lt (fun z => z.elim hLi9.2.2.1.1 hLi9.2.2.1.2))) hS1 (Or.inl rfl) hLi9.2.2.2.2.2.2.2.1 dL_square_8 (fun H2 locs2 hW2 hS2 hk2 hz2 => ?_)
  refine lv_goto (tgt := 18) C9.1 C9.2.1 dL_square_11 (by decide) ?_
  refine z_iconst C9 dL_square_18 ?_
  exact zl_ret C9 (hAt1.kept (hk2 o (Ne.symm hLi9.2.2.1.1)) (hk2 a (Ne.symm hLi9.2.2.1.2))) hW2 hS2 hr9 hk9 (Nat.le_of_ble_eq_true rfl) (Nat.le_of_ble_eq_true rfl) dL_square_19 rfl
set_option maxHeartbeats 4000000 in
set_option maxRecDepth 100000 in
theorem c_L_shift (l : Launch) (D : va_G) (cJ : ClassId) (o a : Nat) (c : Nat → Nat) (ac : Int32) (re : Int32) (kn : Int32) (f : Int) (g : Int) (z : Int) (hf : 0 ≤ f ∧ f ≤ 5) (hg : -32 ≤ g ∧ g ≤ 32) (hz : 0 ≤ z ∧ z ≤ 5) (w9 : Nat) (n9 : Int64) (s9 : Value) : zL l yL_shift 4 116 0 0 D cJ o a w9 [.ref o, .int (iZ (f)), .int (iZ (g)), .int (iZ (z)), .ref w9] c [.int (ac), .int (re), .int (kn)] n9 s9 0 (aC c (z.toNat) (wS (c f.toNat) g)) [.int (aA ac (wS (c f.toNat) g)), .int (aF re (wS (c f.toNat) g)), .int (kn)] ((iZ (aR c (z.toNat) (wS (c f.toNat) g)))).toInt64 s9 := by
  refine zL.intro (lo := 91) (nA := 5) zw_L_shift (by decide) rfl rfl (by decide +kernel) rfl (Nat.le_of_ble_eq_true rfl) ?_
  intro p e s m below meth c0 ls C9 hr9 hk9 ht9 hLi9 hS9 hl9
  have hl9 : lv_has ls 6 [(0, .ref o), (1, .int (iZ (f))), (2, .int (iZ (g))), (3, .int (iZ (z))), (4, .ref w9)] := hl9
  refine lv_aload C9.1 C9.2.1 dL_shift_0 (lv_at hl9 4 rfl) ?_
  refine lv_aload_n C9.1 C9.2.1 dL_shift_2 rfl (lv_at hl9 0 rfl) ?_
  refine lv_iload_n C9.1 C9.2.1 dL_shift_3 rfl (lv_at hl9 1 rfl) ?_
  refine lv_iload_n C9.1 C9.2.1 dL_shift_4 rfl (lv_at hl9 2 rfl) ?_
  refine lv_iload_n C9.1 C9.2.1 dL_shift_5 rfl (lv_at hl9 3 rfl) ?_
  refine zg_call (as := [.int (iZ (f)), .int (iZ (g)), .int (iZ (z))]) C9 hLi9.1 hS9 (fun q h => Or.inr h) (c_X3_shift l D cJ o a c ac re kn f g z hf hg hz) ml_L_55 rfl (by decide) (by decide) hl9 (Nat.le_of_ble_eq_true rfl) rfl dL_shift_6 (fun v9 H1 locs1 hv9 hAt1 hS1 hk1 hz1 => ?_)
  subst hv9
  refine lv_i2l C9.1 C9.2.1 dL_shift_9 rfl ?_
  refine zw_putN C9 (hLi9.2.1.kept (hk1 w9 hLi9.2.1.lt (fun z => z.elim hLi9.2.2.1.1 hLi9.2.2.1.2))) hS1 (Or.inl rfl) hLi9.2.2.2.2.2.2.2.1 dL_shift_10 (fun H2 locs2 hW2 hS2 hk2 hz2 => ?_)
  refine lv_goto (tgt := 24) C9.1 C9.2.1 dL_shift_13 (by decide) ?_
  refine z_iconst C9 dL_shift_24 ?_
  exact zl_ret C9 (hAt1.kept (hk2 o (Ne.symm hLi9.2.2.1.1)) (hk2 a (Ne.symm hLi9.2.2.1.2))) hW2 hS2 hr9 hk9 (Nat.le_of_ble_eq_true rfl) (Nat.le_of_ble_eq_true rfl) dL_shift_25 rfl
set_option maxHeartbeats 4000000 in
set_option maxRecDepth 100000 in
theorem c_L_quotient (l : Launch) (D : va_G) (cJ : ClassId) (o a : Nat) (c : Nat → Nat) (ac : Int32) (re : Int32) (kn : Int32) (f : Int) (g : Int) (z : Int) (hf : 0 ≤ f ∧ f ≤ 5) (hg : 0 ≤ g ∧ g ≤ 5) (hz : 0 ≤ z ∧ z ≤ 5) (w9 : Nat) (n9 : Int64) (s9 : Value) : zL l yL_quotient 4 118 0 0 D cJ o a w9 [.ref o, .int (iZ (f)), .int (iZ (g)), .int (iZ (z)), .ref w9] c [.int (ac), .int (re), .int (kn)] n9 s9 0 (aC c (z.toNat) (wQ (c f.toNat) (c g.toNat))) [.int (aA ac (wQ (c f.toNat) (c g.toNat))), .int (aF re (wQ (c f.toNat) (c g.toNat))), .int (kn)] ((iZ (aR c (z.toNat) (wQ (c f.toNat) (c g.toNat))))).toInt64 s9 := by
  refine zL.intro (lo := 93) (nA := 5) zw_L_quotient (by decide) rfl rfl (by decide +kernel) rfl (Nat.le_of_ble_eq_true rfl) ?_
  intro p e s m below meth c0 ls C9 hr9 hk9 ht9 hLi9 hS9 hl9
  have hl9 : lv_has ls 6 [(0, .ref o), (1, .int (iZ (f))), (2, .int (iZ (g))), (3, .int (iZ (z))), (4, .ref w9)] := hl9
  refine lv_aload C9.1 C9.2.1 dL_quotient_0 (lv_at hl9 4 rfl) ?_
  refine lv_aload_n C9.1 C9.2.1 dL_quotient_2 rfl (lv_at hl9 0 rfl) ?_
  refine lv_iload_n C9.1 C9.2.1 dL_quotient_3 rfl (lv_at hl9 1 rfl) ?_
  refine lv_iload_n C9.1 C9.2.1 dL_quotient_4 rfl (lv_at hl9 2 rfl) ?_
  refine lv_iload_n C9.1 C9.2.1 dL_quotient_5 rfl (lv_at hl9 3 rfl) ?_
  refine zg_call (as := [.int (iZ (f)), .int (iZ (g)), .int (iZ (z))]) C9 hLi9.1 hS9 (fun q h => Or.inr h) (c_X3_quotient l D cJ o a c ac re kn f g z hf hg hz) ml_L_58 rfl (by decide) (by decide) hl9 (Nat.le_of_ble_eq_true rfl) rfl dL_quotient_6 (fun v9 H1 locs1 hv9 hAt1 hS1 hk1 hz1 => ?_)
  subst hv9
  refine lv_i2l C9.1 C9.2.1 dL_quotient_9 rfl ?_
  refine zw_putN C9 (hLi9.2.1.kept (hk1 w9 hLi9.2.1.lt (fun z => z.elim hLi9.2.2.1.1 hLi9.2.2.1.2))) hS1 (Or.inl rfl) hLi9.2.2.2.2.2.2.2.1 dL_quotient_10 (fun H2 locs2 hW2 hS2 hk2 hz2 => ?_)
  refine lv_goto (tgt := 20) C9.1 C9.2.1 dL_quotient_13 (by decide) ?_
  refine z_iconst C9 dL_quotient_20 ?_
  exact zl_ret C9 (hAt1.kept (hk2 o (Ne.symm hLi9.2.2.1.1)) (hk2 a (Ne.symm hLi9.2.2.1.2))) hW2 hS2 hr9 hk9 (Nat.le_of_ble_eq_true rfl) (Nat.le_of_ble_eq_true rfl) dL_quotient_21 rfl
set_option maxHeartbeats 4000000 in
set_option maxRecDepth 100000 in
theorem c_L_rest (l : Launch) (D : va_G) (cJ : ClassId) (o a : Nat) (c : Nat → Nat) (ac : Int32) (re : Int32) (kn : Int32) (f : Int) (g : Int) (z : Int) (hf : 0 ≤ f ∧ f ≤ 5) (hg : 0 ≤ g ∧ g ≤ 5) (hz : 0 ≤ z ∧ z ≤ 5) (w9 : Nat) (n9 : Int64) (s9 : Value) : zL l yL_rest 4 127 0 0 D cJ o a w9 [.ref o, .int (iZ (f)), .int (iZ (g)), .int (iZ (z)), .ref w9] c [.int (ac), .int (re), .int (kn)] n9 s9 0 (aC c (z.toNat) (wM (c f.toNat) (c g.toNat))) [.int (aA ac (wM (c f.toNat) (c g.toNat))), .int (aF re (wM (c f.toNat) (c g.toNat))), .int (kn)] ((iZ (aR c (z.toNat) (wM (c f.toNat) (c g.toNat))))).toInt64 s9 := by
  refine zL.intro (lo := 102) (nA := 5) zw_L_rest (by decide) rfl rfl (by decide +kernel) rfl (Nat.le_of_ble_eq_true rfl) ?_
  intro p e s m below meth c0 ls C9 hr9 hk9 ht9 hLi9 hS9 hl9
  have hl9 : lv_has ls 6 [(0, .ref o), (1, .int (iZ (f))), (2, .int (iZ (g))), (3, .int (iZ (z))), (4, .ref w9)] := hl9
  refine lv_aload C9.1 C9.2.1 dL_rest_0 (lv_at hl9 4 rfl) ?_
  refine lv_aload_n C9.1 C9.2.1 dL_rest_2 rfl (lv_at hl9 0 rfl) ?_
  refine lv_iload_n C9.1 C9.2.1 dL_rest_3 rfl (lv_at hl9 1 rfl) ?_
  refine lv_iload_n C9.1 C9.2.1 dL_rest_4 rfl (lv_at hl9 2 rfl) ?_
  refine lv_iload_n C9.1 C9.2.1 dL_rest_5 rfl (lv_at hl9 3 rfl) ?_
  refine zg_call (as := [.int (iZ (f)), .int (iZ (g)), .int (iZ (z))]) C9 hLi9.1 hS9 (fun q h => Or.inr h) (c_X3_rest l D cJ o a c ac re kn f g z hf hg hz) ml_L_61 rfl (by decide) (by decide) hl9 (Nat.le_of_ble_eq_true rfl) rfl dL_rest_6 (fun v9 H1 locs1 hv9 hAt1 hS1 hk1 hz1 => ?_)
  subst hv9
  refine lv_i2l C9.1 C9.2.1 dL_rest_9 rfl ?_
  refine zw_putN C9 (hLi9.2.1.kept (hk1 w9 hLi9.2.1.lt (fun z => z.elim hLi9.2.2.1.1 hLi9.2.2.1.2))) hS1 (Or.inl rfl) hLi9.2.2.2.2.2.2.2.1 dL_rest_10 (fun H2 locs2 hW2 hS2 hk2 hz2 => ?_)
  refine lv_goto (tgt := 20) C9.1 C9.2.1 dL_rest_13 (by decide) ?_
  refine z_iconst C9 dL_rest_20 ?_
  exact zl_ret C9 (hAt1.kept (hk2 o (Ne.symm hLi9.2.2.1.1)) (hk2 a (Ne.symm hLi9.2.2.1.2))) hW2 hS2 hr9 hk9 (Nat.le_of_ble_eq_true rfl) (Nat.le_of_ble_eq_true rfl) dL_rest_21 rfl
set_option maxHeartbeats 4000000 in
set_option maxRecDepth 100000 in
theorem c_L_gcd (l : Launch) (D : va_G) (cJ : ClassId) (o a : Nat) (c : Nat → Nat) (ac : Int32) (re : Int32) (kn : Int32) (f : Int) (g : Int) (z : Int) (hf : 0 ≤ f ∧ f ≤ 5) (hg : 0 ≤ g ∧ g ≤ 5) (hz : 0 ≤ z ∧ z ≤ 5) (w9 : Nat) (n9 : Int64) (s9 : Value) : zL l yL_gcd 5 169 0 0 D cJ o a w9 [.ref o, .int (iZ (f)), .int (iZ (g)), .int (iZ (z)), .ref w9] c [.int (ac), .int (re), .int (kn)] n9 s9 0 (aC c (z.toNat) (some (eu (c f.toNat) (c g.toNat) (c f.toNat) (c g.toNat)))) [.int (aA ac (some (eu (c f.toNat) (c g.toNat) (c f.toNat) (c g.toNat)))), .int (aF re (some (eu (c f.toNat) (c g.toNat) (c f.toNat) (c g.toNat)))), .int (kn)] ((iZ (aR c (z.toNat) (some (eu (c f.toNat) (c g.toNat) (c f.toNat) (c g.toNat)))))).toInt64 s9 := by
  refine zL.intro (lo := 144) (nA := 5) zw_L_gcd (by decide) rfl rfl (by decide +kernel) rfl (Nat.le_of_ble_eq_true rfl) ?_
  intro p e s m below meth c0 ls C9 hr9 hk9 ht9 hLi9 hS9 hl9
  have hl9 : lv_has ls 6 [(0, .ref o), (1, .int (iZ (f))), (2, .int (iZ (g))), (3, .int (iZ (z))), (4, .ref w9)] := hl9
  refine lv_aload C9.1 C9.2.1 dL_gcd_0 (lv_at hl9 4 rfl) ?_
  refine lv_aload_n C9.1 C9.2.1 dL_gcd_2 rfl (lv_at hl9 0 rfl) ?_
  refine lv_iload_n C9.1 C9.2.1 dL_gcd_3 rfl (lv_at hl9 1 rfl) ?_
  refine lv_iload_n C9.1 C9.2.1 dL_gcd_4 rfl (lv_at hl9 2 rfl) ?_
  refine lv_iload_n C9.1 C9.2.1 dL_gcd_5 rfl (lv_at hl9 3 rfl) ?_
  refine zg_call (as := [.int (iZ (f)), .int (iZ (g)), .int (iZ (z))]) C9 hLi9.1 hS9 (fun q h => Or.inr h) (c_X3_gcd l D cJ o a c ac re kn f g z hf hg hz) ml_L_64 rfl (by decide) (by decide) hl9 (Nat.le_of_ble_eq_true rfl) rfl dL_gcd_6 (fun v9 H1 locs1 hv9 hAt1 hS1 hk1 hz1 => ?_)
  subst hv9
  refine lv_i2l C9.1 C9.2.1 dL_gcd_9 rfl ?_
  refine zw_putN C9 (hLi9.2.1.kept (hk1 w9 hLi9.2.1.lt (fun z => z.elim hLi9.2.2.1.1 hLi9.2.2.1.2))) hS1 (Or.inl rfl) hLi9.2.2.2.2.2.2.2.1 dL_gcd_10 (fun H2 locs2 hW2 hS2 hk2 hz2 => ?_)
  refine lv_goto (tgt := 20) C9.1 C9.2.1 dL_gcd_13 (by decide) ?_
  refine z_iconst C9 dL_gcd_20 ?_
  exact zl_ret C9 (hAt1.kept (hk2 o (Ne.symm hLi9.2.2.1.1)) (hk2 a (Ne.symm hLi9.2.2.1.2))) hW2 hS2 hr9 hk9 (Nat.le_of_ble_eq_true rfl) (Nat.le_of_ble_eq_true rfl) dL_gcd_21 rfl
set_option maxHeartbeats 4000000 in
set_option maxRecDepth 100000 in
theorem c_L_lcm (l : Launch) (D : va_G) (cJ : ClassId) (o a : Nat) (c : Nat → Nat) (ac : Int32) (re : Int32) (kn : Int32) (f : Int) (g : Int) (z : Int) (hf : 0 ≤ f ∧ f ≤ 5) (hg : 0 ≤ g ∧ g ≤ 5) (hz : 0 ≤ z ∧ z ≤ 5) (w9 : Nat) (n9 : Int64) (s9 : Value) : zL l yL_lcm 5 169 0 0 D cJ o a w9 [.ref o, .int (iZ (f)), .int (iZ (g)), .int (iZ (z)), .ref w9] c [.int (ac), .int (re), .int (kn)] n9 s9 0 (aC c (z.toNat) (wT (c f.toNat) (qo (c g.toNat) (eu (c f.toNat) (c g.toNat) (c f.toNat) (c g.toNat))))) [.int (aA ac (wT (c f.toNat) (qo (c g.toNat) (eu (c f.toNat) (c g.toNat) (c f.toNat) (c g.toNat))))), .int (aF re (wT (c f.toNat) (qo (c g.toNat) (eu (c f.toNat) (c g.toNat) (c f.toNat) (c g.toNat))))), .int (kn)] ((iZ (aR c (z.toNat) (wT (c f.toNat) (qo (c g.toNat) (eu (c f.toNat) (c g.toNat) (c f.toNat) (c g.toNat))))))).toInt64 s9 := by
  refine zL.intro (lo := 144) (nA := 5) zw_L_lcm (by decide) rfl rfl (by decide +kernel) rfl (Nat.le_of_ble_eq_true rfl) ?_
  intro p e s m below meth c0 ls C9 hr9 hk9 ht9 hLi9 hS9 hl9
  have hl9 : lv_has ls 6 [(0, .ref o), (1, .int (iZ (f))), (2, .int (iZ (g))), (3, .int (iZ (z))), (4, .ref w9)] := hl9
  refine lv_aload C9.1 C9.2.1 dL_lcm_0 (lv_at hl9 4 rfl) ?_
  refine lv_aload_n C9.1 C9.2.1 dL_lcm_2 rfl (lv_at hl9 0 rfl) ?_
  refine lv_iload_n C9.1 C9.2.1 dL_lcm_3 rfl (lv_at hl9 1 rfl) ?_
  refine lv_iload_n C9.1 C9.2.1 dL_lcm_4 rfl (lv_at hl9 2 rfl) ?_
  refine lv_iload_n C9.1 C9.2.1 dL_lcm_5 rfl (lv_at hl9 3 rfl) ?_
  refine zg_call (as := [.int (iZ (f)), .int (iZ (g)), .int (iZ (z))]) C9 hLi9.1 hS9 (fun q h => Or.inr h) (c_X3_lcm l D cJ o a c ac re kn f g z hf hg hz) ml_L_67 rfl (by decide) (by decide) hl9 (Nat.le_of_ble_eq_true rfl) rfl dL_lcm_6 (fun v9 H1 locs1 hv9 hAt1 hS1 hk1 hz1 => ?_)
  subst hv9
  refine lv_i2l C9.1 C9.2.1 dL_lcm_9 rfl ?_
  refine zw_putN C9 (hLi9.2.1.kept (hk1 w9 hLi9.2.1.lt (fun z => z.elim hLi9.2.2.1.1 hLi9.2.2.1.2))) hS1 (Or.inl rfl) hLi9.2.2.2.2.2.2.2.1 dL_lcm_10 (fun H2 locs2 hW2 hS2 hk2 hz2 => ?_)
  refine lv_goto (tgt := 20) C9.1 C9.2.1 dL_lcm_13 (by decide) ?_
  refine z_iconst C9 dL_lcm_20 ?_
  exact zl_ret C9 (hAt1.kept (hk2 o (Ne.symm hLi9.2.2.1.1)) (hk2 a (Ne.symm hLi9.2.2.1.2))) hW2 hS2 hr9 hk9 (Nat.le_of_ble_eq_true rfl) (Nat.le_of_ble_eq_true rfl) dL_lcm_21 rfl
set_option maxHeartbeats 4000000 in
set_option maxRecDepth 100000 in
theorem c_L_bezout (l : Launch) (D : va_G) (cJ : ClassId) (o a : Nat) (c : Nat → Nat) (ac : Int32) (re : Int32) (kn : Int32) (f : Int) (g : Int) (b : Bool) (z : Int) (hf : 0 ≤ f ∧ f ≤ 5) (hg : 0 ≤ g ∧ g ≤ 5) (hz : 0 ≤ z ∧ z ≤ 5) (w9 : Nat) (n9 : Int64) (s9 : Value) : zL l yL_bezout 5 171 0 0 D cJ o a w9 [.ref o, .int (iZ (f)), .int (iZ (g)), .int (iZ (zB (b))), .int (iZ (z)), .ref w9] c [.int (ac), .int (re), .int (kn)] n9 s9 0 (aC c (z.toNat) (some (if b = true then eu (c f.toNat) (c g.toNat) 1 0 else eu (c f.toNat) (c g.toNat) 0 1))) [.int (aA ac (some (if b = true then eu (c f.toNat) (c g.toNat) 1 0 else eu (c f.toNat) (c g.toNat) 0 1))), .int (aF re (some (if b = true then eu (c f.toNat) (c g.toNat) 1 0 else eu (c f.toNat) (c g.toNat) 0 1))), .int (kn)] ((iZ (aR c (z.toNat) (some (if b = true then eu (c f.toNat) (c g.toNat) 1 0 else eu (c f.toNat) (c g.toNat) 0 1))))).toInt64 s9 := by
  refine zL.intro (lo := 145) (nA := 6) zw_L_bezout (by decide) rfl rfl (by decide +kernel) rfl (Nat.le_of_ble_eq_true rfl) ?_
  intro p e s m below meth c0 ls C9 hr9 hk9 ht9 hLi9 hS9 hl9
  have hl9 : lv_has ls 7 [(0, .ref o), (1, .int (iZ (f))), (2, .int (iZ (g))), (3, .int (iZ (zB (b)))), (4, .int (iZ (z))), (5, .ref w9)] := hl9
  refine lv_aload C9.1 C9.2.1 dL_bezout_0 (lv_at hl9 5 rfl) ?_
  refine lv_aload_n C9.1 C9.2.1 dL_bezout_2 rfl (lv_at hl9 0 rfl) ?_
  refine lv_iload_n C9.1 C9.2.1 dL_bezout_3 rfl (lv_at hl9 1 rfl) ?_
  refine lv_iload_n C9.1 C9.2.1 dL_bezout_4 rfl (lv_at hl9 2 rfl) ?_
  refine lv_iload_n C9.1 C9.2.1 dL_bezout_5 rfl (lv_at hl9 3 rfl) ?_
  refine lv_iload C9.1 C9.2.1 dL_bezout_6 (lv_at hl9 4 rfl) ?_
  refine zg_call (as := [.int (iZ (f)), .int (iZ (g)), .int (iZ (zB (b))), .int (iZ (z))]) C9 hLi9.1 hS9 (fun q h => Or.inr h) (c_X3_bezout l D cJ o a c ac re kn f g b z hf hg hz) ml_L_70 rfl (by decide) (by decide) hl9 (Nat.le_of_ble_eq_true rfl) rfl dL_bezout_8 (fun v9 H1 locs1 hv9 hAt1 hS1 hk1 hz1 => ?_)
  subst hv9
  refine lv_i2l C9.1 C9.2.1 dL_bezout_11 rfl ?_
  refine zw_putN C9 (hLi9.2.1.kept (hk1 w9 hLi9.2.1.lt (fun z => z.elim hLi9.2.2.1.1 hLi9.2.2.1.2))) hS1 (Or.inl rfl) hLi9.2.2.2.2.2.2.2.1 dL_bezout_12 (fun H2 locs2 hW2 hS2 hk2 hz2 => ?_)
  refine lv_goto (tgt := 22) C9.1 C9.2.1 dL_bezout_15 (by decide) ?_
  refine z_iconst C9 dL_bezout_22 ?_
  exact zl_ret C9 (hAt1.kept (hk2 o (Ne.symm hLi9.2.2.1.1)) (hk2 a (Ne.symm hLi9.2.2.1.2))) hW2 hS2 hr9 hk9 (Nat.le_of_ble_eq_true rfl) (Nat.le_of_ble_eq_true rfl) dL_bezout_23 rfl
set_option maxHeartbeats 4000000 in
set_option maxRecDepth 100000 in
theorem c_L_derive (l : Launch) (D : va_G) (cJ : ClassId) (o a : Nat) (c : Nat → Nat) (ac : Int32) (re : Int32) (kn : Int32) (f : Int) (z : Int) (hf : 0 ≤ f ∧ f ≤ 5) (hz : 0 ≤ z ∧ z ≤ 5) (w9 : Nat) (n9 : Int64) (s9 : Value) : zL l yL_derive 4 114 0 0 D cJ o a w9 [.ref o, .int (iZ (f)), .int (iZ (z)), .ref w9] c [.int (ac), .int (re), .int (kn)] n9 s9 0 (aC c (z.toNat) (some (dv (c f.toNat)))) [.int (aA ac (some (dv (c f.toNat)))), .int (aF re (some (dv (c f.toNat)))), .int (kn)] ((iZ (aR c (z.toNat) (some (dv (c f.toNat)))))).toInt64 s9 := by
  refine zL.intro (lo := 90) (nA := 4) zw_L_derive (by decide) rfl rfl (by decide +kernel) rfl (Nat.le_of_ble_eq_true rfl) ?_
  intro p e s m below meth c0 ls C9 hr9 hk9 ht9 hLi9 hS9 hl9
  have hl9 : lv_has ls 5 [(0, .ref o), (1, .int (iZ (f))), (2, .int (iZ (z))), (3, .ref w9)] := hl9
  refine lv_aload_n C9.1 C9.2.1 dL_derive_0 rfl (lv_at hl9 3 rfl) ?_
  refine lv_aload_n C9.1 C9.2.1 dL_derive_1 rfl (lv_at hl9 0 rfl) ?_
  refine lv_iload_n C9.1 C9.2.1 dL_derive_2 rfl (lv_at hl9 1 rfl) ?_
  refine lv_iload_n C9.1 C9.2.1 dL_derive_3 rfl (lv_at hl9 2 rfl) ?_
  refine zg_call (as := [.int (iZ (f)), .int (iZ (z))]) C9 hLi9.1 hS9 (fun q h => Or.inr h) (c_X3_derive l D cJ o a c ac re kn f z hf hz) ml_L_73 rfl (by decide) (by decide) hl9 (Nat.le_of_ble_eq_true rfl) rfl dL_derive_4 (fun v9 H1 locs1 hv9 hAt1 hS1 hk1 hz1 => ?_)
  subst hv9
  refine lv_i2l C9.1 C9.2.1 dL_derive_7 rfl ?_
  refine zw_putN C9 (hLi9.2.1.kept (hk1 w9 hLi9.2.1.lt (fun z => z.elim hLi9.2.2.1.1 hLi9.2.2.1.2))) hS1 (Or.inl rfl) hLi9.2.2.2.2.2.2.2.1 dL_derive_8 (fun H2 locs2 hW2 hS2 hk2 hz2 => ?_)
  refine lv_goto (tgt := 18) C9.1 C9.2.1 dL_derive_11 (by decide) ?_
  refine z_iconst C9 dL_derive_18 ?_
  exact zl_ret C9 (hAt1.kept (hk2 o (Ne.symm hLi9.2.2.1.1)) (hk2 a (Ne.symm hLi9.2.2.1.2))) hW2 hS2 hr9 hk9 (Nat.le_of_ble_eq_true rfl) (Nat.le_of_ble_eq_true rfl) dL_derive_19 rfl
set_option maxHeartbeats 4000000 in
set_option maxRecDepth 100000 in
theorem c_L_root (l : Launch) (D : va_G) (cJ : ClassId) (o a : Nat) (c : Nat → Nat) (ac : Int32) (re : Int32) (kn : Int32) (f : Int) (z : Int) (hf : 0 ≤ f ∧ f ≤ 5) (hz : 0 ≤ z ∧ z ≤ 5) (w9 : Nat) (n9 : Int64) (s9 : Value) : zL l yL_root 4 114 0 0 D cJ o a w9 [.ref o, .int (iZ (f)), .int (iZ (z)), .ref w9] c [.int (ac), .int (re), .int (kn)] n9 s9 0 (aC c (z.toNat) (wE (c f.toNat))) [.int (aA ac (wE (c f.toNat))), .int (aF re (wE (c f.toNat))), .int (kn)] ((iZ (aR c (z.toNat) (wE (c f.toNat))))).toInt64 s9 := by
  refine zL.intro (lo := 90) (nA := 4) zw_L_root (by decide) rfl rfl (by decide +kernel) rfl (Nat.le_of_ble_eq_true rfl) ?_
  intro p e s m below meth c0 ls C9 hr9 hk9 ht9 hLi9 hS9 hl9
  have hl9 : lv_has ls 5 [(0, .ref o), (1, .int (iZ (f))), (2, .int (iZ (z))), (3, .ref w9)] := hl9
  refine lv_aload_n C9.1 C9.2.1 dL_root_0 rfl (lv_at hl9 3 rfl) ?_
  refine lv_aload_n C9.1 C9.2.1 dL_root_1 rfl (lv_at hl9 0 rfl) ?_
  refine lv_iload_n C9.1 C9.2.1 dL_root_2 rfl (lv_at hl9 1 rfl) ?_
  refine lv_iload_n C9.1 C9.2.1 dL_root_3 rfl (lv_at hl9 2 rfl) ?_
  refine zg_call (as := [.int (iZ (f)), .int (iZ (z))]) C9 hLi9.1 hS9 (fun q h => Or.inr h) (c_X3_root l D cJ o a c ac re kn f z hf hz) ml_L_76 rfl (by decide) (by decide) hl9 (Nat.le_of_ble_eq_true rfl) rfl dL_root_4 (fun v9 H1 locs1 hv9 hAt1 hS1 hk1 hz1 => ?_)
  subst hv9
  refine lv_i2l C9.1 C9.2.1 dL_root_7 rfl ?_
  refine zw_putN C9 (hLi9.2.1.kept (hk1 w9 hLi9.2.1.lt (fun z => z.elim hLi9.2.2.1.1 hLi9.2.2.1.2))) hS1 (Or.inl rfl) hLi9.2.2.2.2.2.2.2.1 dL_root_8 (fun H2 locs2 hW2 hS2 hk2 hz2 => ?_)
  refine lv_goto (tgt := 18) C9.1 C9.2.1 dL_root_11 (by decide) ?_
  refine z_iconst C9 dL_root_18 ?_
  exact zl_ret C9 (hAt1.kept (hk2 o (Ne.symm hLi9.2.2.1.1)) (hk2 a (Ne.symm hLi9.2.2.1.2))) hW2 hS2 hr9 hk9 (Nat.le_of_ble_eq_true rfl) (Nat.le_of_ble_eq_true rfl) dL_root_19 rfl
set_option maxHeartbeats 4000000 in
set_option maxRecDepth 100000 in
theorem c_L_turn (l : Launch) (D : va_G) (cJ : ClassId) (o a : Nat) (c : Nat → Nat) (ac : Int32) (re : Int32) (kn : Int32) (f : Int) (z : Int) (hf : 0 ≤ f ∧ f ≤ 5) (hz : 0 ≤ z ∧ z ≤ 5) (w9 : Nat) (n9 : Int64) (s9 : Value) : zL l yL_turn 4 114 0 0 D cJ o a w9 [.ref o, .int (iZ (f)), .int (iZ (z)), .ref w9] c [.int (ac), .int (re), .int (kn)] n9 s9 0 (aC c (z.toNat) (some (tu (c f.toNat)))) [.int (aA ac (some (tu (c f.toNat)))), .int (aF re (some (tu (c f.toNat)))), .int (kn)] ((iZ (aR c (z.toNat) (some (tu (c f.toNat)))))).toInt64 s9 := by
  refine zL.intro (lo := 90) (nA := 4) zw_L_turn (by decide) rfl rfl (by decide +kernel) rfl (Nat.le_of_ble_eq_true rfl) ?_
  intro p e s m below meth c0 ls C9 hr9 hk9 ht9 hLi9 hS9 hl9
  have hl9 : lv_has ls 5 [(0, .ref o), (1, .int (iZ (f))), (2, .int (iZ (z))), (3, .ref w9)] := hl9
  refine lv_aload_n C9.1 C9.2.1 dL_turn_0 rfl (lv_at hl9 3 rfl) ?_
  refine lv_aload_n C9.1 C9.2.1 dL_turn_1 rfl (lv_at hl9 0 rfl) ?_
  refine lv_iload_n C9.1 C9.2.1 dL_turn_2 rfl (lv_at hl9 1 rfl) ?_
  refine lv_iload_n C9.1 C9.2.1 dL_turn_3 rfl (lv_at hl9 2 rfl) ?_
  refine zg_call (as := [.int (iZ (f)), .int (iZ (z))]) C9 hLi9.1 hS9 (fun q h => Or.inr h) (c_X3_turn l D cJ o a c ac re kn f z hf hz) ml_L_79 rfl (by decide) (by decide) hl9 (Nat.le_of_ble_eq_true rfl) rfl dL_turn_4 (fun v9 H1 locs1 hv9 hAt1 hS1 hk1 hz1 => ?_)
  subst hv9
  refine lv_i2l C9.1 C9.2.1 dL_turn_7 rfl ?_
  refine zw_putN C9 (hLi9.2.1.kept (hk1 w9 hLi9.2.1.lt (fun z => z.elim hLi9.2.2.1.1 hLi9.2.2.1.2))) hS1 (Or.inl rfl) hLi9.2.2.2.2.2.2.2.1 dL_turn_8 (fun H2 locs2 hW2 hS2 hk2 hz2 => ?_)
  refine lv_goto (tgt := 18) C9.1 C9.2.1 dL_turn_11 (by decide) ?_
  refine z_iconst C9 dL_turn_18 ?_
  exact zl_ret C9 (hAt1.kept (hk2 o (Ne.symm hLi9.2.2.1.1)) (hk2 a (Ne.symm hLi9.2.2.1.2))) hW2 hS2 hr9 hk9 (Nat.le_of_ble_eq_true rfl) (Nat.le_of_ble_eq_true rfl) dL_turn_19 rfl
set_option maxHeartbeats 4000000 in
set_option maxRecDepth 100000 in
theorem c_L_move (l : Launch) (D : va_G) (cJ : ClassId) (o a : Nat) (c : Nat → Nat) (ac : Int32) (re : Int32) (kn : Int32) (f : Int) (z : Int) (hf : 0 ≤ f ∧ f ≤ 5) (hz : 0 ≤ z ∧ z ≤ 5) (w9 : Nat) (n9 : Int64) (s9 : Value) : zL l yL_move 4 114 0 0 D cJ o a w9 [.ref o, .int (iZ (f)), .int (iZ (z)), .ref w9] c [.int (ac), .int (re), .int (kn)] n9 s9 0 (aC c (z.toNat) (some (mv (c f.toNat)))) [.int (aA ac (some (mv (c f.toNat)))), .int (aF re (some (mv (c f.toNat)))), .int (kn)] ((iZ (aR c (z.toNat) (some (mv (c f.toNat)))))).toInt64 s9 := by
  refine zL.intro (lo := 90) (nA := 4) zw_L_move (by decide) rfl rfl (by decide +kernel) rfl (Nat.le_of_ble_eq_true rfl) ?_
  intro p e s m below meth c0 ls C9 hr9 hk9 ht9 hLi9 hS9 hl9
  have hl9 : lv_has ls 5 [(0, .ref o), (1, .int (iZ (f))), (2, .int (iZ (z))), (3, .ref w9)] := hl9
  refine lv_aload_n C9.1 C9.2.1 dL_move_0 rfl (lv_at hl9 3 rfl) ?_
  refine lv_aload_n C9.1 C9.2.1 dL_move_1 rfl (lv_at hl9 0 rfl) ?_
  refine lv_iload_n C9.1 C9.2.1 dL_move_2 rfl (lv_at hl9 1 rfl) ?_
  refine lv_iload_n C9.1 C9.2.1 dL_move_3 rfl (lv_at hl9 2 rfl) ?_
  refine zg_call (as := [.int (iZ (f)), .int (iZ (z))]) C9 hLi9.1 hS9 (fun q h => Or.inr h) (c_X3_move l D cJ o a c ac re kn f z hf hz) ml_L_82 rfl (by decide) (by decide) hl9 (Nat.le_of_ble_eq_true rfl) rfl dL_move_4 (fun v9 H1 locs1 hv9 hAt1 hS1 hk1 hz1 => ?_)
  subst hv9
  refine lv_i2l C9.1 C9.2.1 dL_move_7 rfl ?_
  refine zw_putN C9 (hLi9.2.1.kept (hk1 w9 hLi9.2.1.lt (fun z => z.elim hLi9.2.2.1.1 hLi9.2.2.1.2))) hS1 (Or.inl rfl) hLi9.2.2.2.2.2.2.2.1 dL_move_8 (fun H2 locs2 hW2 hS2 hk2 hz2 => ?_)
  refine lv_goto (tgt := 18) C9.1 C9.2.1 dL_move_11 (by decide) ?_
  refine z_iconst C9 dL_move_18 ?_
  exact zl_ret C9 (hAt1.kept (hk2 o (Ne.symm hLi9.2.2.1.1)) (hk2 a (Ne.symm hLi9.2.2.1.2))) hW2 hS2 hr9 hk9 (Nat.le_of_ble_eq_true rfl) (Nat.le_of_ble_eq_true rfl) dL_move_19 rfl
set_option maxHeartbeats 4000000 in
set_option maxRecDepth 100000 in
theorem c_L_power (l : Launch) (D : va_G) (cJ : ClassId) (o a : Nat) (c : Nat → Nat) (ac : Int32) (re : Int32) (kn : Int32) (f : Int) (t : Int) (g : Int) (z : Int) (hf : 0 ≤ f ∧ f ≤ 5) (ht : 0 ≤ t ∧ t ≤ 255) (hg : 0 ≤ g ∧ g ≤ 5) (hz : 0 ≤ z ∧ z ≤ 5) (w9 : Nat) (n9 : Int64) (s9 : Value) : zL l yL_power 5 158 0 0 D cJ o a w9 [.ref o, .int (iZ (f)), .int (iZ (t)), .int (iZ (g)), .int (iZ (z)), .ref w9] c [.int (ac), .int (re), .int (kn)] n9 s9 0 (aC c (z.toNat) (wP (c f.toNat) (c g.toNat) t)) [.int (aA ac (wP (c f.toNat) (c g.toNat) t)), .int (aF re (wP (c f.toNat) (c g.toNat) t)), .int (kn)] ((iZ (aR c (z.toNat) (wP (c f.toNat) (c g.toNat) t)))).toInt64 s9 := by
  refine zL.intro (lo := 132) (nA := 6) zw_L_power (by decide) rfl rfl (by decide +kernel) rfl (Nat.le_of_ble_eq_true rfl) ?_
  intro p e s m below meth c0 ls C9 hr9 hk9 ht9 hLi9 hS9 hl9
  have hl9 : lv_has ls 7 [(0, .ref o), (1, .int (iZ (f))), (2, .int (iZ (t))), (3, .int (iZ (g))), (4, .int (iZ (z))), (5, .ref w9)] := hl9
  refine lv_aload C9.1 C9.2.1 dL_power_0 (lv_at hl9 5 rfl) ?_
  refine lv_aload_n C9.1 C9.2.1 dL_power_2 rfl (lv_at hl9 0 rfl) ?_
  refine lv_iload_n C9.1 C9.2.1 dL_power_3 rfl (lv_at hl9 1 rfl) ?_
  refine lv_iload_n C9.1 C9.2.1 dL_power_4 rfl (lv_at hl9 2 rfl) ?_
  refine lv_iload_n C9.1 C9.2.1 dL_power_5 rfl (lv_at hl9 3 rfl) ?_
  refine lv_iload C9.1 C9.2.1 dL_power_6 (lv_at hl9 4 rfl) ?_
  refine zg_call (as := [.int (iZ (f)), .int (iZ (t)), .int (iZ (g)), .int (iZ (z))]) C9 hLi9.1 hS9 (fun q h => Or.inr h) (c_X3_power l D cJ o a c ac re kn f t g z hf ht hg hz) ml_L_85 rfl (by decide) (by decide) hl9 (Nat.le_of_ble_eq_true rfl) rfl dL_power_8 (fun v9 H1 locs1 hv9 hAt1 hS1 hk1 hz1 => ?_)
  subst hv9
  refine lv_i2l C9.1 C9.2.1 dL_power_11 rfl ?_
  refine zw_putN C9 (hLi9.2.1.kept (hk1 w9 hLi9.2.1.lt (fun z => z.elim hLi9.2.2.1.1 hLi9.2.2.1.2))) hS1 (Or.inl rfl) hLi9.2.2.2.2.2.2.2.1 dL_power_12 (fun H2 locs2 hW2 hS2 hk2 hz2 => ?_)
  refine lv_goto (tgt := 26) C9.1 C9.2.1 dL_power_15 (by decide) ?_
  refine z_iconst C9 dL_power_26 ?_
  exact zl_ret C9 (hAt1.kept (hk2 o (Ne.symm hLi9.2.2.1.1)) (hk2 a (Ne.symm hLi9.2.2.1.2))) hW2 hS2 hr9 hk9 (Nat.le_of_ble_eq_true rfl) (Nat.le_of_ble_eq_true rfl) dL_power_27 rfl
set_option maxHeartbeats 4000000 in
set_option maxRecDepth 100000 in
theorem c_L_nth (l : Launch) (D : va_G) (cJ : ClassId) (o a : Nat) (c : Nat → Nat) (ac : Int32) (re : Int32) (kn : Int32) (d : Int) (r : Int) (z : Int) (hd : 1 ≤ d ∧ d ≤ 8) (hr0 : 0 ≤ r ∧ r ≤ 40) (hz : 0 ≤ z ∧ z ≤ 5) (w9 : Nat) (n9 : Int64) (s9 : Value) : zL l yL_nth 7 198 0 0 D cJ o a w9 [.ref o, .int (iZ (d)), .int (iZ (r)), .int (iZ (z)), .ref w9] c [.int (ac), .int (re), .int (kn)] n9 s9 0 (aC c (z.toNat) (wN d r)) [.int (aA ac (wN d r)), .int (aF re (wN d r)), .int (kn)] ((iZ (aR c (z.toNat) (wN d r)))).toInt64 s9 := by
  refine zL.intro (lo := 173) (nA := 5) zw_L_nth (by decide) rfl rfl (by decide +kernel) rfl (Nat.le_of_ble_eq_true rfl) ?_
  intro p e s m below meth c0 ls C9 hr9 hk9 ht9 hLi9 hS9 hl9
  have hl9 : lv_has ls 6 [(0, .ref o), (1, .int (iZ (d))), (2, .int (iZ (r))), (3, .int (iZ (z))), (4, .ref w9)] := hl9
  refine lv_aload C9.1 C9.2.1 dL_nth_0 (lv_at hl9 4 rfl) ?_
  refine lv_aload_n C9.1 C9.2.1 dL_nth_2 rfl (lv_at hl9 0 rfl) ?_
  refine lv_iload_n C9.1 C9.2.1 dL_nth_3 rfl (lv_at hl9 1 rfl) ?_
  refine lv_iload_n C9.1 C9.2.1 dL_nth_4 rfl (lv_at hl9 2 rfl) ?_
  refine lv_iload_n C9.1 C9.2.1 dL_nth_5 rfl (lv_at hl9 3 rfl) ?_
  refine zg_call (as := [.int (iZ (d)), .int (iZ (r)), .int (iZ (z))]) C9 hLi9.1 hS9 (fun q h => Or.inr h) (c_X3_nth l D cJ o a c ac re kn d r z hd hr0 hz) ml_L_88 rfl (by decide) (by decide) hl9 (Nat.le_of_ble_eq_true rfl) rfl dL_nth_6 (fun v9 H1 locs1 hv9 hAt1 hS1 hk1 hz1 => ?_)
  subst hv9
  refine lv_i2l C9.1 C9.2.1 dL_nth_9 rfl ?_
  refine zw_putN C9 (hLi9.2.1.kept (hk1 w9 hLi9.2.1.lt (fun z => z.elim hLi9.2.2.1.1 hLi9.2.2.1.2))) hS1 (Or.inl rfl) hLi9.2.2.2.2.2.2.2.1 dL_nth_10 (fun H2 locs2 hW2 hS2 hk2 hz2 => ?_)
  refine lv_goto (tgt := 24) C9.1 C9.2.1 dL_nth_13 (by decide) ?_
  refine z_iconst C9 dL_nth_24 ?_
  exact zl_ret C9 (hAt1.kept (hk2 o (Ne.symm hLi9.2.2.1.1)) (hk2 a (Ne.symm hLi9.2.2.1.2))) hW2 hS2 hr9 hk9 (Nat.le_of_ble_eq_true rfl) (Nat.le_of_ble_eq_true rfl) dL_nth_25 rfl
set_option maxHeartbeats 4000000 in
set_option maxRecDepth 100000 in
theorem c_L_field (l : Launch) (D : va_G) (cJ : ClassId) (o a : Nat) (c : Nat → Nat) (ac : Int32) (re : Int32) (kn : Int32) (n : Int) (z : Int) (hn : 1 ≤ n ∧ n ≤ 5) (hz : 0 ≤ z ∧ z ≤ 5) (w9 : Nat) (n9 : Int64) (s9 : Value) : zL l yL_field 8 219 0 0 D cJ o a w9 [.ref o, .int (iZ (n)), .int (iZ (z)), .ref w9] c [.int (ac), .int (re), .int (kn)] n9 s9 0 (aC c (z.toNat) (some (pd n))) [.int (aA ac (some (pd n))), .int (aF re (some (pd n))), .int (kn)] ((iZ (aR c (z.toNat) (some (pd n))))).toInt64 s9 := by
  refine zL.intro (lo := 195) (nA := 4) zw_L_field (by decide) rfl rfl (by decide +kernel) rfl (Nat.le_of_ble_eq_true rfl) ?_
  intro p e s m below meth c0 ls C9 hr9 hk9 ht9 hLi9 hS9 hl9
  have hl9 : lv_has ls 5 [(0, .ref o), (1, .int (iZ (n))), (2, .int (iZ (z))), (3, .ref w9)] := hl9
  refine lv_aload_n C9.1 C9.2.1 dL_field_0 rfl (lv_at hl9 3 rfl) ?_
  refine lv_aload_n C9.1 C9.2.1 dL_field_1 rfl (lv_at hl9 0 rfl) ?_
  refine lv_iload_n C9.1 C9.2.1 dL_field_2 rfl (lv_at hl9 1 rfl) ?_
  refine lv_iload_n C9.1 C9.2.1 dL_field_3 rfl (lv_at hl9 2 rfl) ?_
  refine zg_call (as := [.int (iZ (n)), .int (iZ (z))]) C9 hLi9.1 hS9 (fun q h => Or.inr h) (c_X3_field l D cJ o a c ac re kn n z hn hz) ml_L_91 rfl (by decide) (by decide) hl9 (Nat.le_of_ble_eq_true rfl) rfl dL_field_4 (fun v9 H1 locs1 hv9 hAt1 hS1 hk1 hz1 => ?_)
  subst hv9
  refine lv_i2l C9.1 C9.2.1 dL_field_7 rfl ?_
  refine zw_putN C9 (hLi9.2.1.kept (hk1 w9 hLi9.2.1.lt (fun z => z.elim hLi9.2.2.1.1 hLi9.2.2.1.2))) hS1 (Or.inl rfl) hLi9.2.2.2.2.2.2.2.1 dL_field_8 (fun H2 locs2 hW2 hS2 hk2 hz2 => ?_)
  refine lv_goto (tgt := 22) C9.1 C9.2.1 dL_field_11 (by decide) ?_
  refine z_iconst C9 dL_field_22 ?_
  exact zl_ret C9 (hAt1.kept (hk2 o (Ne.symm hLi9.2.2.1.1)) (hk2 a (Ne.symm hLi9.2.2.1.2))) hW2 hS2 hr9 hk9 (Nat.le_of_ble_eq_true rfl) (Nat.le_of_ble_eq_true rfl) dL_field_23 rfl
set_option maxHeartbeats 4000000 in
set_option maxRecDepth 100000 in
theorem c_L_again (l : Launch) (D : va_G) (cJ : ClassId) (o a : Nat) (c : Nat → Nat) (ac : Int32) (re : Int32) (kn : Int32) (f : Int) (r : Int) (z : Int) (hf : 0 ≤ f ∧ f ≤ 5) (hr0 : 2 ≤ r ∧ r ≤ 36) (hz : 0 ≤ z ∧ z ≤ 5) (w9 : Nat) (n9 : Int64) (s9 : Value) : zL l yL_again 4 116 0 0 D cJ o a w9 [.ref o, .int (iZ (f)), .int (iZ (r)), .int (iZ (z)), .ref w9] c [.int (ac), .int (re), .int (kn)] n9 s9 0 (aC c (z.toNat) (some (c f.toNat))) [.int (aA ac (some (c f.toNat))), .int (aF re (some (c f.toNat))), .int (kn)] ((iZ (aR c (z.toNat) (some (c f.toNat))))).toInt64 s9 := by
  refine zL.intro (lo := 91) (nA := 5) zw_L_again (by decide) rfl rfl (by decide +kernel) rfl (Nat.le_of_ble_eq_true rfl) ?_
  intro p e s m below meth c0 ls C9 hr9 hk9 ht9 hLi9 hS9 hl9
  have hl9 : lv_has ls 6 [(0, .ref o), (1, .int (iZ (f))), (2, .int (iZ (r))), (3, .int (iZ (z))), (4, .ref w9)] := hl9
  refine lv_aload C9.1 C9.2.1 dL_again_0 (lv_at hl9 4 rfl) ?_
  refine lv_aload_n C9.1 C9.2.1 dL_again_2 rfl (lv_at hl9 0 rfl) ?_
  refine lv_iload_n C9.1 C9.2.1 dL_again_3 rfl (lv_at hl9 1 rfl) ?_
  refine lv_iload_n C9.1 C9.2.1 dL_again_4 rfl (lv_at hl9 2 rfl) ?_
  refine lv_iload_n C9.1 C9.2.1 dL_again_5 rfl (lv_at hl9 3 rfl) ?_
  refine zg_call (as := [.int (iZ (f)), .int (iZ (r)), .int (iZ (z))]) C9 hLi9.1 hS9 (fun q h => Or.inr h) (c_X3_again l D cJ o a c ac re kn f r z hf hr0 hz) ml_L_94 rfl (by decide) (by decide) hl9 (Nat.le_of_ble_eq_true rfl) rfl dL_again_6 (fun v9 H1 locs1 hv9 hAt1 hS1 hk1 hz1 => ?_)
  subst hv9
  refine lv_i2l C9.1 C9.2.1 dL_again_9 rfl ?_
  refine zw_putN C9 (hLi9.2.1.kept (hk1 w9 hLi9.2.1.lt (fun z => z.elim hLi9.2.2.1.1 hLi9.2.2.1.2))) hS1 (Or.inl rfl) hLi9.2.2.2.2.2.2.2.1 dL_again_10 (fun H2 locs2 hW2 hS2 hk2 hz2 => ?_)
  refine lv_goto (tgt := 24) C9.1 C9.2.1 dL_again_13 (by decide) ?_
  refine z_iconst C9 dL_again_24 ?_
  exact zl_ret C9 (hAt1.kept (hk2 o (Ne.symm hLi9.2.2.1.1)) (hk2 a (Ne.symm hLi9.2.2.1.2))) hW2 hS2 hr9 hk9 (Nat.le_of_ble_eq_true rfl) (Nat.le_of_ble_eq_true rfl) dL_again_25 rfl
set_option maxHeartbeats 4000000 in
set_option maxRecDepth 100000 in
theorem c_L_degree (l : Launch) (D : va_G) (cJ : ClassId) (o a : Nat) (c : Nat → Nat) (ac : Int32) (re : Int32) (kn : Int32) (z : Int) (hz : 0 ≤ z ∧ z ≤ 5) (w9 : Nat) (n9 : Int64) (s9 : Value) : zL l yL_degree 3 86 0 0 D cJ o a w9 [.ref o, .int (iZ (z)), .ref w9] c [.int (ac), .int (re), .int (kn)] n9 s9 0 (c) [.int (ac), .int (re), .int (kn)] ((iZ (tp (c z.toNat)))).toInt64 s9 := by
  refine zL.intro (lo := 63) (nA := 3) zw_L_degree (by decide) rfl rfl (by decide +kernel) rfl (Nat.le_of_ble_eq_true rfl) ?_
  intro p e s m below meth c0 ls C9 hr9 hk9 ht9 hLi9 hS9 hl9
  have hl9 : lv_has ls 4 [(0, .ref o), (1, .int (iZ (z))), (2, .ref w9)] := hl9
  refine lv_aload_n C9.1 C9.2.1 dL_degree_0 rfl (lv_at hl9 2 rfl) ?_
  refine lv_aload_n C9.1 C9.2.1 dL_degree_1 rfl (lv_at hl9 0 rfl) ?_
  refine lv_iload_n C9.1 C9.2.1 dL_degree_2 rfl (lv_at hl9 1 rfl) ?_
  refine zg_call (as := [.int (iZ (z))]) C9 hLi9.1 hS9 (fun q h => Or.inr h) (c_X3_degree l D cJ o a c ac re kn z hz) ml_L_97 rfl (by decide) (by decide) hl9 (Nat.le_of_ble_eq_true rfl) rfl dL_degree_3 (fun v9 H1 locs1 hv9 hAt1 hS1 hk1 hz1 => ?_)
  subst hv9
  refine lv_i2l C9.1 C9.2.1 dL_degree_6 rfl ?_
  refine zw_putN C9 (hLi9.2.1.kept (hk1 w9 hLi9.2.1.lt (fun z => z.elim hLi9.2.2.1.1 hLi9.2.2.1.2))) hS1 (Or.inl rfl) hLi9.2.2.2.2.2.2.2.1 dL_degree_7 (fun H2 locs2 hW2 hS2 hk2 hz2 => ?_)
  refine lv_goto (tgt := 16) C9.1 C9.2.1 dL_degree_10 (by decide) ?_
  refine z_iconst C9 dL_degree_16 ?_
  exact zl_ret C9 (hAt1.kept (hk2 o (Ne.symm hLi9.2.2.1.1)) (hk2 a (Ne.symm hLi9.2.2.1.2))) hW2 hS2 hr9 hk9 (Nat.le_of_ble_eq_true rfl) (Nat.le_of_ble_eq_true rfl) dL_degree_17 rfl
set_option maxHeartbeats 4000000 in
set_option maxRecDepth 100000 in
theorem c_L_low (l : Launch) (D : va_G) (cJ : ClassId) (o a : Nat) (c : Nat → Nat) (ac : Int32) (re : Int32) (kn : Int32) (z : Int) (hz : 0 ≤ z ∧ z ≤ 5) (w9 : Nat) (n9 : Int64) (s9 : Value) : zL l yL_low 3 88 0 0 D cJ o a w9 [.ref o, .int (iZ (z)), .ref w9] c [.int (ac), .int (re), .int (kn)] n9 s9 0 (c) [.int (ac), .int (re), .int (kn)] ((iZ (bp (c z.toNat)))).toInt64 s9 := by
  refine zL.intro (lo := 65) (nA := 3) zw_L_low (by decide) rfl rfl (by decide +kernel) rfl (Nat.le_of_ble_eq_true rfl) ?_
  intro p e s m below meth c0 ls C9 hr9 hk9 ht9 hLi9 hS9 hl9
  have hl9 : lv_has ls 4 [(0, .ref o), (1, .int (iZ (z))), (2, .ref w9)] := hl9
  refine lv_aload_n C9.1 C9.2.1 dL_low_0 rfl (lv_at hl9 2 rfl) ?_
  refine lv_aload_n C9.1 C9.2.1 dL_low_1 rfl (lv_at hl9 0 rfl) ?_
  refine lv_iload_n C9.1 C9.2.1 dL_low_2 rfl (lv_at hl9 1 rfl) ?_
  refine zg_call (as := [.int (iZ (z))]) C9 hLi9.1 hS9 (fun q h => Or.inr h) (c_X3_low l D cJ o a c ac re kn z hz) ml_L_101 rfl (by decide) (by decide) hl9 (Nat.le_of_ble_eq_true rfl) rfl dL_low_3 (fun v9 H1 locs1 hv9 hAt1 hS1 hk1 hz1 => ?_)
  subst hv9
  refine lv_i2l C9.1 C9.2.1 dL_low_6 rfl ?_
  refine zw_putN C9 (hLi9.2.1.kept (hk1 w9 hLi9.2.1.lt (fun z => z.elim hLi9.2.2.1.1 hLi9.2.2.1.2))) hS1 (Or.inl rfl) hLi9.2.2.2.2.2.2.2.1 dL_low_7 (fun H2 locs2 hW2 hS2 hk2 hz2 => ?_)
  refine lv_goto (tgt := 16) C9.1 C9.2.1 dL_low_10 (by decide) ?_
  refine z_iconst C9 dL_low_16 ?_
  exact zl_ret C9 (hAt1.kept (hk2 o (Ne.symm hLi9.2.2.1.1)) (hk2 a (Ne.symm hLi9.2.2.1.2))) hW2 hS2 hr9 hk9 (Nat.le_of_ble_eq_true rfl) (Nat.le_of_ble_eq_true rfl) dL_low_17 rfl
set_option maxHeartbeats 4000000 in
set_option maxRecDepth 100000 in
theorem c_L_weight (l : Launch) (D : va_G) (cJ : ClassId) (o a : Nat) (c : Nat → Nat) (ac : Int32) (re : Int32) (kn : Int32) (z : Int) (hz : 0 ≤ z ∧ z ≤ 5) (w9 : Nat) (n9 : Int64) (s9 : Value) : zL l yL_weight 3 86 0 0 D cJ o a w9 [.ref o, .int (iZ (z)), .ref w9] c [.int (ac), .int (re), .int (kn)] n9 s9 0 (c) [.int (ac), .int (re), .int (kn)] ((iZ (bc (c z.toNat)))).toInt64 s9 := by
  refine zL.intro (lo := 63) (nA := 3) zw_L_weight (by decide) rfl rfl (by decide +kernel) rfl (Nat.le_of_ble_eq_true rfl) ?_
  intro p e s m below meth c0 ls C9 hr9 hk9 ht9 hLi9 hS9 hl9
  have hl9 : lv_has ls 4 [(0, .ref o), (1, .int (iZ (z))), (2, .ref w9)] := hl9
  refine lv_aload_n C9.1 C9.2.1 dL_weight_0 rfl (lv_at hl9 2 rfl) ?_
  refine lv_aload_n C9.1 C9.2.1 dL_weight_1 rfl (lv_at hl9 0 rfl) ?_
  refine lv_iload_n C9.1 C9.2.1 dL_weight_2 rfl (lv_at hl9 1 rfl) ?_
  refine zg_call (as := [.int (iZ (z))]) C9 hLi9.1 hS9 (fun q h => Or.inr h) (c_X3_weight l D cJ o a c ac re kn z hz) ml_L_104 rfl (by decide) (by decide) hl9 (Nat.le_of_ble_eq_true rfl) rfl dL_weight_3 (fun v9 H1 locs1 hv9 hAt1 hS1 hk1 hz1 => ?_)
  subst hv9
  refine lv_i2l C9.1 C9.2.1 dL_weight_6 rfl ?_
  refine zw_putN C9 (hLi9.2.1.kept (hk1 w9 hLi9.2.1.lt (fun z => z.elim hLi9.2.2.1.1 hLi9.2.2.1.2))) hS1 (Or.inl rfl) hLi9.2.2.2.2.2.2.2.1 dL_weight_7 (fun H2 locs2 hW2 hS2 hk2 hz2 => ?_)
  refine lv_goto (tgt := 16) C9.1 C9.2.1 dL_weight_10 (by decide) ?_
  refine z_iconst C9 dL_weight_16 ?_
  exact zl_ret C9 (hAt1.kept (hk2 o (Ne.symm hLi9.2.2.1.1)) (hk2 a (Ne.symm hLi9.2.2.1.2))) hW2 hS2 hr9 hk9 (Nat.le_of_ble_eq_true rfl) (Nat.le_of_ble_eq_true rfl) dL_weight_17 rfl
set_option maxHeartbeats 4000000 in
set_option maxRecDepth 100000 in
theorem c_L_at (l : Launch) (D : va_G) (cJ : ClassId) (o a : Nat) (c : Nat → Nat) (ac : Int32) (re : Int32) (kn : Int32) (z : Int) (g : Int) (hz : 0 ≤ z ∧ z ≤ 5) (hg : 0 ≤ g ∧ g ≤ 99) (w9 : Nat) (n9 : Int64) (s9 : Value) : zL l yL_at 3 90 0 0 D cJ o a w9 [.ref o, .int (iZ (z)), .int (iZ (g)), .ref w9] c [.int (ac), .int (re), .int (kn)] n9 s9 0 (c) [.int (ac), .int (re), .int (kn)] ((iZ (zB (tb (c z.toNat) g)))).toInt64 s9 := by
  refine zL.intro (lo := 66) (nA := 4) zw_L_at (by decide) rfl rfl (by decide +kernel) rfl (Nat.le_of_ble_eq_true rfl) ?_
  intro p e s m below meth c0 ls C9 hr9 hk9 ht9 hLi9 hS9 hl9
  have hl9 : lv_has ls 5 [(0, .ref o), (1, .int (iZ (z))), (2, .int (iZ (g))), (3, .ref w9)] := hl9
  refine lv_aload_n C9.1 C9.2.1 dL_at_0 rfl (lv_at hl9 3 rfl) ?_
  refine lv_aload_n C9.1 C9.2.1 dL_at_1 rfl (lv_at hl9 0 rfl) ?_
  refine lv_iload_n C9.1 C9.2.1 dL_at_2 rfl (lv_at hl9 1 rfl) ?_
  refine lv_iload_n C9.1 C9.2.1 dL_at_3 rfl (lv_at hl9 2 rfl) ?_
  refine zg_call (as := [.int (iZ (z)), .int (iZ (g))]) C9 hLi9.1 hS9 (fun q h => Or.inr h) (c_X3_at l D cJ o a c ac re kn z g hz hg) ml_L_107 rfl (by decide) (by decide) hl9 (Nat.le_of_ble_eq_true rfl) rfl dL_at_4 (fun v9 H1 locs1 hv9 hAt1 hS1 hk1 hz1 => ?_)
  subst hv9
  refine zl_bool C9 dL_at_7 dL_at_10 dL_at_11 dL_at_14 ?_
  refine zw_putN C9 (hLi9.2.1.kept (hk1 w9 hLi9.2.1.lt (fun z => z.elim hLi9.2.2.1.1 hLi9.2.2.1.2))) hS1 (Or.inl rfl) hLi9.2.2.2.2.2.2.2.1 dL_at_15 (fun H2 locs2 hW2 hS2 hk2 hz2 => ?_)
  refine lv_goto (tgt := 29) C9.1 C9.2.1 dL_at_18 (by decide) ?_
  refine z_iconst C9 dL_at_29 ?_
  exact zl_ret C9 (hAt1.kept (hk2 o (Ne.symm hLi9.2.2.1.1)) (hk2 a (Ne.symm hLi9.2.2.1.2))) hW2 hS2 hr9 hk9 (Nat.le_of_ble_eq_true rfl) (Nat.le_of_ble_eq_true rfl) dL_at_30 rfl
set_option maxHeartbeats 4000000 in
set_option maxRecDepth 100000 in
theorem c_L_digits (l : Launch) (D : va_G) (cJ : ClassId) (o a : Nat) (c : Nat → Nat) (ac : Int32) (re : Int32) (kn : Int32) (z : Int) (hz : 0 ≤ z ∧ z ≤ 5) (w9 : Nat) (n9 : Int64) (s9 : Value) : zL l yL_digits 3 86 0 0 D cJ o a w9 [.ref o, .int (iZ (z)), .ref w9] c [.int (ac), .int (re), .int (kn)] n9 s9 0 (c) [.int (ac), .int (re), .int (kn)] ((iZ (((c z.toNat : Nat) : Int)))).toInt64 s9 := by
  refine zL.intro (lo := 63) (nA := 3) zw_L_digits (by decide) rfl rfl (by decide +kernel) rfl (Nat.le_of_ble_eq_true rfl) ?_
  intro p e s m below meth c0 ls C9 hr9 hk9 ht9 hLi9 hS9 hl9
  have hl9 : lv_has ls 4 [(0, .ref o), (1, .int (iZ (z))), (2, .ref w9)] := hl9
  refine lv_aload_n C9.1 C9.2.1 dL_digits_0 rfl (lv_at hl9 2 rfl) ?_
  refine lv_aload_n C9.1 C9.2.1 dL_digits_1 rfl (lv_at hl9 0 rfl) ?_
  refine lv_iload_n C9.1 C9.2.1 dL_digits_2 rfl (lv_at hl9 1 rfl) ?_
  refine zg_call (as := [.int (iZ (z))]) C9 hLi9.1 hS9 (fun q h => Or.inr h) (c_X3_digits l D cJ o a c ac re kn z hz) ml_L_110 rfl (by decide) (by decide) hl9 (Nat.le_of_ble_eq_true rfl) rfl dL_digits_3 (fun v9 H1 locs1 hv9 hAt1 hS1 hk1 hz1 => ?_)
  subst hv9
  refine lv_i2l C9.1 C9.2.1 dL_digits_6 rfl ?_
  refine zw_putN C9 (hLi9.2.1.kept (hk1 w9 hLi9.2.1.lt (fun z => z.elim hLi9.2.2.1.1 hLi9.2.2.1.2))) hS1 (Or.inl rfl) hLi9.2.2.2.2.2.2.2.1 dL_digits_7 (fun H2 locs2 hW2 hS2 hk2 hz2 => ?_)
  refine lv_goto (tgt := 16) C9.1 C9.2.1 dL_digits_10 (by decide) ?_
  refine z_iconst C9 dL_digits_16 ?_
  exact zl_ret C9 (hAt1.kept (hk2 o (Ne.symm hLi9.2.2.1.1)) (hk2 a (Ne.symm hLi9.2.2.1.2))) hW2 hS2 hr9 hk9 (Nat.le_of_ble_eq_true rfl) (Nat.le_of_ble_eq_true rfl) dL_digits_17 rfl
set_option maxHeartbeats 4000000 in
set_option maxRecDepth 100000 in
theorem c_L_order (l : Launch) (D : va_G) (cJ : ClassId) (o a : Nat) (c : Nat → Nat) (ac : Int32) (re : Int32) (kn : Int32) (f : Int) (z : Int) (hf : 0 ≤ f ∧ f ≤ 5) (hz : 0 ≤ z ∧ z ≤ 5) (w9 : Nat) (n9 : Int64) (s9 : Value) : zL l yL_order 3 92 0 0 D cJ o a w9 [.ref o, .int (iZ (f)), .int (iZ (z)), .ref w9] c [.int (ac), .int (re), .int (kn)] n9 s9 0 (c) [.int (ac), .int (re), .int (kn)] ((iZ (od (c f.toNat) (c z.toNat)))).toInt64 s9 := by
  refine zL.intro (lo := 68) (nA := 4) zw_L_order (by decide) rfl rfl (by decide +kernel) rfl (Nat.le_of_ble_eq_true rfl) ?_
  intro p e s m below meth c0 ls C9 hr9 hk9 ht9 hLi9 hS9 hl9
  have hl9 : lv_has ls 5 [(0, .ref o), (1, .int (iZ (f))), (2, .int (iZ (z))), (3, .ref w9)] := hl9
  refine lv_aload_n C9.1 C9.2.1 dL_order_0 rfl (lv_at hl9 3 rfl) ?_
  refine lv_aload_n C9.1 C9.2.1 dL_order_1 rfl (lv_at hl9 0 rfl) ?_
  refine lv_iload_n C9.1 C9.2.1 dL_order_2 rfl (lv_at hl9 1 rfl) ?_
  refine lv_iload_n C9.1 C9.2.1 dL_order_3 rfl (lv_at hl9 2 rfl) ?_
  refine zg_call (as := [.int (iZ (f)), .int (iZ (z))]) C9 hLi9.1 hS9 (fun q h => Or.inr h) (c_X3_order l D cJ o a c ac re kn f z hf hz) ml_L_125 rfl (by decide) (by decide) hl9 (Nat.le_of_ble_eq_true rfl) rfl dL_order_4 (fun v9 H1 locs1 hv9 hAt1 hS1 hk1 hz1 => ?_)
  subst hv9
  refine lv_i2l C9.1 C9.2.1 dL_order_7 rfl ?_
  refine zw_putN C9 (hLi9.2.1.kept (hk1 w9 hLi9.2.1.lt (fun z => z.elim hLi9.2.2.1.1 hLi9.2.2.1.2))) hS1 (Or.inl rfl) hLi9.2.2.2.2.2.2.2.1 dL_order_8 (fun H2 locs2 hW2 hS2 hk2 hz2 => ?_)
  refine lv_goto (tgt := 18) C9.1 C9.2.1 dL_order_11 (by decide) ?_
  refine z_iconst C9 dL_order_18 ?_
  exact zl_ret C9 (hAt1.kept (hk2 o (Ne.symm hLi9.2.2.1.1)) (hk2 a (Ne.symm hLi9.2.2.1.2))) hW2 hS2 hr9 hk9 (Nat.le_of_ble_eq_true rfl) (Nat.le_of_ble_eq_true rfl) dL_order_19 rfl
set_option maxHeartbeats 4000000 in
set_option maxRecDepth 100000 in
theorem c_L_isSame (l : Launch) (D : va_G) (cJ : ClassId) (o a : Nat) (c : Nat → Nat) (ac : Int32) (re : Int32) (kn : Int32) (f : Int) (z : Int) (hf : 0 ≤ f ∧ f ≤ 5) (hz : 0 ≤ z ∧ z ≤ 5) (w9 : Nat) (n9 : Int64) (s9 : Value) : zL l yL_isSame 3 88 0 0 D cJ o a w9 [.ref o, .int (iZ (f)), .int (iZ (z)), .ref w9] c [.int (ac), .int (re), .int (kn)] n9 s9 0 (c) [.int (ac), .int (re), .int (kn)] ((iZ (zB (decide (c f.toNat = c z.toNat))))).toInt64 s9 := by
  refine zL.intro (lo := 64) (nA := 4) zw_L_isSame (by decide) rfl rfl (by decide +kernel) rfl (Nat.le_of_ble_eq_true rfl) ?_
  intro p e s m below meth c0 ls C9 hr9 hk9 ht9 hLi9 hS9 hl9
  have hl9 : lv_has ls 5 [(0, .ref o), (1, .int (iZ (f))), (2, .int (iZ (z))), (3, .ref w9)] := hl9
  refine lv_aload_n C9.1 C9.2.1 dL_isSame_0 rfl (lv_at hl9 3 rfl) ?_
  refine lv_aload_n C9.1 C9.2.1 dL_isSame_1 rfl (lv_at hl9 0 rfl) ?_
  refine lv_iload_n C9.1 C9.2.1 dL_isSame_2 rfl (lv_at hl9 1 rfl) ?_
  refine lv_iload_n C9.1 C9.2.1 dL_isSame_3 rfl (lv_at hl9 2 rfl) ?_
  refine zg_call (as := [.int (iZ (f)), .int (iZ (z))]) C9 hLi9.1 hS9 (fun q h => Or.inr h) (c_X3_isSame l D cJ o a c ac re kn f z hf hz) ml_L_128 rfl (by decide) (by decide) hl9 (Nat.le_of_ble_eq_true rfl) rfl dL_isSame_4 (fun v9 H1 locs1 hv9 hAt1 hS1 hk1 hz1 => ?_)
  subst hv9
  refine zl_bool C9 dL_isSame_7 dL_isSame_10 dL_isSame_11 dL_isSame_14 ?_
  refine zw_putN C9 (hLi9.2.1.kept (hk1 w9 hLi9.2.1.lt (fun z => z.elim hLi9.2.2.1.1 hLi9.2.2.1.2))) hS1 (Or.inl rfl) hLi9.2.2.2.2.2.2.2.1 dL_isSame_15 (fun H2 locs2 hW2 hS2 hk2 hz2 => ?_)
  refine lv_goto (tgt := 25) C9.1 C9.2.1 dL_isSame_18 (by decide) ?_
  refine z_iconst C9 dL_isSame_25 ?_
  exact zl_ret C9 (hAt1.kept (hk2 o (Ne.symm hLi9.2.2.1.1)) (hk2 a (Ne.symm hLi9.2.2.1.2))) hW2 hS2 hr9 hk9 (Nat.le_of_ble_eq_true rfl) (Nat.le_of_ble_eq_true rfl) dL_isSame_26 rfl
set_option maxHeartbeats 4000000 in
set_option maxRecDepth 100000 in
theorem c_L_value (l : Launch) (D : va_G) (cJ : ClassId) (o a : Nat) (c : Nat → Nat) (ac : Int32) (re : Int32) (kn : Int32) (z : Int) (b : Bool) (hz : 0 ≤ z ∧ z ≤ 5) (w9 : Nat) (n9 : Int64) (s9 : Value) : zL l yL_value 3 90 0 0 D cJ o a w9 [.ref o, .int (iZ (z)), .int (iZ (zB (b))), .ref w9] c [.int (ac), .int (re), .int (kn)] n9 s9 0 (c) [.int (ac), .int (re), .int (kn)] ((iZ (if b = true then bc (c z.toNat) % 2 else ((c z.toNat &&& 1 : Nat) : Int)))).toInt64 s9 := by
  refine zL.intro (lo := 66) (nA := 4) zw_L_value (by decide) rfl rfl (by decide +kernel) rfl (Nat.le_of_ble_eq_true rfl) ?_
  intro p e s m below meth c0 ls C9 hr9 hk9 ht9 hLi9 hS9 hl9
  have hl9 : lv_has ls 5 [(0, .ref o), (1, .int (iZ (z))), (2, .int (iZ (zB (b)))), (3, .ref w9)] := hl9
  refine lv_aload_n C9.1 C9.2.1 dL_value_0 rfl (lv_at hl9 3 rfl) ?_
  refine lv_aload_n C9.1 C9.2.1 dL_value_1 rfl (lv_at hl9 0 rfl) ?_
  refine lv_iload_n C9.1 C9.2.1 dL_value_2 rfl (lv_at hl9 1 rfl) ?_
  refine lv_iload_n C9.1 C9.2.1 dL_value_3 rfl (lv_at hl9 2 rfl) ?_
  refine zg_call (as := [.int (iZ (z)), .int (iZ (zB (b)))]) C9 hLi9.1 hS9 (fun q h => Or.inr h) (c_X3_value l D cJ o a c ac re kn z b hz) ml_L_131 rfl (by decide) (by decide) hl9 (Nat.le_of_ble_eq_true rfl) rfl dL_value_4 (fun v9 H1 locs1 hv9 hAt1 hS1 hk1 hz1 => ?_)
  subst hv9
  refine lv_i2l C9.1 C9.2.1 dL_value_7 rfl ?_
  refine zw_putN C9 (hLi9.2.1.kept (hk1 w9 hLi9.2.1.lt (fun z => z.elim hLi9.2.2.1.1 hLi9.2.2.1.2))) hS1 (Or.inl rfl) hLi9.2.2.2.2.2.2.2.1 dL_value_8 (fun H2 locs2 hW2 hS2 hk2 hz2 => ?_)
  refine lv_goto (tgt := 18) C9.1 C9.2.1 dL_value_11 (by decide) ?_
  refine z_iconst C9 dL_value_18 ?_
  exact zl_ret C9 (hAt1.kept (hk2 o (Ne.symm hLi9.2.2.1.1)) (hk2 a (Ne.symm hLi9.2.2.1.2))) hW2 hS2 hr9 hk9 (Nat.le_of_ble_eq_true rfl) (Nat.le_of_ble_eq_true rfl) dL_value_19 rfl
set_option maxHeartbeats 4000000 in
set_option maxRecDepth 100000 in
theorem c_L_divides (l : Launch) (D : va_G) (cJ : ClassId) (o a : Nat) (c : Nat → Nat) (ac : Int32) (re : Int32) (kn : Int32) (f : Int) (z : Int) (hf : 0 ≤ f ∧ f ≤ 5) (hz : 0 ≤ z ∧ z ≤ 5) (w9 : Nat) (n9 : Int64) (s9 : Value) : zL l yL_divides 5 144 0 0 D cJ o a w9 [.ref o, .int (iZ (f)), .int (iZ (z)), .ref w9] c [.int (ac), .int (re), .int (kn)] n9 s9 0 (c) [.int (ac), .int (re), .int (kn)] ((iZ (zB (decide (rm (c z.toNat) (c f.toNat) = 0))))).toInt64 s9 := by
  refine zL.intro (lo := 120) (nA := 4) zw_L_divides (by decide) rfl rfl (by decide +kernel) rfl (Nat.le_of_ble_eq_true rfl) ?_
  intro p e s m below meth c0 ls C9 hr9 hk9 ht9 hLi9 hS9 hl9
  have hl9 : lv_has ls 5 [(0, .ref o), (1, .int (iZ (f))), (2, .int (iZ (z))), (3, .ref w9)] := hl9
  refine lv_aload_n C9.1 C9.2.1 dL_divides_0 rfl (lv_at hl9 3 rfl) ?_
  refine lv_aload_n C9.1 C9.2.1 dL_divides_1 rfl (lv_at hl9 0 rfl) ?_
  refine lv_iload_n C9.1 C9.2.1 dL_divides_2 rfl (lv_at hl9 1 rfl) ?_
  refine lv_iload_n C9.1 C9.2.1 dL_divides_3 rfl (lv_at hl9 2 rfl) ?_
  refine zg_call (as := [.int (iZ (f)), .int (iZ (z))]) C9 hLi9.1 hS9 (fun q h => Or.inr h) (c_X3_divides l D cJ o a c ac re kn f z hf hz) ml_L_135 rfl (by decide) (by decide) hl9 (Nat.le_of_ble_eq_true rfl) rfl dL_divides_4 (fun v9 H1 locs1 hv9 hAt1 hS1 hk1 hz1 => ?_)
  subst hv9
  refine zl_bool C9 dL_divides_7 dL_divides_10 dL_divides_11 dL_divides_14 ?_
  refine zw_putN C9 (hLi9.2.1.kept (hk1 w9 hLi9.2.1.lt (fun z => z.elim hLi9.2.2.1.1 hLi9.2.2.1.2))) hS1 (Or.inl rfl) hLi9.2.2.2.2.2.2.2.1 dL_divides_15 (fun H2 locs2 hW2 hS2 hk2 hz2 => ?_)
  refine lv_goto (tgt := 25) C9.1 C9.2.1 dL_divides_18 (by decide) ?_
  refine z_iconst C9 dL_divides_25 ?_
  exact zl_ret C9 (hAt1.kept (hk2 o (Ne.symm hLi9.2.2.1.1)) (hk2 a (Ne.symm hLi9.2.2.1.2))) hW2 hS2 hr9 hk9 (Nat.le_of_ble_eq_true rfl) (Nat.le_of_ble_eq_true rfl) dL_divides_26 rfl
set_option maxHeartbeats 4000000 in
set_option maxRecDepth 100000 in
theorem c_L_isFree (l : Launch) (D : va_G) (cJ : ClassId) (o a : Nat) (c : Nat → Nat) (ac : Int32) (re : Int32) (kn : Int32) (z : Int) (hz : 0 ≤ z ∧ z ≤ 5) (w9 : Nat) (n9 : Int64) (s9 : Value) : zL l yL_isFree 5 163 0 0 D cJ o a w9 [.ref o, .int (iZ (z)), .ref w9] c [.int (ac), .int (re), .int (kn)] n9 s9 0 (c) [.int (ac), .int (re), .int (kn)] ((iZ (zB (decide (eu (c z.toNat) (dv (c z.toNat)) (c z.toNat) (dv (c z.toNat)) = 1))))).toInt64 s9 := by
  refine zL.intro (lo := 140) (nA := 3) zw_L_isFree (by decide) rfl rfl (by decide +kernel) rfl (Nat.le_of_ble_eq_true rfl) ?_
  intro p e s m below meth c0 ls C9 hr9 hk9 ht9 hLi9 hS9 hl9
  have hl9 : lv_has ls 4 [(0, .ref o), (1, .int (iZ (z))), (2, .ref w9)] := hl9
  refine lv_aload_n C9.1 C9.2.1 dL_isFree_0 rfl (lv_at hl9 2 rfl) ?_
  refine lv_aload_n C9.1 C9.2.1 dL_isFree_1 rfl (lv_at hl9 0 rfl) ?_
  refine lv_iload_n C9.1 C9.2.1 dL_isFree_2 rfl (lv_at hl9 1 rfl) ?_
  refine zg_call (as := [.int (iZ (z))]) C9 hLi9.1 hS9 (fun q h => Or.inr h) (c_X3_isFree l D cJ o a c ac re kn z hz) ml_L_138 rfl (by decide) (by decide) hl9 (Nat.le_of_ble_eq_true rfl) rfl dL_isFree_3 (fun v9 H1 locs1 hv9 hAt1 hS1 hk1 hz1 => ?_)
  subst hv9
  refine zl_bool C9 dL_isFree_6 dL_isFree_9 dL_isFree_10 dL_isFree_13 ?_
  refine zw_putN C9 (hLi9.2.1.kept (hk1 w9 hLi9.2.1.lt (fun z => z.elim hLi9.2.2.1.1 hLi9.2.2.1.2))) hS1 (Or.inl rfl) hLi9.2.2.2.2.2.2.2.1 dL_isFree_14 (fun H2 locs2 hW2 hS2 hk2 hz2 => ?_)
  refine lv_goto (tgt := 23) C9.1 C9.2.1 dL_isFree_17 (by decide) ?_
  refine z_iconst C9 dL_isFree_23 ?_
  exact zl_ret C9 (hAt1.kept (hk2 o (Ne.symm hLi9.2.2.1.1)) (hk2 a (Ne.symm hLi9.2.2.1.2))) hW2 hS2 hr9 hk9 (Nat.le_of_ble_eq_true rfl) (Nat.le_of_ble_eq_true rfl) dL_isFree_24 rfl
set_option maxHeartbeats 4000000 in
set_option maxRecDepth 100000 in
theorem c_L_irreducible (l : Launch) (D : va_G) (cJ : ClassId) (o a : Nat) (c : Nat → Nat) (ac : Int32) (re : Int32) (kn : Int32) (z : Int) (hz : 0 ≤ z ∧ z ≤ 5) (w9 : Nat) (n9 : Int64) (s9 : Value) : zL l yL_irreducible 6 170 0 0 D cJ o a w9 [.ref o, .int (iZ (z)), .ref w9] c [.int (ac), .int (re), .int (kn)] n9 s9 0 (c) [.int (ac), .int (qF re (wI (c z.toNat))), .int (kn)] ((iZ (qR (wI (c z.toNat))))).toInt64 s9 := by
  refine zL.intro (lo := 147) (nA := 3) zw_L_irreducible (by decide) rfl rfl (by decide +kernel) rfl (Nat.le_of_ble_eq_true rfl) ?_
  intro p e s m below meth c0 ls C9 hr9 hk9 ht9 hLi9 hS9 hl9
  have hl9 : lv_has ls 4 [(0, .ref o), (1, .int (iZ (z))), (2, .ref w9)] := hl9
  refine lv_aload_n C9.1 C9.2.1 dL_irreducible_0 rfl (lv_at hl9 2 rfl) ?_
  refine lv_aload_n C9.1 C9.2.1 dL_irreducible_1 rfl (lv_at hl9 0 rfl) ?_
  refine lv_iload_n C9.1 C9.2.1 dL_irreducible_2 rfl (lv_at hl9 1 rfl) ?_
  refine zg_call (as := [.int (iZ (z))]) C9 hLi9.1 hS9 (fun q h => Or.inr h) (c_X3_irreducible l D cJ o a c ac re kn z hz) ml_L_142 rfl (by decide) (by decide) hl9 (Nat.le_of_ble_eq_true rfl) rfl dL_irreducible_3 (fun v9 H1 locs1 hv9 hAt1 hS1 hk1 hz1 => ?_)
  subst hv9
  refine lv_i2l C9.1 C9.2.1 dL_irreducible_6 rfl ?_
  refine zw_putN C9 (hLi9.2.1.kept (hk1 w9 hLi9.2.1.lt (fun z => z.elim hLi9.2.2.1.1 hLi9.2.2.1.2))) hS1 (Or.inl rfl) hLi9.2.2.2.2.2.2.2.1 dL_irreducible_7 (fun H2 locs2 hW2 hS2 hk2 hz2 => ?_)
  refine lv_goto (tgt := 16) C9.1 C9.2.1 dL_irreducible_10 (by decide) ?_
  refine z_iconst C9 dL_irreducible_16 ?_
  exact zl_ret C9 (hAt1.kept (hk2 o (Ne.symm hLi9.2.2.1.1)) (hk2 a (Ne.symm hLi9.2.2.1.2))) hW2 hS2 hr9 hk9 (Nat.le_of_ble_eq_true rfl) (Nat.le_of_ble_eq_true rfl) dL_irreducible_17 rfl
set_option maxHeartbeats 4000000 in
set_option maxRecDepth 100000 in
theorem c_L_rank (l : Launch) (D : va_G) (cJ : ClassId) (o a : Nat) (c : Nat → Nat) (ac : Int32) (re : Int32) (kn : Int32) (z : Int) (hz : 0 ≤ z ∧ z ≤ 5) (w9 : Nat) (n9 : Int64) (s9 : Value) : zL l yL_rank 7 195 0 0 D cJ o a w9 [.ref o, .int (iZ (z)), .ref w9] c [.int (ac), .int (re), .int (kn)] n9 s9 0 (c) [.int (ac), .int (qF re (wK (c z.toNat))), .int (kn)] ((iZ (qR (wK (c z.toNat))))).toInt64 s9 := by
  refine zL.intro (lo := 172) (nA := 3) zw_L_rank (by decide) rfl rfl (by decide +kernel) rfl (Nat.le_of_ble_eq_true rfl) ?_
  intro p e s m below meth c0 ls C9 hr9 hk9 ht9 hLi9 hS9 hl9
  have hl9 : lv_has ls 4 [(0, .ref o), (1, .int (iZ (z))), (2, .ref w9)] := hl9
  refine lv_aload_n C9.1 C9.2.1 dL_rank_0 rfl (lv_at hl9 2 rfl) ?_
  refine lv_aload_n C9.1 C9.2.1 dL_rank_1 rfl (lv_at hl9 0 rfl) ?_
  refine lv_iload_n C9.1 C9.2.1 dL_rank_2 rfl (lv_at hl9 1 rfl) ?_
  refine zg_call (as := [.int (iZ (z))]) C9 hLi9.1 hS9 (fun q h => Or.inr h) (c_X3_rank l D cJ o a c ac re kn z hz) ml_L_145 rfl (by decide) (by decide) hl9 (Nat.le_of_ble_eq_true rfl) rfl dL_rank_3 (fun v9 H1 locs1 hv9 hAt1 hS1 hk1 hz1 => ?_)
  subst hv9
  refine lv_i2l C9.1 C9.2.1 dL_rank_6 rfl ?_
  refine zw_putN C9 (hLi9.2.1.kept (hk1 w9 hLi9.2.1.lt (fun z => z.elim hLi9.2.2.1.1 hLi9.2.2.1.2))) hS1 (Or.inl rfl) hLi9.2.2.2.2.2.2.2.1 dL_rank_7 (fun H2 locs2 hW2 hS2 hk2 hz2 => ?_)
  refine lv_goto (tgt := 16) C9.1 C9.2.1 dL_rank_10 (by decide) ?_
  refine z_iconst C9 dL_rank_16 ?_
  exact zl_ret C9 (hAt1.kept (hk2 o (Ne.symm hLi9.2.2.1.1)) (hk2 a (Ne.symm hLi9.2.2.1.2))) hW2 hS2 hr9 hk9 (Nat.le_of_ble_eq_true rfl) (Nat.le_of_ble_eq_true rfl) dL_rank_17 rfl
set_option maxHeartbeats 4000000 in
set_option maxRecDepth 100000 in
theorem c_L_period (l : Launch) (D : va_G) (cJ : ClassId) (o a : Nat) (c : Nat → Nat) (ac : Int32) (re : Int32) (kn : Int32) (z : Int) (hz : 0 ≤ z ∧ z ≤ 5) (w9 : Nat) (n9 : Int64) (s9 : Value) : zL l yL_period 5 145 0 0 D cJ o a w9 [.ref o, .int (iZ (z)), .ref w9] c [.int (ac), .int (re), .int (kn)] n9 s9 0 (c) [.int (ac), .int (qF re (wD (c z.toNat))), .int (kn)] ((iZ (qR (wD (c z.toNat))))).toInt64 s9 := by
  refine zL.intro (lo := 122) (nA := 3) zw_L_period (by decide) rfl rfl (by decide +kernel) rfl (Nat.le_of_ble_eq_true rfl) ?_
  intro p e s m below meth c0 ls C9 hr9 hk9 ht9 hLi9 hS9 hl9
  have hl9 : lv_has ls 4 [(0, .ref o), (1, .int (iZ (z))), (2, .ref w9)] := hl9
  refine lv_aload_n C9.1 C9.2.1 dL_period_0 rfl (lv_at hl9 2 rfl) ?_
  refine lv_aload_n C9.1 C9.2.1 dL_period_1 rfl (lv_at hl9 0 rfl) ?_
  refine lv_iload_n C9.1 C9.2.1 dL_period_2 rfl (lv_at hl9 1 rfl) ?_
  refine zg_call (as := [.int (iZ (z))]) C9 hLi9.1 hS9 (fun q h => Or.inr h) (c_X3_period l D cJ o a c ac re kn z hz) ml_L_151 rfl (by decide) (by decide) hl9 (Nat.le_of_ble_eq_true rfl) rfl dL_period_3 (fun v9 H1 locs1 hv9 hAt1 hS1 hk1 hz1 => ?_)
  subst hv9
  refine lv_i2l C9.1 C9.2.1 dL_period_6 rfl ?_
  refine zw_putN C9 (hLi9.2.1.kept (hk1 w9 hLi9.2.1.lt (fun z => z.elim hLi9.2.2.1.1 hLi9.2.2.1.2))) hS1 (Or.inl rfl) hLi9.2.2.2.2.2.2.2.1 dL_period_7 (fun H2 locs2 hW2 hS2 hk2 hz2 => ?_)
  refine lv_goto (tgt := 16) C9.1 C9.2.1 dL_period_10 (by decide) ?_
  refine z_iconst C9 dL_period_16 ?_
  exact zl_ret C9 (hAt1.kept (hk2 o (Ne.symm hLi9.2.2.1.1)) (hk2 a (Ne.symm hLi9.2.2.1.2))) hW2 hS2 hr9 hk9 (Nat.le_of_ble_eq_true rfl) (Nat.le_of_ble_eq_true rfl) dL_period_17 rfl
set_option maxHeartbeats 4000000 in
set_option maxRecDepth 100000 in
theorem c_L_many (l : Launch) (D : va_G) (cJ : ClassId) (o a : Nat) (c : Nat → Nat) (ac : Int32) (re : Int32) (kn : Int32) (d : Int) (hd : 1 ≤ d ∧ d ≤ 8) (w9 : Nat) (n9 : Int64) (s9 : Value) : zL l yL_many 7 193 0 0 D cJ o a w9 [.ref o, .int (iZ (d)), .ref w9] c [.int (ac), .int (re), .int (kn)] n9 s9 0 (c) [.int (ac), .int (re), .int (kn)] ((iZ (cb (2 ^ d.toNat) (2 ^ (d.toNat + 1))))).toInt64 s9 := by
  refine zL.intro (lo := 170) (nA := 3) zw_L_many (by decide) rfl rfl (by decide +kernel) rfl (Nat.le_of_ble_eq_true rfl) ?_
  intro p e s m below meth c0 ls C9 hr9 hk9 ht9 hLi9 hS9 hl9
  have hl9 : lv_has ls 4 [(0, .ref o), (1, .int (iZ (d))), (2, .ref w9)] := hl9
  refine lv_aload_n C9.1 C9.2.1 dL_many_0 rfl (lv_at hl9 2 rfl) ?_
  refine lv_aload_n C9.1 C9.2.1 dL_many_1 rfl (lv_at hl9 0 rfl) ?_
  refine lv_iload_n C9.1 C9.2.1 dL_many_2 rfl (lv_at hl9 1 rfl) ?_
  refine zg_call (as := [.int (iZ (d))]) C9 hLi9.1 hS9 (fun q h => Or.inr h) (c_X3_many l D cJ o a c ac re kn d hd) ml_L_154 rfl (by decide) (by decide) hl9 (Nat.le_of_ble_eq_true rfl) rfl dL_many_3 (fun v9 H1 locs1 hv9 hAt1 hS1 hk1 hz1 => ?_)
  subst hv9
  refine lv_i2l C9.1 C9.2.1 dL_many_6 rfl ?_
  refine zw_putN C9 (hLi9.2.1.kept (hk1 w9 hLi9.2.1.lt (fun z => z.elim hLi9.2.2.1.1 hLi9.2.2.1.2))) hS1 (Or.inl rfl) hLi9.2.2.2.2.2.2.2.1 dL_many_7 (fun H2 locs2 hW2 hS2 hk2 hz2 => ?_)
  refine lv_goto (tgt := 16) C9.1 C9.2.1 dL_many_10 (by decide) ?_
  refine z_iconst C9 dL_many_16 ?_
  exact zl_ret C9 (hAt1.kept (hk2 o (Ne.symm hLi9.2.2.1.1)) (hk2 a (Ne.symm hLi9.2.2.1.2))) hW2 hS2 hr9 hk9 (Nat.le_of_ble_eq_true rfl) (Nat.le_of_ble_eq_true rfl) dL_many_17 rfl
set_option maxHeartbeats 4000000 in
set_option maxRecDepth 100000 in
theorem c_L_formula (l : Launch) (D : va_G) (cJ : ClassId) (o a : Nat) (c : Nat → Nat) (ac : Int32) (re : Int32) (kn : Int32) (d : Int) (hd : 1 ≤ d ∧ d ≤ 8) (w9 : Nat) (n9 : Int64) (s9 : Value) : zL l yL_formula 3 86 0 0 D cJ o a w9 [.ref o, .int (iZ (d)), .ref w9] c [.int (ac), .int (re), .int (kn)] n9 s9 0 (c) [.int (ac), .int (re), .int (kn)] ((iZ (fo d))).toInt64 s9 := by
  refine zL.intro (lo := 63) (nA := 3) zw_L_formula (by decide) rfl rfl (by decide +kernel) rfl (Nat.le_of_ble_eq_true rfl) ?_
  intro p e s m below meth c0 ls C9 hr9 hk9 ht9 hLi9 hS9 hl9
  have hl9 : lv_has ls 4 [(0, .ref o), (1, .int (iZ (d))), (2, .ref w9)] := hl9
  refine lv_aload_n C9.1 C9.2.1 dL_formula_0 rfl (lv_at hl9 2 rfl) ?_
  refine lv_aload_n C9.1 C9.2.1 dL_formula_1 rfl (lv_at hl9 0 rfl) ?_
  refine lv_iload_n C9.1 C9.2.1 dL_formula_2 rfl (lv_at hl9 1 rfl) ?_
  refine zg_call (as := [.int (iZ (d))]) C9 hLi9.1 hS9 (fun q h => Or.inr h) (c_X3_formula l D cJ o a c ac re kn d hd) ml_L_157 rfl (by decide) (by decide) hl9 (Nat.le_of_ble_eq_true rfl) rfl dL_formula_3 (fun v9 H1 locs1 hv9 hAt1 hS1 hk1 hz1 => ?_)
  subst hv9
  refine lv_i2l C9.1 C9.2.1 dL_formula_6 rfl ?_
  refine zw_putN C9 (hLi9.2.1.kept (hk1 w9 hLi9.2.1.lt (fun z => z.elim hLi9.2.2.1.1 hLi9.2.2.1.2))) hS1 (Or.inl rfl) hLi9.2.2.2.2.2.2.2.1 dL_formula_7 (fun H2 locs2 hW2 hS2 hk2 hz2 => ?_)
  refine lv_goto (tgt := 16) C9.1 C9.2.1 dL_formula_10 (by decide) ?_
  refine z_iconst C9 dL_formula_16 ?_
  exact zl_ret C9 (hAt1.kept (hk2 o (Ne.symm hLi9.2.2.1.1)) (hk2 a (Ne.symm hLi9.2.2.1.2))) hW2 hS2 hr9 hk9 (Nat.le_of_ble_eq_true rfl) (Nat.le_of_ble_eq_true rfl) dL_formula_17 rfl
set_option maxHeartbeats 4000000 in
set_option maxRecDepth 100000 in
theorem c_L_find (l : Launch) (D : va_G) (cJ : ClassId) (o a : Nat) (c : Nat → Nat) (ac : Int32) (re : Int32) (kn : Int32) (z : Int) (b : Bool) (hz : 0 ≤ z ∧ z ≤ 5) (w9 : Nat) (n9 : Int64) (s9 : Value) : zL l yL_find 3 92 0 0 D cJ o a w9 [.ref o, .int (iZ (z)), .int (iZ (zB (b))), .ref w9] c [.int (ac), .int (re), .int (kn)] n9 s9 0 (c) [.int (ac), .int (re), .int (kn)] ((iZ (fdF c (c z.toNat) b z 6))).toInt64 s9 := by
  refine zL.intro (lo := 68) (nA := 4) zw_L_find (by decide) rfl rfl (by decide +kernel) rfl (Nat.le_of_ble_eq_true rfl) ?_
  intro p e s m below meth c0 ls C9 hr9 hk9 ht9 hLi9 hS9 hl9
  have hl9 : lv_has ls 5 [(0, .ref o), (1, .int (iZ (z))), (2, .int (iZ (zB (b)))), (3, .ref w9)] := hl9
  refine lv_aload_n C9.1 C9.2.1 dL_find_0 rfl (lv_at hl9 3 rfl) ?_
  refine lv_aload_n C9.1 C9.2.1 dL_find_1 rfl (lv_at hl9 0 rfl) ?_
  refine lv_iload_n C9.1 C9.2.1 dL_find_2 rfl (lv_at hl9 1 rfl) ?_
  refine lv_iload_n C9.1 C9.2.1 dL_find_3 rfl (lv_at hl9 2 rfl) ?_
  refine zg_call (as := [.int (iZ (z)), .int (iZ (zB (b)))]) C9 hLi9.1 hS9 (fun q h => Or.inr h) (c_X3_find l D cJ o a c ac re kn z b hz) ml_L_160 rfl (by decide) (by decide) hl9 (Nat.le_of_ble_eq_true rfl) rfl dL_find_4 (fun v9 H1 locs1 hv9 hAt1 hS1 hk1 hz1 => ?_)
  subst hv9
  refine lv_i2l C9.1 C9.2.1 dL_find_7 rfl ?_
  refine zw_putN C9 (hLi9.2.1.kept (hk1 w9 hLi9.2.1.lt (fun z => z.elim hLi9.2.2.1.1 hLi9.2.2.1.2))) hS1 (Or.inl rfl) hLi9.2.2.2.2.2.2.2.1 dL_find_8 (fun H2 locs2 hW2 hS2 hk2 hz2 => ?_)
  refine lv_goto (tgt := 18) C9.1 C9.2.1 dL_find_11 (by decide) ?_
  refine z_iconst C9 dL_find_18 ?_
  exact zl_ret C9 (hAt1.kept (hk2 o (Ne.symm hLi9.2.2.1.1)) (hk2 a (Ne.symm hLi9.2.2.1.2))) hW2 hS2 hr9 hk9 (Nat.le_of_ble_eq_true rfl) (Nat.le_of_ble_eq_true rfl) dL_find_19 rfl
set_option maxHeartbeats 4000000 in
set_option maxRecDepth 100000 in
theorem c_L_house (l : Launch) (D : va_G) (cJ : ClassId) (o a : Nat) (c : Nat → Nat) (ac : Int32) (re : Int32) (kn : Int32) (z : Int) (hz : 0 ≤ z ∧ z ≤ 4) (w9 : Nat) (n9 : Int64) (s9 : Value) : zL l yL_house 3 87 0 0 D cJ o a w9 [.ref o, .int (iZ (z)), .ref w9] c [.int (ac), .int (re), .int (kn)] n9 s9 0 (c) [.int (ac), .int (re), .int (kn)] ((hs3 c ac re kn z)).toInt64 s9 := by
  refine zL.intro (lo := 64) (nA := 3) zw_L_house (by decide) rfl rfl (by decide +kernel) rfl (Nat.le_of_ble_eq_true rfl) ?_
  intro p e s m below meth c0 ls C9 hr9 hk9 ht9 hLi9 hS9 hl9
  have hl9 : lv_has ls 4 [(0, .ref o), (1, .int (iZ (z))), (2, .ref w9)] := hl9
  refine lv_aload_n C9.1 C9.2.1 dL_house_0 rfl (lv_at hl9 2 rfl) ?_
  refine lv_aload_n C9.1 C9.2.1 dL_house_1 rfl (lv_at hl9 0 rfl) ?_
  refine lv_iload_n C9.1 C9.2.1 dL_house_2 rfl (lv_at hl9 1 rfl) ?_
  refine zg_call (as := [.int (iZ (z))]) C9 hLi9.1 hS9 (fun q h => Or.inr h) (c_X3_house l D cJ o a c ac re kn z hz) ml_L_163 rfl (by decide) (by decide) hl9 (Nat.le_of_ble_eq_true rfl) rfl dL_house_3 (fun v9 H1 locs1 hv9 hAt1 hS1 hk1 hz1 => ?_)
  subst hv9
  refine lv_i2l C9.1 C9.2.1 dL_house_6 rfl ?_
  refine zw_putN C9 (hLi9.2.1.kept (hk1 w9 hLi9.2.1.lt (fun z => z.elim hLi9.2.2.1.1 hLi9.2.2.1.2))) hS1 (Or.inl rfl) hLi9.2.2.2.2.2.2.2.1 dL_house_7 (fun H2 locs2 hW2 hS2 hk2 hz2 => ?_)
  refine lv_goto (tgt := 16) C9.1 C9.2.1 dL_house_10 (by decide) ?_
  refine z_iconst C9 dL_house_16 ?_
  exact zl_ret C9 (hAt1.kept (hk2 o (Ne.symm hLi9.2.2.1.1)) (hk2 a (Ne.symm hLi9.2.2.1.2))) hW2 hS2 hr9 hk9 (Nat.le_of_ble_eq_true rfl) (Nat.le_of_ble_eq_true rfl) dL_house_17 rfl
set_option maxHeartbeats 4000000 in
set_option maxRecDepth 100000 in
theorem c_L_put_badc (l : Launch) (hlq : l.stackTraces = false) (D : va_G) (cJ : ClassId) (o a : Nat) (c : Nat → Nat) (ac : Int32) (re : Int32) (kn : Int32) (z : Int) (g : Int) (r9z : -2147483648 ≤ z ∧ z ≤ 2147483647) (r9g : -2147483648 ≤ g ∧ g ≤ 2147483647) (hbad : ¬ ((0 ≤ z ∧ z ≤ 5))) (w9 : Nat) (n9 : Int64) (s9 : Value) : zL l yL_put 8 149 1 6 D cJ o a w9 [.ref o, .int (iZ (z)), .int (iZ (g)), .ref w9] c [.int (ac), .int (re), .int (kn)] n9 s9 1 c [.int (ac), .int (re), .int (kn)] n9 s9 := by
  refine zL.intro (lo := 125) (nA := 4) zw_L_put (by decide) rfl rfl (by decide +kernel) rfl (Nat.le_of_ble_eq_true rfl) ?_
  intro p e s m below meth c0 ls C9 hr9 hk9 ht9 hLi9 hS9 hl9
  have hl9 : lv_has ls 5 [(0, .ref o), (1, .int (iZ (z))), (2, .int (iZ (g))), (3, .ref w9)] := hl9
  refine lv_aload_n C9.1 C9.2.1 dL_put_0 rfl (lv_at hl9 3 rfl) ?_
  refine lv_aload_n C9.1 C9.2.1 dL_put_1 rfl (lv_at hl9 0 rfl) ?_
  refine lv_iload_n C9.1 C9.2.1 dL_put_2 rfl (lv_at hl9 1 rfl) ?_
  refine lv_iload_n C9.1 C9.2.1 dL_put_3 rfl (lv_at hl9 2 rfl) ?_
  refine zg_callX (as := [.int (iZ (z)), .int (iZ (g))]) C9 hLi9.1 (hLi9.2.2.2.1.narrow fun q h => Or.inr h) hS9 (fun q h => Or.inr h) (c_X3_put_badc l hlq D cJ o a c ac re kn z g r9z r9g hbad) ml_L_7 rfl (by decide) (by decide) hl9 (Nat.le_of_ble_eq_true rfl) rfl dL_put_4 (fun H1 locs1 ce1 q1 hAt1 hS1 hk1 hz1 hc1 hv1 hf1 => ?_)
  have hW1 := hLi9.2.1.kept (hk1 w9 hLi9.2.1.lt (fun z => z.elim hLi9.2.2.1.1 hLi9.2.2.1.2))
  refine zl_catch1 C9 (ht9.trans rfl) (by decide +kernel) (by decide) cl_L_19 hLi9.2.2.2.2.1 hc1 hv1 hf1 ?_
  refine lv_astore C9.1 C9.2.1 (x := q1) dL_put_14 hl9 (by decide) rfl (fun ls2 hl2 => ?_)
  refine z_iconst C9 dL_put_16 ?_
  exact zl_ret C9 hAt1 hW1 hS1 hr9 hk9 (Nat.le_of_ble_eq_true rfl) (Nat.le_of_ble_eq_true rfl) dL_put_17 rfl
set_option maxHeartbeats 4000000 in
set_option maxRecDepth 100000 in
theorem c_L_mono_badc (l : Launch) (hlq : l.stackTraces = false) (D : va_G) (cJ : ClassId) (o a : Nat) (c : Nat → Nat) (ac : Int32) (re : Int32) (kn : Int32) (z : Int) (g : Int) (r9z : -2147483648 ≤ z ∧ z ≤ 2147483647) (r9g : -2147483648 ≤ g ∧ g ≤ 2147483647) (hbad : ¬ ((0 ≤ z ∧ z ≤ 5))) (w9 : Nat) (n9 : Int64) (s9 : Value) : zL l yL_mono 8 149 1 6 D cJ o a w9 [.ref o, .int (iZ (z)), .int (iZ (g)), .ref w9] c [.int (ac), .int (re), .int (kn)] n9 s9 1 c [.int (ac), .int (re), .int (kn)] n9 s9 := by
  refine zL.intro (lo := 125) (nA := 4) zw_L_mono (by decide) rfl rfl (by decide +kernel) rfl (Nat.le_of_ble_eq_true rfl) ?_
  intro p e s m below meth c0 ls C9 hr9 hk9 ht9 hLi9 hS9 hl9
  have hl9 : lv_has ls 5 [(0, .ref o), (1, .int (iZ (z))), (2, .int (iZ (g))), (3, .ref w9)] := hl9
  refine lv_aload_n C9.1 C9.2.1 dL_mono_0 rfl (lv_at hl9 3 rfl) ?_
  refine lv_aload_n C9.1 C9.2.1 dL_mono_1 rfl (lv_at hl9 0 rfl) ?_
  refine lv_iload_n C9.1 C9.2.1 dL_mono_2 rfl (lv_at hl9 1 rfl) ?_
  refine lv_iload_n C9.1 C9.2.1 dL_mono_3 rfl (lv_at hl9 2 rfl) ?_
  refine zg_callX (as := [.int (iZ (z)), .int (iZ (g))]) C9 hLi9.1 (hLi9.2.2.2.1.narrow fun q h => Or.inr h) hS9 (fun q h => Or.inr h) (c_X3_mono_badc l hlq D cJ o a c ac re kn z g r9z r9g hbad) ml_L_21 rfl (by decide) (by decide) hl9 (Nat.le_of_ble_eq_true rfl) rfl dL_mono_4 (fun H1 locs1 ce1 q1 hAt1 hS1 hk1 hz1 hc1 hv1 hf1 => ?_)
  have hW1 := hLi9.2.1.kept (hk1 w9 hLi9.2.1.lt (fun z => z.elim hLi9.2.2.1.1 hLi9.2.2.1.2))
  refine zl_catch1 C9 (ht9.trans rfl) (by decide +kernel) (by decide) cl_L_19 hLi9.2.2.2.2.1 hc1 hv1 hf1 ?_
  refine lv_astore C9.1 C9.2.1 (x := q1) dL_mono_14 hl9 (by decide) rfl (fun ls2 hl2 => ?_)
  refine z_iconst C9 dL_mono_16 ?_
  exact zl_ret C9 hAt1 hW1 hS1 hr9 hk9 (Nat.le_of_ble_eq_true rfl) (Nat.le_of_ble_eq_true rfl) dL_mono_17 rfl
set_option maxHeartbeats 4000000 in
set_option maxRecDepth 100000 in
theorem c_L_mono_badr (l : Launch) (hlq : l.stackTraces = false) (D : va_G) (cJ : ClassId) (o a : Nat) (c : Nat → Nat) (ac : Int32) (re : Int32) (kn : Int32) (z : Int) (g : Int) (r9z : -2147483648 ≤ z ∧ z ≤ 2147483647) (r9g : -2147483648 ≤ g ∧ g ≤ 2147483647) (hz : 0 ≤ z ∧ z ≤ 5) (hbad : ¬ ((0 ≤ g ∧ g ≤ 32))) (w9 : Nat) (n9 : Int64) (s9 : Value) : zL l yL_mono 8 150 1 6 D cJ o a w9 [.ref o, .int (iZ (z)), .int (iZ (g)), .ref w9] c [.int (ac), .int (re), .int (kn)] n9 s9 2 c [.int (ac), .int (re), .int (kn)] n9 s9 := by
  refine zL.intro (lo := 126) (nA := 4) zw_L_mono (by decide) rfl rfl (by decide +kernel) rfl (Nat.le_of_ble_eq_true rfl) ?_
  intro p e s m below meth c0 ls C9 hr9 hk9 ht9 hLi9 hS9 hl9
  have hl9 : lv_has ls 5 [(0, .ref o), (1, .int (iZ (z))), (2, .int (iZ (g))), (3, .ref w9)] := hl9
  refine lv_aload_n C9.1 C9.2.1 dL_mono_0 rfl (lv_at hl9 3 rfl) ?_
  refine lv_aload_n C9.1 C9.2.1 dL_mono_1 rfl (lv_at hl9 0 rfl) ?_
  refine lv_iload_n C9.1 C9.2.1 dL_mono_2 rfl (lv_at hl9 1 rfl) ?_
  refine lv_iload_n C9.1 C9.2.1 dL_mono_3 rfl (lv_at hl9 2 rfl) ?_
  refine zg_callX (as := [.int (iZ (z)), .int (iZ (g))]) C9 hLi9.1 (hLi9.2.2.2.1.narrow fun q h => Or.inr h) hS9 (fun q h => Or.inr h) (c_X3_mono_badr l hlq D cJ o a c ac re kn z g r9z r9g hz hbad) ml_L_21 rfl (by decide) (by decide) hl9 (Nat.le_of_ble_eq_true rfl) rfl dL_mono_4 (fun H1 locs1 ce1 q1 hAt1 hS1 hk1 hz1 hc1 hv1 hf1 => ?_)
  have hW1 := hLi9.2.1.kept (hk1 w9 hLi9.2.1.lt (fun z => z.elim hLi9.2.2.1.1 hLi9.2.2.1.2))
  refine zl_catch2 C9 (ht9.trans rfl) (by decide) cl_L_19 hLi9.2.2.2.2.2.2.1 (by decide +kernel) (by decide) cl_L_24 hLi9.2.2.2.2.2.1 hc1 hv1 hf1 ?_
  refine lv_astore C9.1 C9.2.1 (x := q1) dL_mono_18 hl9 (by decide) rfl (fun ls2 hl2 => ?_)
  refine z_iconst C9 dL_mono_20 ?_
  exact zl_ret C9 hAt1 hW1 hS1 hr9 hk9 (Nat.le_of_ble_eq_true rfl) (Nat.le_of_ble_eq_true rfl) dL_mono_21 rfl
set_option maxHeartbeats 4000000 in
set_option maxRecDepth 100000 in
theorem c_L_digit_badc (l : Launch) (hlq : l.stackTraces = false) (D : va_G) (cJ : ClassId) (o a : Nat) (c : Nat → Nat) (ac : Int32) (re : Int32) (kn : Int32) (z : Int) (g : Int) (b : Bool) (r9z : -2147483648 ≤ z ∧ z ≤ 2147483647) (r9g : -2147483648 ≤ g ∧ g ≤ 2147483647) (hbad : ¬ ((0 ≤ z ∧ z ≤ 5))) (w9 : Nat) (n9 : Int64) (s9 : Value) : zL l yL_digit 9 174 1 6 D cJ o a w9 [.ref o, .int (iZ (z)), .int (iZ (g)), .int (iZ (zB (b))), .ref w9] c [.int (ac), .int (re), .int (kn)] n9 s9 1 c [.int (ac), .int (re), .int (kn)] n9 s9 := by
  refine zL.intro (lo := 149) (nA := 5) zw_L_digit (by decide) rfl rfl (by decide +kernel) rfl (Nat.le_of_ble_eq_true rfl) ?_
  intro p e s m below meth c0 ls C9 hr9 hk9 ht9 hLi9 hS9 hl9
  have hl9 : lv_has ls 6 [(0, .ref o), (1, .int (iZ (z))), (2, .int (iZ (g))), (3, .int (iZ (zB (b)))), (4, .ref w9)] := hl9
  refine lv_aload C9.1 C9.2.1 dL_digit_0 (lv_at hl9 4 rfl) ?_
  refine lv_aload_n C9.1 C9.2.1 dL_digit_2 rfl (lv_at hl9 0 rfl) ?_
  refine lv_iload_n C9.1 C9.2.1 dL_digit_3 rfl (lv_at hl9 1 rfl) ?_
  refine lv_iload_n C9.1 C9.2.1 dL_digit_4 rfl (lv_at hl9 2 rfl) ?_
  refine lv_iload_n C9.1 C9.2.1 dL_digit_5 rfl (lv_at hl9 3 rfl) ?_
  refine zg_callX (as := [.int (iZ (z)), .int (iZ (g)), .int (iZ (zB (b)))]) C9 hLi9.1 (hLi9.2.2.2.1.narrow fun q h => Or.inr h) hS9 (fun q h => Or.inr h) (c_X3_digit_badc l hlq D cJ o a c ac re kn z g b r9z r9g hbad) ml_L_26 rfl (by decide) (by decide) hl9 (Nat.le_of_ble_eq_true rfl) rfl dL_digit_6 (fun H1 locs1 ce1 q1 hAt1 hS1 hk1 hz1 hc1 hv1 hf1 => ?_)
  have hW1 := hLi9.2.1.kept (hk1 w9 hLi9.2.1.lt (fun z => z.elim hLi9.2.2.1.1 hLi9.2.2.1.2))
  refine zl_catch1 C9 (ht9.trans rfl) (by decide +kernel) (by decide) cl_L_19 hLi9.2.2.2.2.1 hc1 hv1 hf1 ?_
  refine lv_astore C9.1 C9.2.1 (x := q1) dL_digit_23 hl9 (by decide) rfl (fun ls2 hl2 => ?_)
  refine z_iconst C9 dL_digit_25 ?_
  exact zl_ret C9 hAt1 hW1 hS1 hr9 hk9 (Nat.le_of_ble_eq_true rfl) (Nat.le_of_ble_eq_true rfl) dL_digit_26 rfl
set_option maxHeartbeats 4000000 in
set_option maxRecDepth 100000 in
theorem c_L_digit_badr (l : Launch) (hlq : l.stackTraces = false) (D : va_G) (cJ : ClassId) (o a : Nat) (c : Nat → Nat) (ac : Int32) (re : Int32) (kn : Int32) (z : Int) (g : Int) (b : Bool) (r9z : -2147483648 ≤ z ∧ z ≤ 2147483647) (r9g : -2147483648 ≤ g ∧ g ≤ 2147483647) (hz : 0 ≤ z ∧ z ≤ 5) (hbad : ¬ ((0 ≤ g ∧ g ≤ 32))) (w9 : Nat) (n9 : Int64) (s9 : Value) : zL l yL_digit 8 154 1 6 D cJ o a w9 [.ref o, .int (iZ (z)), .int (iZ (g)), .int (iZ (zB (b))), .ref w9] c [.int (ac), .int (re), .int (kn)] n9 s9 2 c [.int (ac), .int (re), .int (kn)] n9 s9 := by
  refine zL.intro (lo := 129) (nA := 5) zw_L_digit (by decide) rfl rfl (by decide +kernel) rfl (Nat.le_of_ble_eq_true rfl) ?_
  intro p e s m below meth c0 ls C9 hr9 hk9 ht9 hLi9 hS9 hl9
  have hl9 : lv_has ls 6 [(0, .ref o), (1, .int (iZ (z))), (2, .int (iZ (g))), (3, .int (iZ (zB (b)))), (4, .ref w9)] := hl9
  refine lv_aload C9.1 C9.2.1 dL_digit_0 (lv_at hl9 4 rfl) ?_
  refine lv_aload_n C9.1 C9.2.1 dL_digit_2 rfl (lv_at hl9 0 rfl) ?_
  refine lv_iload_n C9.1 C9.2.1 dL_digit_3 rfl (lv_at hl9 1 rfl) ?_
  refine lv_iload_n C9.1 C9.2.1 dL_digit_4 rfl (lv_at hl9 2 rfl) ?_
  refine lv_iload_n C9.1 C9.2.1 dL_digit_5 rfl (lv_at hl9 3 rfl) ?_
  refine zg_callX (as := [.int (iZ (z)), .int (iZ (g)), .int (iZ (zB (b)))]) C9 hLi9.1 (hLi9.2.2.2.1.narrow fun q h => Or.inr h) hS9 (fun q h => Or.inr h) (c_X3_digit_badr l hlq D cJ o a c ac re kn z g b r9z r9g hz hbad) ml_L_26 rfl (by decide) (by decide) hl9 (Nat.le_of_ble_eq_true rfl) rfl dL_digit_6 (fun H1 locs1 ce1 q1 hAt1 hS1 hk1 hz1 hc1 hv1 hf1 => ?_)
  have hW1 := hLi9.2.1.kept (hk1 w9 hLi9.2.1.lt (fun z => z.elim hLi9.2.2.1.1 hLi9.2.2.1.2))
  refine zl_catch2 C9 (ht9.trans rfl) (by decide) cl_L_19 hLi9.2.2.2.2.2.2.1 (by decide +kernel) (by decide) cl_L_24 hLi9.2.2.2.2.2.1 hc1 hv1 hf1 ?_
  refine lv_astore C9.1 C9.2.1 (x := q1) dL_digit_27 hl9 (by decide) rfl (fun ls2 hl2 => ?_)
  refine z_iconst C9 dL_digit_29 ?_
  exact zl_ret C9 hAt1 hW1 hS1 hr9 hk9 (Nat.le_of_ble_eq_true rfl) (Nat.le_of_ble_eq_true rfl) dL_digit_30 rfl
set_option maxHeartbeats 4000000 in
set_option maxRecDepth 100000 in
theorem c_L_flip_badc (l : Launch) (hlq : l.stackTraces = false) (D : va_G) (cJ : ClassId) (o a : Nat) (c : Nat → Nat) (ac : Int32) (re : Int32) (kn : Int32) (z : Int) (g : Int) (r9z : -2147483648 ≤ z ∧ z ≤ 2147483647) (r9g : -2147483648 ≤ g ∧ g ≤ 2147483647) (hbad : ¬ ((0 ≤ z ∧ z ≤ 5))) (w9 : Nat) (n9 : Int64) (s9 : Value) : zL l yL_flip 9 172 1 6 D cJ o a w9 [.ref o, .int (iZ (z)), .int (iZ (g)), .ref w9] c [.int (ac), .int (re), .int (kn)] n9 s9 1 c [.int (ac), .int (re), .int (kn)] n9 s9 := by
  refine zL.intro (lo := 148) (nA := 4) zw_L_flip (by decide) rfl rfl (by decide +kernel) rfl (Nat.le_of_ble_eq_true rfl) ?_
  intro p e s m below meth c0 ls C9 hr9 hk9 ht9 hLi9 hS9 hl9
  have hl9 : lv_has ls 5 [(0, .ref o), (1, .int (iZ (z))), (2, .int (iZ (g))), (3, .ref w9)] := hl9
  refine lv_aload_n C9.1 C9.2.1 dL_flip_0 rfl (lv_at hl9 3 rfl) ?_
  refine lv_aload_n C9.1 C9.2.1 dL_flip_1 rfl (lv_at hl9 0 rfl) ?_
  refine lv_iload_n C9.1 C9.2.1 dL_flip_2 rfl (lv_at hl9 1 rfl) ?_
  refine lv_iload_n C9.1 C9.2.1 dL_flip_3 rfl (lv_at hl9 2 rfl) ?_
  refine zg_callX (as := [.int (iZ (z)), .int (iZ (g))]) C9 hLi9.1 (hLi9.2.2.2.1.narrow fun q h => Or.inr h) hS9 (fun q h => Or.inr h) (c_X3_flip_badc l hlq D cJ o a c ac re kn z g r9z r9g hbad) ml_L_30 rfl (by decide) (by decide) hl9 (Nat.le_of_ble_eq_true rfl) rfl dL_flip_4 (fun H1 locs1 ce1 q1 hAt1 hS1 hk1 hz1 hc1 hv1 hf1 => ?_)
  have hW1 := hLi9.2.1.kept (hk1 w9 hLi9.2.1.lt (fun z => z.elim hLi9.2.2.1.1 hLi9.2.2.1.2))
  refine zl_catch1 C9 (ht9.trans rfl) (by decide +kernel) (by decide) cl_L_19 hLi9.2.2.2.2.1 hc1 hv1 hf1 ?_
  refine lv_astore C9.1 C9.2.1 (x := q1) dL_flip_21 hl9 (by decide) rfl (fun ls2 hl2 => ?_)
  refine z_iconst C9 dL_flip_23 ?_
  exact zl_ret C9 hAt1 hW1 hS1 hr9 hk9 (Nat.le_of_ble_eq_true rfl) (Nat.le_of_ble_eq_true rfl) dL_flip_24 rfl
set_option maxHeartbeats 4000000 in
set_option maxRecDepth 100000 in
theorem c_L_flip_badr (l : Launch) (hlq : l.stackTraces = false) (D : va_G) (cJ : ClassId) (o a : Nat) (c : Nat → Nat) (ac : Int32) (re : Int32) (kn : Int32) (z : Int) (g : Int) (r9z : -2147483648 ≤ z ∧ z ≤ 2147483647) (r9g : -2147483648 ≤ g ∧ g ≤ 2147483647) (hz : 0 ≤ z ∧ z ≤ 5) (hbad : ¬ ((0 ≤ g ∧ g ≤ 32))) (w9 : Nat) (n9 : Int64) (s9 : Value) : zL l yL_flip 8 152 1 6 D cJ o a w9 [.ref o, .int (iZ (z)), .int (iZ (g)), .ref w9] c [.int (ac), .int (re), .int (kn)] n9 s9 2 c [.int (ac), .int (re), .int (kn)] n9 s9 := by
  refine zL.intro (lo := 128) (nA := 4) zw_L_flip (by decide) rfl rfl (by decide +kernel) rfl (Nat.le_of_ble_eq_true rfl) ?_
  intro p e s m below meth c0 ls C9 hr9 hk9 ht9 hLi9 hS9 hl9
  have hl9 : lv_has ls 5 [(0, .ref o), (1, .int (iZ (z))), (2, .int (iZ (g))), (3, .ref w9)] := hl9
  refine lv_aload_n C9.1 C9.2.1 dL_flip_0 rfl (lv_at hl9 3 rfl) ?_
  refine lv_aload_n C9.1 C9.2.1 dL_flip_1 rfl (lv_at hl9 0 rfl) ?_
  refine lv_iload_n C9.1 C9.2.1 dL_flip_2 rfl (lv_at hl9 1 rfl) ?_
  refine lv_iload_n C9.1 C9.2.1 dL_flip_3 rfl (lv_at hl9 2 rfl) ?_
  refine zg_callX (as := [.int (iZ (z)), .int (iZ (g))]) C9 hLi9.1 (hLi9.2.2.2.1.narrow fun q h => Or.inr h) hS9 (fun q h => Or.inr h) (c_X3_flip_badr l hlq D cJ o a c ac re kn z g r9z r9g hz hbad) ml_L_30 rfl (by decide) (by decide) hl9 (Nat.le_of_ble_eq_true rfl) rfl dL_flip_4 (fun H1 locs1 ce1 q1 hAt1 hS1 hk1 hz1 hc1 hv1 hf1 => ?_)
  have hW1 := hLi9.2.1.kept (hk1 w9 hLi9.2.1.lt (fun z => z.elim hLi9.2.2.1.1 hLi9.2.2.1.2))
  refine zl_catch2 C9 (ht9.trans rfl) (by decide) cl_L_19 hLi9.2.2.2.2.2.2.1 (by decide +kernel) (by decide) cl_L_24 hLi9.2.2.2.2.2.1 hc1 hv1 hf1 ?_
  refine lv_astore C9.1 C9.2.1 (x := q1) dL_flip_25 hl9 (by decide) rfl (fun ls2 hl2 => ?_)
  refine z_iconst C9 dL_flip_27 ?_
  exact zl_ret C9 hAt1 hW1 hS1 hr9 hk9 (Nat.le_of_ble_eq_true rfl) (Nat.le_of_ble_eq_true rfl) dL_flip_28 rfl
set_option maxHeartbeats 4000000 in
set_option maxRecDepth 100000 in
theorem c_L_copy_badc (l : Launch) (hlq : l.stackTraces = false) (D : va_G) (cJ : ClassId) (o a : Nat) (c : Nat → Nat) (ac : Int32) (re : Int32) (kn : Int32) (f : Int) (z : Int) (r9f : -2147483648 ≤ f ∧ f ≤ 2147483647) (r9z : -2147483648 ≤ z ∧ z ≤ 2147483647) (hbad : ¬ ((0 ≤ f ∧ f ≤ 5) ∧ (0 ≤ z ∧ z ≤ 5))) (w9 : Nat) (n9 : Int64) (s9 : Value) : zL l yL_copy 9 172 1 6 D cJ o a w9 [.ref o, .int (iZ (f)), .int (iZ (z)), .ref w9] c [.int (ac), .int (re), .int (kn)] n9 s9 1 c [.int (ac), .int (re), .int (kn)] n9 s9 := by
  refine zL.intro (lo := 148) (nA := 4) zw_L_copy (by decide) rfl rfl (by decide +kernel) rfl (Nat.le_of_ble_eq_true rfl) ?_
  intro p e s m below meth c0 ls C9 hr9 hk9 ht9 hLi9 hS9 hl9
  have hl9 : lv_has ls 5 [(0, .ref o), (1, .int (iZ (f))), (2, .int (iZ (z))), (3, .ref w9)] := hl9
  refine lv_aload_n C9.1 C9.2.1 dL_copy_0 rfl (lv_at hl9 3 rfl) ?_
  refine lv_aload_n C9.1 C9.2.1 dL_copy_1 rfl (lv_at hl9 0 rfl) ?_
  refine lv_iload_n C9.1 C9.2.1 dL_copy_2 rfl (lv_at hl9 1 rfl) ?_
  refine lv_iload_n C9.1 C9.2.1 dL_copy_3 rfl (lv_at hl9 2 rfl) ?_
  refine zg_callX (as := [.int (iZ (f)), .int (iZ (z))]) C9 hLi9.1 (hLi9.2.2.2.1.narrow fun q h => Or.inr h) hS9 (fun q h => Or.inr h) (c_X3_copy_badc l hlq D cJ o a c ac re kn f z r9f r9z hbad) ml_L_34 rfl (by decide) (by decide) hl9 (Nat.le_of_ble_eq_true rfl) rfl dL_copy_4 (fun H1 locs1 ce1 q1 hAt1 hS1 hk1 hz1 hc1 hv1 hf1 => ?_)
  have hW1 := hLi9.2.1.kept (hk1 w9 hLi9.2.1.lt (fun z => z.elim hLi9.2.2.1.1 hLi9.2.2.1.2))
  refine zl_catch1 C9 (ht9.trans rfl) (by decide +kernel) (by decide) cl_L_19 hLi9.2.2.2.2.1 hc1 hv1 hf1 ?_
  refine lv_astore C9.1 C9.2.1 (x := q1) dL_copy_14 hl9 (by decide) rfl (fun ls2 hl2 => ?_)
  refine z_iconst C9 dL_copy_16 ?_
  exact zl_ret C9 hAt1 hW1 hS1 hr9 hk9 (Nat.le_of_ble_eq_true rfl) (Nat.le_of_ble_eq_true rfl) dL_copy_17 rfl
set_option maxHeartbeats 4000000 in
set_option maxRecDepth 100000 in
theorem c_L_swap_badc (l : Launch) (hlq : l.stackTraces = false) (D : va_G) (cJ : ClassId) (o a : Nat) (c : Nat → Nat) (ac : Int32) (re : Int32) (kn : Int32) (f : Int) (z : Int) (r9f : -2147483648 ≤ f ∧ f ≤ 2147483647) (r9z : -2147483648 ≤ z ∧ z ≤ 2147483647) (hbad : ¬ ((0 ≤ f ∧ f ≤ 5) ∧ (0 ≤ z ∧ z ≤ 5))) (w9 : Nat) (n9 : Int64) (s9 : Value) : zL l yL_swap 9 174 1 6 D cJ o a w9 [.ref o, .int (iZ (f)), .int (iZ (z)), .ref w9] c [.int (ac), .int (re), .int (kn)] n9 s9 1 c [.int (ac), .int (re), .int (kn)] n9 s9 := by
  refine zL.intro (lo := 150) (nA := 4) zw_L_swap (by decide) rfl rfl (by decide +kernel) rfl (Nat.le_of_ble_eq_true rfl) ?_
  intro p e s m below meth c0 ls C9 hr9 hk9 ht9 hLi9 hS9 hl9
  have hl9 : lv_has ls 5 [(0, .ref o), (1, .int (iZ (f))), (2, .int (iZ (z))), (3, .ref w9)] := hl9
  refine lv_aload_n C9.1 C9.2.1 dL_swap_0 rfl (lv_at hl9 3 rfl) ?_
  refine lv_aload_n C9.1 C9.2.1 dL_swap_1 rfl (lv_at hl9 0 rfl) ?_
  refine lv_iload_n C9.1 C9.2.1 dL_swap_2 rfl (lv_at hl9 1 rfl) ?_
  refine lv_iload_n C9.1 C9.2.1 dL_swap_3 rfl (lv_at hl9 2 rfl) ?_
  refine zg_callX (as := [.int (iZ (f)), .int (iZ (z))]) C9 hLi9.1 (hLi9.2.2.2.1.narrow fun q h => Or.inr h) hS9 (fun q h => Or.inr h) (c_X3_swap_badc l hlq D cJ o a c ac re kn f z r9f r9z hbad) ml_L_37 rfl (by decide) (by decide) hl9 (Nat.le_of_ble_eq_true rfl) rfl dL_swap_4 (fun H1 locs1 ce1 q1 hAt1 hS1 hk1 hz1 hc1 hv1 hf1 => ?_)
  have hW1 := hLi9.2.1.kept (hk1 w9 hLi9.2.1.lt (fun z => z.elim hLi9.2.2.1.1 hLi9.2.2.1.2))
  refine zl_catch1 C9 (ht9.trans rfl) (by decide +kernel) (by decide) cl_L_19 hLi9.2.2.2.2.1 hc1 hv1 hf1 ?_
  refine lv_astore C9.1 C9.2.1 (x := q1) dL_swap_14 hl9 (by decide) rfl (fun ls2 hl2 => ?_)
  refine z_iconst C9 dL_swap_16 ?_
  exact zl_ret C9 hAt1 hW1 hS1 hr9 hk9 (Nat.le_of_ble_eq_true rfl) (Nat.le_of_ble_eq_true rfl) dL_swap_17 rfl
set_option maxHeartbeats 4000000 in
set_option maxRecDepth 100000 in
theorem c_L_end_badc (l : Launch) (hlq : l.stackTraces = false) (D : va_G) (cJ : ClassId) (o a : Nat) (c : Nat → Nat) (ac : Int32) (re : Int32) (kn : Int32) (f : Int) (g : Int) (b : Bool) (z : Int) (r9f : -2147483648 ≤ f ∧ f ≤ 2147483647) (r9g : -2147483648 ≤ g ∧ g ≤ 2147483647) (r9z : -2147483648 ≤ z ∧ z ≤ 2147483647) (hbad : ¬ ((0 ≤ f ∧ f ≤ 5) ∧ (0 ≤ g ∧ g ≤ 5) ∧ (0 ≤ z ∧ z ≤ 5))) (w9 : Nat) (n9 : Int64) (s9 : Value) : zL l yL_end 9 178 1 6 D cJ o a w9 [.ref o, .int (iZ (f)), .int (iZ (g)), .int (iZ (zB (b))), .int (iZ (z)), .ref w9] c [.int (ac), .int (re), .int (kn)] n9 s9 1 c [.int (ac), .int (re), .int (kn)] n9 s9 := by
  refine zL.intro (lo := 152) (nA := 6) zw_L_end (by decide) rfl rfl (by decide +kernel) rfl (Nat.le_of_ble_eq_true rfl) ?_
  intro p e s m below meth c0 ls C9 hr9 hk9 ht9 hLi9 hS9 hl9
  have hl9 : lv_has ls 7 [(0, .ref o), (1, .int (iZ (f))), (2, .int (iZ (g))), (3, .int (iZ (zB (b)))), (4, .int (iZ (z))), (5, .ref w9)] := hl9
  refine lv_aload C9.1 C9.2.1 dL_end_0 (lv_at hl9 5 rfl) ?_
  refine lv_aload_n C9.1 C9.2.1 dL_end_2 rfl (lv_at hl9 0 rfl) ?_
  refine lv_iload_n C9.1 C9.2.1 dL_end_3 rfl (lv_at hl9 1 rfl) ?_
  refine lv_iload_n C9.1 C9.2.1 dL_end_4 rfl (lv_at hl9 2 rfl) ?_
  refine lv_iload_n C9.1 C9.2.1 dL_end_5 rfl (lv_at hl9 3 rfl) ?_
  refine lv_iload C9.1 C9.2.1 dL_end_6 (lv_at hl9 4 rfl) ?_
  refine zg_callX (as := [.int (iZ (f)), .int (iZ (g)), .int (iZ (zB (b))), .int (iZ (z))]) C9 hLi9.1 (hLi9.2.2.2.1.narrow fun q h => Or.inr h) hS9 (fun q h => Or.inr h) (c_X3_end_badc l hlq D cJ o a c ac re kn f g b z r9f r9g r9z hbad) ml_L_40 rfl (by decide) (by decide) hl9 (Nat.le_of_ble_eq_true rfl) rfl dL_end_8 (fun H1 locs1 ce1 q1 hAt1 hS1 hk1 hz1 hc1 hv1 hf1 => ?_)
  have hW1 := hLi9.2.1.kept (hk1 w9 hLi9.2.1.lt (fun z => z.elim hLi9.2.2.1.1 hLi9.2.2.1.2))
  refine zl_catch1 C9 (ht9.trans rfl) (by decide +kernel) (by decide) cl_L_19 hLi9.2.2.2.2.1 hc1 hv1 hf1 ?_
  refine lv_astore C9.1 C9.2.1 (x := q1) dL_end_18 hl9 (by decide) rfl (fun ls2 hl2 => ?_)
  refine z_iconst C9 dL_end_20 ?_
  exact zl_ret C9 hAt1 hW1 hS1 hr9 hk9 (Nat.le_of_ble_eq_true rfl) (Nat.le_of_ble_eq_true rfl) dL_end_21 rfl
set_option maxHeartbeats 4000000 in
set_option maxRecDepth 100000 in
theorem c_L_join_badc (l : Launch) (hlq : l.stackTraces = false) (D : va_G) (cJ : ClassId) (o a : Nat) (c : Nat → Nat) (ac : Int32) (re : Int32) (kn : Int32) (f : Int) (g : Int) (h : Int) (z : Int) (r9f : -2147483648 ≤ f ∧ f ≤ 2147483647) (r9g : -2147483648 ≤ g ∧ g ≤ 2147483647) (r9h : -2147483648 ≤ h ∧ h ≤ 2147483647) (r9z : -2147483648 ≤ z ∧ z ≤ 2147483647) (hbad : ¬ ((0 ≤ f ∧ f ≤ 5) ∧ (0 ≤ g ∧ g ≤ 5) ∧ (0 ≤ z ∧ z ≤ 5))) (w9 : Nat) (n9 : Int64) (s9 : Value) : zL l yL_join 9 178 1 6 D cJ o a w9 [.ref o, .int (iZ (f)), .int (iZ (g)), .int (iZ (h)), .int (iZ (z)), .ref w9] c [.int (ac), .int (re), .int (kn)] n9 s9 1 c [.int (ac), .int (re), .int (kn)] n9 s9 := by
  refine zL.intro (lo := 152) (nA := 6) zw_L_join (by decide) rfl rfl (by decide +kernel) rfl (Nat.le_of_ble_eq_true rfl) ?_
  intro p e s m below meth c0 ls C9 hr9 hk9 ht9 hLi9 hS9 hl9
  have hl9 : lv_has ls 7 [(0, .ref o), (1, .int (iZ (f))), (2, .int (iZ (g))), (3, .int (iZ (h))), (4, .int (iZ (z))), (5, .ref w9)] := hl9
  refine lv_aload C9.1 C9.2.1 dL_join_0 (lv_at hl9 5 rfl) ?_
  refine lv_aload_n C9.1 C9.2.1 dL_join_2 rfl (lv_at hl9 0 rfl) ?_
  refine lv_iload_n C9.1 C9.2.1 dL_join_3 rfl (lv_at hl9 1 rfl) ?_
  refine lv_iload_n C9.1 C9.2.1 dL_join_4 rfl (lv_at hl9 2 rfl) ?_
  refine lv_iload_n C9.1 C9.2.1 dL_join_5 rfl (lv_at hl9 3 rfl) ?_
  refine lv_iload C9.1 C9.2.1 dL_join_6 (lv_at hl9 4 rfl) ?_
  refine zg_callX (as := [.int (iZ (f)), .int (iZ (g)), .int (iZ (h)), .int (iZ (z))]) C9 hLi9.1 (hLi9.2.2.2.1.narrow fun q h => Or.inr h) hS9 (fun q h => Or.inr h) (c_X3_join_badc l hlq D cJ o a c ac re kn f g h z r9f r9g r9h r9z hbad) ml_L_44 rfl (by decide) (by decide) hl9 (Nat.le_of_ble_eq_true rfl) rfl dL_join_8 (fun H1 locs1 ce1 q1 hAt1 hS1 hk1 hz1 hc1 hv1 hf1 => ?_)
  have hW1 := hLi9.2.1.kept (hk1 w9 hLi9.2.1.lt (fun z => z.elim hLi9.2.2.1.1 hLi9.2.2.1.2))
  refine zl_catch1 C9 (ht9.trans rfl) (by decide +kernel) (by decide) cl_L_19 hLi9.2.2.2.2.1 hc1 hv1 hf1 ?_
  refine lv_astore C9.1 C9.2.1 (x := q1) dL_join_18 hl9 (by decide) rfl (fun ls2 hl2 => ?_)
  refine z_iconst C9 dL_join_20 ?_
  exact zl_ret C9 hAt1 hW1 hS1 hr9 hk9 (Nat.le_of_ble_eq_true rfl) (Nat.le_of_ble_eq_true rfl) dL_join_21 rfl
set_option maxHeartbeats 4000000 in
set_option maxRecDepth 100000 in
theorem c_L_join_badr (l : Launch) (hlq : l.stackTraces = false) (D : va_G) (cJ : ClassId) (o a : Nat) (c : Nat → Nat) (ac : Int32) (re : Int32) (kn : Int32) (f : Int) (g : Int) (h : Int) (z : Int) (r9f : -2147483648 ≤ f ∧ f ≤ 2147483647) (r9g : -2147483648 ≤ g ∧ g ≤ 2147483647) (r9h : -2147483648 ≤ h ∧ h ≤ 2147483647) (r9z : -2147483648 ≤ z ∧ z ≤ 2147483647) (hf : 0 ≤ f ∧ f ≤ 5) (hg : 0 ≤ g ∧ g ≤ 5) (hz : 0 ≤ z ∧ z ≤ 5) (hbad : ¬ ((0 ≤ h ∧ h ≤ 3))) (w9 : Nat) (n9 : Int64) (s9 : Value) : zL l yL_join 8 158 1 6 D cJ o a w9 [.ref o, .int (iZ (f)), .int (iZ (g)), .int (iZ (h)), .int (iZ (z)), .ref w9] c [.int (ac), .int (re), .int (kn)] n9 s9 2 c [.int (ac), .int (re), .int (kn)] n9 s9 := by
  refine zL.intro (lo := 132) (nA := 6) zw_L_join (by decide) rfl rfl (by decide +kernel) rfl (Nat.le_of_ble_eq_true rfl) ?_
  intro p e s m below meth c0 ls C9 hr9 hk9 ht9 hLi9 hS9 hl9
  have hl9 : lv_has ls 7 [(0, .ref o), (1, .int (iZ (f))), (2, .int (iZ (g))), (3, .int (iZ (h))), (4, .int (iZ (z))), (5, .ref w9)] := hl9
  refine lv_aload C9.1 C9.2.1 dL_join_0 (lv_at hl9 5 rfl) ?_
  refine lv_aload_n C9.1 C9.2.1 dL_join_2 rfl (lv_at hl9 0 rfl) ?_
  refine lv_iload_n C9.1 C9.2.1 dL_join_3 rfl (lv_at hl9 1 rfl) ?_
  refine lv_iload_n C9.1 C9.2.1 dL_join_4 rfl (lv_at hl9 2 rfl) ?_
  refine lv_iload_n C9.1 C9.2.1 dL_join_5 rfl (lv_at hl9 3 rfl) ?_
  refine lv_iload C9.1 C9.2.1 dL_join_6 (lv_at hl9 4 rfl) ?_
  refine zg_callX (as := [.int (iZ (f)), .int (iZ (g)), .int (iZ (h)), .int (iZ (z))]) C9 hLi9.1 (hLi9.2.2.2.1.narrow fun q h => Or.inr h) hS9 (fun q h => Or.inr h) (c_X3_join_badr l hlq D cJ o a c ac re kn f g h z r9f r9g r9h r9z hf hg hz hbad) ml_L_44 rfl (by decide) (by decide) hl9 (Nat.le_of_ble_eq_true rfl) rfl dL_join_8 (fun H1 locs1 ce1 q1 hAt1 hS1 hk1 hz1 hc1 hv1 hf1 => ?_)
  have hW1 := hLi9.2.1.kept (hk1 w9 hLi9.2.1.lt (fun z => z.elim hLi9.2.2.1.1 hLi9.2.2.1.2))
  refine zl_catch2 C9 (ht9.trans rfl) (by decide) cl_L_19 hLi9.2.2.2.2.2.2.1 (by decide +kernel) (by decide) cl_L_24 hLi9.2.2.2.2.2.1 hc1 hv1 hf1 ?_
  refine lv_astore C9.1 C9.2.1 (x := q1) dL_join_22 hl9 (by decide) rfl (fun ls2 hl2 => ?_)
  refine z_iconst C9 dL_join_24 ?_
  exact zl_ret C9 hAt1 hW1 hS1 hr9 hk9 (Nat.le_of_ble_eq_true rfl) (Nat.le_of_ble_eq_true rfl) dL_join_25 rfl
set_option maxHeartbeats 4000000 in
set_option maxRecDepth 100000 in
theorem c_L_times_badc (l : Launch) (hlq : l.stackTraces = false) (D : va_G) (cJ : ClassId) (o a : Nat) (c : Nat → Nat) (ac : Int32) (re : Int32) (kn : Int32) (f : Int) (g : Int) (z : Int) (r9f : -2147483648 ≤ f ∧ f ≤ 2147483647) (r9g : -2147483648 ≤ g ∧ g ≤ 2147483647) (r9z : -2147483648 ≤ z ∧ z ≤ 2147483647) (hbad : ¬ ((0 ≤ f ∧ f ≤ 5) ∧ (0 ≤ g ∧ g ≤ 5) ∧ (0 ≤ z ∧ z ≤ 5))) (w9 : Nat) (n9 : Int64) (s9 : Value) : zL l yL_times 9 176 1 6 D cJ o a w9 [.ref o, .int (iZ (f)), .int (iZ (g)), .int (iZ (z)), .ref w9] c [.int (ac), .int (re), .int (kn)] n9 s9 1 c [.int (ac), .int (re), .int (kn)] n9 s9 := by
  refine zL.intro (lo := 151) (nA := 5) zw_L_times (by decide) rfl rfl (by decide +kernel) rfl (Nat.le_of_ble_eq_true rfl) ?_
  intro p e s m below meth c0 ls C9 hr9 hk9 ht9 hLi9 hS9 hl9
  have hl9 : lv_has ls 6 [(0, .ref o), (1, .int (iZ (f))), (2, .int (iZ (g))), (3, .int (iZ (z))), (4, .ref w9)] := hl9
  refine lv_aload C9.1 C9.2.1 dL_times_0 (lv_at hl9 4 rfl) ?_
  refine lv_aload_n C9.1 C9.2.1 dL_times_2 rfl (lv_at hl9 0 rfl) ?_
  refine lv_iload_n C9.1 C9.2.1 dL_times_3 rfl (lv_at hl9 1 rfl) ?_
  refine lv_iload_n C9.1 C9.2.1 dL_times_4 rfl (lv_at hl9 2 rfl) ?_
  refine lv_iload_n C9.1 C9.2.1 dL_times_5 rfl (lv_at hl9 3 rfl) ?_
  refine zg_callX (as := [.int (iZ (f)), .int (iZ (g)), .int (iZ (z))]) C9 hLi9.1 (hLi9.2.2.2.1.narrow fun q h => Or.inr h) hS9 (fun q h => Or.inr h) (c_X3_times_badc l hlq D cJ o a c ac re kn f g z r9f r9g r9z hbad) ml_L_48 rfl (by decide) (by decide) hl9 (Nat.le_of_ble_eq_true rfl) rfl dL_times_6 (fun H1 locs1 ce1 q1 hAt1 hS1 hk1 hz1 hc1 hv1 hf1 => ?_)
  have hW1 := hLi9.2.1.kept (hk1 w9 hLi9.2.1.lt (fun z => z.elim hLi9.2.2.1.1 hLi9.2.2.1.2))
  refine zl_catch1 C9 (ht9.trans rfl) (by decide +kernel) (by decide) cl_L_19 hLi9.2.2.2.2.1 hc1 hv1 hf1 ?_
  refine lv_astore C9.1 C9.2.1 (x := q1) dL_times_16 hl9 (by decide) rfl (fun ls2 hl2 => ?_)
  refine z_iconst C9 dL_times_18 ?_
  exact zl_ret C9 hAt1 hW1 hS1 hr9 hk9 (Nat.le_of_ble_eq_true rfl) (Nat.le_of_ble_eq_true rfl) dL_times_19 rfl
set_option maxHeartbeats 4000000 in
set_option maxRecDepth 100000 in
theorem c_L_square_badc (l : Launch) (hlq : l.stackTraces = false) (D : va_G) (cJ : ClassId) (o a : Nat) (c : Nat → Nat) (ac : Int32) (re : Int32) (kn : Int32) (f : Int) (z : Int) (r9f : -2147483648 ≤ f ∧ f ≤ 2147483647) (r9z : -2147483648 ≤ z ∧ z ≤ 2147483647) (hbad : ¬ ((0 ≤ f ∧ f ≤ 5) ∧ (0 ≤ z ∧ z ≤ 5))) (w9 : Nat) (n9 : Int64) (s9 : Value) : zL l yL_square 9 172 1 6 D cJ o a w9 [.ref o, .int (iZ (f)), .int (iZ (z)), .ref w9] c [.int (ac), .int (re), .int (kn)] n9 s9 1 c [.int (ac), .int (re), .int (kn)] n9 s9 := by
  refine zL.intro (lo := 148) (nA := 4) zw_L_square (by decide) rfl rfl (by decide +kernel) rfl (Nat.le_of_ble_eq_true rfl) ?_
  intro p e s m below meth c0 ls C9 hr9 hk9 ht9 hLi9 hS9 hl9
  have hl9 : lv_has ls 5 [(0, .ref o), (1, .int (iZ (f))), (2, .int (iZ (z))), (3, .ref w9)] := hl9
  refine lv_aload_n C9.1 C9.2.1 dL_square_0 rfl (lv_at hl9 3 rfl) ?_
  refine lv_aload_n C9.1 C9.2.1 dL_square_1 rfl (lv_at hl9 0 rfl) ?_
  refine lv_iload_n C9.1 C9.2.1 dL_square_2 rfl (lv_at hl9 1 rfl) ?_
  refine lv_iload_n C9.1 C9.2.1 dL_square_3 rfl (lv_at hl9 2 rfl) ?_
  refine zg_callX (as := [.int (iZ (f)), .int (iZ (z))]) C9 hLi9.1 (hLi9.2.2.2.1.narrow fun q h => Or.inr h) hS9 (fun q h => Or.inr h) (c_X3_square_badc l hlq D cJ o a c ac re kn f z r9f r9z hbad) ml_L_52 rfl (by decide) (by decide) hl9 (Nat.le_of_ble_eq_true rfl) rfl dL_square_4 (fun H1 locs1 ce1 q1 hAt1 hS1 hk1 hz1 hc1 hv1 hf1 => ?_)
  have hW1 := hLi9.2.1.kept (hk1 w9 hLi9.2.1.lt (fun z => z.elim hLi9.2.2.1.1 hLi9.2.2.1.2))
  refine zl_catch1 C9 (ht9.trans rfl) (by decide +kernel) (by decide) cl_L_19 hLi9.2.2.2.2.1 hc1 hv1 hf1 ?_
  refine lv_astore C9.1 C9.2.1 (x := q1) dL_square_14 hl9 (by decide) rfl (fun ls2 hl2 => ?_)
  refine z_iconst C9 dL_square_16 ?_
  exact zl_ret C9 hAt1 hW1 hS1 hr9 hk9 (Nat.le_of_ble_eq_true rfl) (Nat.le_of_ble_eq_true rfl) dL_square_17 rfl
set_option maxHeartbeats 4000000 in
set_option maxRecDepth 100000 in
theorem c_L_shift_badc (l : Launch) (hlq : l.stackTraces = false) (D : va_G) (cJ : ClassId) (o a : Nat) (c : Nat → Nat) (ac : Int32) (re : Int32) (kn : Int32) (f : Int) (g : Int) (z : Int) (r9f : -2147483648 ≤ f ∧ f ≤ 2147483647) (r9g : -2147483648 ≤ g ∧ g ≤ 2147483647) (r9z : -2147483648 ≤ z ∧ z ≤ 2147483647) (hbad : ¬ ((0 ≤ f ∧ f ≤ 5) ∧ (0 ≤ z ∧ z ≤ 5))) (w9 : Nat) (n9 : Int64) (s9 : Value) : zL l yL_shift 9 174 1 6 D cJ o a w9 [.ref o, .int (iZ (f)), .int (iZ (g)), .int (iZ (z)), .ref w9] c [.int (ac), .int (re), .int (kn)] n9 s9 1 c [.int (ac), .int (re), .int (kn)] n9 s9 := by
  refine zL.intro (lo := 149) (nA := 5) zw_L_shift (by decide) rfl rfl (by decide +kernel) rfl (Nat.le_of_ble_eq_true rfl) ?_
  intro p e s m below meth c0 ls C9 hr9 hk9 ht9 hLi9 hS9 hl9
  have hl9 : lv_has ls 6 [(0, .ref o), (1, .int (iZ (f))), (2, .int (iZ (g))), (3, .int (iZ (z))), (4, .ref w9)] := hl9
  refine lv_aload C9.1 C9.2.1 dL_shift_0 (lv_at hl9 4 rfl) ?_
  refine lv_aload_n C9.1 C9.2.1 dL_shift_2 rfl (lv_at hl9 0 rfl) ?_
  refine lv_iload_n C9.1 C9.2.1 dL_shift_3 rfl (lv_at hl9 1 rfl) ?_
  refine lv_iload_n C9.1 C9.2.1 dL_shift_4 rfl (lv_at hl9 2 rfl) ?_
  refine lv_iload_n C9.1 C9.2.1 dL_shift_5 rfl (lv_at hl9 3 rfl) ?_
  refine zg_callX (as := [.int (iZ (f)), .int (iZ (g)), .int (iZ (z))]) C9 hLi9.1 (hLi9.2.2.2.1.narrow fun q h => Or.inr h) hS9 (fun q h => Or.inr h) (c_X3_shift_badc l hlq D cJ o a c ac re kn f g z r9f r9g r9z hbad) ml_L_55 rfl (by decide) (by decide) hl9 (Nat.le_of_ble_eq_true rfl) rfl dL_shift_6 (fun H1 locs1 ce1 q1 hAt1 hS1 hk1 hz1 hc1 hv1 hf1 => ?_)
  have hW1 := hLi9.2.1.kept (hk1 w9 hLi9.2.1.lt (fun z => z.elim hLi9.2.2.1.1 hLi9.2.2.1.2))
  refine zl_catch1 C9 (ht9.trans rfl) (by decide +kernel) (by decide) cl_L_19 hLi9.2.2.2.2.1 hc1 hv1 hf1 ?_
  refine lv_astore C9.1 C9.2.1 (x := q1) dL_shift_16 hl9 (by decide) rfl (fun ls2 hl2 => ?_)
  refine z_iconst C9 dL_shift_18 ?_
  exact zl_ret C9 hAt1 hW1 hS1 hr9 hk9 (Nat.le_of_ble_eq_true rfl) (Nat.le_of_ble_eq_true rfl) dL_shift_19 rfl
set_option maxHeartbeats 4000000 in
set_option maxRecDepth 100000 in
theorem c_L_shift_badr (l : Launch) (hlq : l.stackTraces = false) (D : va_G) (cJ : ClassId) (o a : Nat) (c : Nat → Nat) (ac : Int32) (re : Int32) (kn : Int32) (f : Int) (g : Int) (z : Int) (r9f : -2147483648 ≤ f ∧ f ≤ 2147483647) (r9g : -2147483648 ≤ g ∧ g ≤ 2147483647) (r9z : -2147483648 ≤ z ∧ z ≤ 2147483647) (hf : 0 ≤ f ∧ f ≤ 5) (hz : 0 ≤ z ∧ z ≤ 5) (hbad : ¬ ((-32 ≤ g ∧ g ≤ 32))) (w9 : Nat) (n9 : Int64) (s9 : Value) : zL l yL_shift 8 154 1 6 D cJ o a w9 [.ref o, .int (iZ (f)), .int (iZ (g)), .int (iZ (z)), .ref w9] c [.int (ac), .int (re), .int (kn)] n9 s9 2 c [.int (ac), .int (re), .int (kn)] n9 s9 := by
  refine zL.intro (lo := 129) (nA := 5) zw_L_shift (by decide) rfl rfl (by decide +kernel) rfl (Nat.le_of_ble_eq_true rfl) ?_
  intro p e s m below meth c0 ls C9 hr9 hk9 ht9 hLi9 hS9 hl9
  have hl9 : lv_has ls 6 [(0, .ref o), (1, .int (iZ (f))), (2, .int (iZ (g))), (3, .int (iZ (z))), (4, .ref w9)] := hl9
  refine lv_aload C9.1 C9.2.1 dL_shift_0 (lv_at hl9 4 rfl) ?_
  refine lv_aload_n C9.1 C9.2.1 dL_shift_2 rfl (lv_at hl9 0 rfl) ?_
  refine lv_iload_n C9.1 C9.2.1 dL_shift_3 rfl (lv_at hl9 1 rfl) ?_
  refine lv_iload_n C9.1 C9.2.1 dL_shift_4 rfl (lv_at hl9 2 rfl) ?_
  refine lv_iload_n C9.1 C9.2.1 dL_shift_5 rfl (lv_at hl9 3 rfl) ?_
  refine zg_callX (as := [.int (iZ (f)), .int (iZ (g)), .int (iZ (z))]) C9 hLi9.1 (hLi9.2.2.2.1.narrow fun q h => Or.inr h) hS9 (fun q h => Or.inr h) (c_X3_shift_badr l hlq D cJ o a c ac re kn f g z r9f r9g r9z hf hz hbad) ml_L_55 rfl (by decide) (by decide) hl9 (Nat.le_of_ble_eq_true rfl) rfl dL_shift_6 (fun H1 locs1 ce1 q1 hAt1 hS1 hk1 hz1 hc1 hv1 hf1 => ?_)
  have hW1 := hLi9.2.1.kept (hk1 w9 hLi9.2.1.lt (fun z => z.elim hLi9.2.2.1.1 hLi9.2.2.1.2))
  refine zl_catch2 C9 (ht9.trans rfl) (by decide) cl_L_19 hLi9.2.2.2.2.2.2.1 (by decide +kernel) (by decide) cl_L_24 hLi9.2.2.2.2.2.1 hc1 hv1 hf1 ?_
  refine lv_astore C9.1 C9.2.1 (x := q1) dL_shift_20 hl9 (by decide) rfl (fun ls2 hl2 => ?_)
  refine z_iconst C9 dL_shift_22 ?_
  exact zl_ret C9 hAt1 hW1 hS1 hr9 hk9 (Nat.le_of_ble_eq_true rfl) (Nat.le_of_ble_eq_true rfl) dL_shift_23 rfl
set_option maxHeartbeats 4000000 in
set_option maxRecDepth 100000 in
theorem c_L_quotient_badc (l : Launch) (hlq : l.stackTraces = false) (D : va_G) (cJ : ClassId) (o a : Nat) (c : Nat → Nat) (ac : Int32) (re : Int32) (kn : Int32) (f : Int) (g : Int) (z : Int) (r9f : -2147483648 ≤ f ∧ f ≤ 2147483647) (r9g : -2147483648 ≤ g ∧ g ≤ 2147483647) (r9z : -2147483648 ≤ z ∧ z ≤ 2147483647) (hbad : ¬ ((0 ≤ f ∧ f ≤ 5) ∧ (0 ≤ g ∧ g ≤ 5) ∧ (0 ≤ z ∧ z ≤ 5))) (w9 : Nat) (n9 : Int64) (s9 : Value) : zL l yL_quotient 9 176 1 6 D cJ o a w9 [.ref o, .int (iZ (f)), .int (iZ (g)), .int (iZ (z)), .ref w9] c [.int (ac), .int (re), .int (kn)] n9 s9 1 c [.int (ac), .int (re), .int (kn)] n9 s9 := by
  refine zL.intro (lo := 151) (nA := 5) zw_L_quotient (by decide) rfl rfl (by decide +kernel) rfl (Nat.le_of_ble_eq_true rfl) ?_
  intro p e s m below meth c0 ls C9 hr9 hk9 ht9 hLi9 hS9 hl9
  have hl9 : lv_has ls 6 [(0, .ref o), (1, .int (iZ (f))), (2, .int (iZ (g))), (3, .int (iZ (z))), (4, .ref w9)] := hl9
  refine lv_aload C9.1 C9.2.1 dL_quotient_0 (lv_at hl9 4 rfl) ?_
  refine lv_aload_n C9.1 C9.2.1 dL_quotient_2 rfl (lv_at hl9 0 rfl) ?_
  refine lv_iload_n C9.1 C9.2.1 dL_quotient_3 rfl (lv_at hl9 1 rfl) ?_
  refine lv_iload_n C9.1 C9.2.1 dL_quotient_4 rfl (lv_at hl9 2 rfl) ?_
  refine lv_iload_n C9.1 C9.2.1 dL_quotient_5 rfl (lv_at hl9 3 rfl) ?_
  refine zg_callX (as := [.int (iZ (f)), .int (iZ (g)), .int (iZ (z))]) C9 hLi9.1 (hLi9.2.2.2.1.narrow fun q h => Or.inr h) hS9 (fun q h => Or.inr h) (c_X3_quotient_badc l hlq D cJ o a c ac re kn f g z r9f r9g r9z hbad) ml_L_58 rfl (by decide) (by decide) hl9 (Nat.le_of_ble_eq_true rfl) rfl dL_quotient_6 (fun H1 locs1 ce1 q1 hAt1 hS1 hk1 hz1 hc1 hv1 hf1 => ?_)
  have hW1 := hLi9.2.1.kept (hk1 w9 hLi9.2.1.lt (fun z => z.elim hLi9.2.2.1.1 hLi9.2.2.1.2))
  refine zl_catch1 C9 (ht9.trans rfl) (by decide +kernel) (by decide) cl_L_19 hLi9.2.2.2.2.1 hc1 hv1 hf1 ?_
  refine lv_astore C9.1 C9.2.1 (x := q1) dL_quotient_16 hl9 (by decide) rfl (fun ls2 hl2 => ?_)
  refine z_iconst C9 dL_quotient_18 ?_
  exact zl_ret C9 hAt1 hW1 hS1 hr9 hk9 (Nat.le_of_ble_eq_true rfl) (Nat.le_of_ble_eq_true rfl) dL_quotient_19 rfl
set_option maxHeartbeats 4000000 in
set_option maxRecDepth 100000 in
theorem c_L_rest_badc (l : Launch) (hlq : l.stackTraces = false) (D : va_G) (cJ : ClassId) (o a : Nat) (c : Nat → Nat) (ac : Int32) (re : Int32) (kn : Int32) (f : Int) (g : Int) (z : Int) (r9f : -2147483648 ≤ f ∧ f ≤ 2147483647) (r9g : -2147483648 ≤ g ∧ g ≤ 2147483647) (r9z : -2147483648 ≤ z ∧ z ≤ 2147483647) (hbad : ¬ ((0 ≤ f ∧ f ≤ 5) ∧ (0 ≤ g ∧ g ≤ 5) ∧ (0 ≤ z ∧ z ≤ 5))) (w9 : Nat) (n9 : Int64) (s9 : Value) : zL l yL_rest 9 176 1 6 D cJ o a w9 [.ref o, .int (iZ (f)), .int (iZ (g)), .int (iZ (z)), .ref w9] c [.int (ac), .int (re), .int (kn)] n9 s9 1 c [.int (ac), .int (re), .int (kn)] n9 s9 := by
  refine zL.intro (lo := 151) (nA := 5) zw_L_rest (by decide) rfl rfl (by decide +kernel) rfl (Nat.le_of_ble_eq_true rfl) ?_
  intro p e s m below meth c0 ls C9 hr9 hk9 ht9 hLi9 hS9 hl9
  have hl9 : lv_has ls 6 [(0, .ref o), (1, .int (iZ (f))), (2, .int (iZ (g))), (3, .int (iZ (z))), (4, .ref w9)] := hl9
  refine lv_aload C9.1 C9.2.1 dL_rest_0 (lv_at hl9 4 rfl) ?_
  refine lv_aload_n C9.1 C9.2.1 dL_rest_2 rfl (lv_at hl9 0 rfl) ?_
  refine lv_iload_n C9.1 C9.2.1 dL_rest_3 rfl (lv_at hl9 1 rfl) ?_
  refine lv_iload_n C9.1 C9.2.1 dL_rest_4 rfl (lv_at hl9 2 rfl) ?_
  refine lv_iload_n C9.1 C9.2.1 dL_rest_5 rfl (lv_at hl9 3 rfl) ?_
  refine zg_callX (as := [.int (iZ (f)), .int (iZ (g)), .int (iZ (z))]) C9 hLi9.1 (hLi9.2.2.2.1.narrow fun q h => Or.inr h) hS9 (fun q h => Or.inr h) (c_X3_rest_badc l hlq D cJ o a c ac re kn f g z r9f r9g r9z hbad) ml_L_61 rfl (by decide) (by decide) hl9 (Nat.le_of_ble_eq_true rfl) rfl dL_rest_6 (fun H1 locs1 ce1 q1 hAt1 hS1 hk1 hz1 hc1 hv1 hf1 => ?_)
  have hW1 := hLi9.2.1.kept (hk1 w9 hLi9.2.1.lt (fun z => z.elim hLi9.2.2.1.1 hLi9.2.2.1.2))
  refine zl_catch1 C9 (ht9.trans rfl) (by decide +kernel) (by decide) cl_L_19 hLi9.2.2.2.2.1 hc1 hv1 hf1 ?_
  refine lv_astore C9.1 C9.2.1 (x := q1) dL_rest_16 hl9 (by decide) rfl (fun ls2 hl2 => ?_)
  refine z_iconst C9 dL_rest_18 ?_
  exact zl_ret C9 hAt1 hW1 hS1 hr9 hk9 (Nat.le_of_ble_eq_true rfl) (Nat.le_of_ble_eq_true rfl) dL_rest_19 rfl
set_option maxHeartbeats 4000000 in
set_option maxRecDepth 100000 in
theorem c_L_gcd_badc (l : Launch) (hlq : l.stackTraces = false) (D : va_G) (cJ : ClassId) (o a : Nat) (c : Nat → Nat) (ac : Int32) (re : Int32) (kn : Int32) (f : Int) (g : Int) (z : Int) (r9f : -2147483648 ≤ f ∧ f ≤ 2147483647) (r9g : -2147483648 ≤ g ∧ g ≤ 2147483647) (r9z : -2147483648 ≤ z ∧ z ≤ 2147483647) (hbad : ¬ ((0 ≤ f ∧ f ≤ 5) ∧ (0 ≤ g ∧ g ≤ 5) ∧ (0 ≤ z ∧ z ≤ 5))) (w9 : Nat) (n9 : Int64) (s9 : Value) : zL l yL_gcd 9 176 1 6 D cJ o a w9 [.ref o, .int (iZ (f)), .int (iZ (g)), .int (iZ (z)), .ref w9] c [.int (ac), .int (re), .int (kn)] n9 s9 1 c [.int (ac), .int (re), .int (kn)] n9 s9 := by
  refine zL.intro (lo := 151) (nA := 5) zw_L_gcd (by decide) rfl rfl (by decide +kernel) rfl (Nat.le_of_ble_eq_true rfl) ?_
  intro p e s m below meth c0 ls C9 hr9 hk9 ht9 hLi9 hS9 hl9
  have hl9 : lv_has ls 6 [(0, .ref o), (1, .int (iZ (f))), (2, .int (iZ (g))), (3, .int (iZ (z))), (4, .ref w9)] := hl9
  refine lv_aload C9.1 C9.2.1 dL_gcd_0 (lv_at hl9 4 rfl) ?_
  refine lv_aload_n C9.1 C9.2.1 dL_gcd_2 rfl (lv_at hl9 0 rfl) ?_
  refine lv_iload_n C9.1 C9.2.1 dL_gcd_3 rfl (lv_at hl9 1 rfl) ?_
  refine lv_iload_n C9.1 C9.2.1 dL_gcd_4 rfl (lv_at hl9 2 rfl) ?_
  refine lv_iload_n C9.1 C9.2.1 dL_gcd_5 rfl (lv_at hl9 3 rfl) ?_
  refine zg_callX (as := [.int (iZ (f)), .int (iZ (g)), .int (iZ (z))]) C9 hLi9.1 (hLi9.2.2.2.1.narrow fun q h => Or.inr h) hS9 (fun q h => Or.inr h) (c_X3_gcd_badc l hlq D cJ o a c ac re kn f g z r9f r9g r9z hbad) ml_L_64 rfl (by decide) (by decide) hl9 (Nat.le_of_ble_eq_true rfl) rfl dL_gcd_6 (fun H1 locs1 ce1 q1 hAt1 hS1 hk1 hz1 hc1 hv1 hf1 => ?_)
  have hW1 := hLi9.2.1.kept (hk1 w9 hLi9.2.1.lt (fun z => z.elim hLi9.2.2.1.1 hLi9.2.2.1.2))
  refine zl_catch1 C9 (ht9.trans rfl) (by decide +kernel) (by decide) cl_L_19 hLi9.2.2.2.2.1 hc1 hv1 hf1 ?_
  refine lv_astore C9.1 C9.2.1 (x := q1) dL_gcd_16 hl9 (by decide) rfl (fun ls2 hl2 => ?_)
  refine z_iconst C9 dL_gcd_18 ?_
  exact zl_ret C9 hAt1 hW1 hS1 hr9 hk9 (Nat.le_of_ble_eq_true rfl) (Nat.le_of_ble_eq_true rfl) dL_gcd_19 rfl
set_option maxHeartbeats 4000000 in
set_option maxRecDepth 100000 in
theorem c_L_lcm_badc (l : Launch) (hlq : l.stackTraces = false) (D : va_G) (cJ : ClassId) (o a : Nat) (c : Nat → Nat) (ac : Int32) (re : Int32) (kn : Int32) (f : Int) (g : Int) (z : Int) (r9f : -2147483648 ≤ f ∧ f ≤ 2147483647) (r9g : -2147483648 ≤ g ∧ g ≤ 2147483647) (r9z : -2147483648 ≤ z ∧ z ≤ 2147483647) (hbad : ¬ ((0 ≤ f ∧ f ≤ 5) ∧ (0 ≤ g ∧ g ≤ 5) ∧ (0 ≤ z ∧ z ≤ 5))) (w9 : Nat) (n9 : Int64) (s9 : Value) : zL l yL_lcm 9 176 1 6 D cJ o a w9 [.ref o, .int (iZ (f)), .int (iZ (g)), .int (iZ (z)), .ref w9] c [.int (ac), .int (re), .int (kn)] n9 s9 1 c [.int (ac), .int (re), .int (kn)] n9 s9 := by
  refine zL.intro (lo := 151) (nA := 5) zw_L_lcm (by decide) rfl rfl (by decide +kernel) rfl (Nat.le_of_ble_eq_true rfl) ?_
  intro p e s m below meth c0 ls C9 hr9 hk9 ht9 hLi9 hS9 hl9
  have hl9 : lv_has ls 6 [(0, .ref o), (1, .int (iZ (f))), (2, .int (iZ (g))), (3, .int (iZ (z))), (4, .ref w9)] := hl9
  refine lv_aload C9.1 C9.2.1 dL_lcm_0 (lv_at hl9 4 rfl) ?_
  refine lv_aload_n C9.1 C9.2.1 dL_lcm_2 rfl (lv_at hl9 0 rfl) ?_
  refine lv_iload_n C9.1 C9.2.1 dL_lcm_3 rfl (lv_at hl9 1 rfl) ?_
  refine lv_iload_n C9.1 C9.2.1 dL_lcm_4 rfl (lv_at hl9 2 rfl) ?_
  refine lv_iload_n C9.1 C9.2.1 dL_lcm_5 rfl (lv_at hl9 3 rfl) ?_
  refine zg_callX (as := [.int (iZ (f)), .int (iZ (g)), .int (iZ (z))]) C9 hLi9.1 (hLi9.2.2.2.1.narrow fun q h => Or.inr h) hS9 (fun q h => Or.inr h) (c_X3_lcm_badc l hlq D cJ o a c ac re kn f g z r9f r9g r9z hbad) ml_L_67 rfl (by decide) (by decide) hl9 (Nat.le_of_ble_eq_true rfl) rfl dL_lcm_6 (fun H1 locs1 ce1 q1 hAt1 hS1 hk1 hz1 hc1 hv1 hf1 => ?_)
  have hW1 := hLi9.2.1.kept (hk1 w9 hLi9.2.1.lt (fun z => z.elim hLi9.2.2.1.1 hLi9.2.2.1.2))
  refine zl_catch1 C9 (ht9.trans rfl) (by decide +kernel) (by decide) cl_L_19 hLi9.2.2.2.2.1 hc1 hv1 hf1 ?_
  refine lv_astore C9.1 C9.2.1 (x := q1) dL_lcm_16 hl9 (by decide) rfl (fun ls2 hl2 => ?_)
  refine z_iconst C9 dL_lcm_18 ?_
  exact zl_ret C9 hAt1 hW1 hS1 hr9 hk9 (Nat.le_of_ble_eq_true rfl) (Nat.le_of_ble_eq_true rfl) dL_lcm_19 rfl
set_option maxHeartbeats 4000000 in
set_option maxRecDepth 100000 in
theorem c_L_bezout_badc (l : Launch) (hlq : l.stackTraces = false) (D : va_G) (cJ : ClassId) (o a : Nat) (c : Nat → Nat) (ac : Int32) (re : Int32) (kn : Int32) (f : Int) (g : Int) (b : Bool) (z : Int) (r9f : -2147483648 ≤ f ∧ f ≤ 2147483647) (r9g : -2147483648 ≤ g ∧ g ≤ 2147483647) (r9z : -2147483648 ≤ z ∧ z ≤ 2147483647) (hbad : ¬ ((0 ≤ f ∧ f ≤ 5) ∧ (0 ≤ g ∧ g ≤ 5) ∧ (0 ≤ z ∧ z ≤ 5))) (w9 : Nat) (n9 : Int64) (s9 : Value) : zL l yL_bezout 9 178 1 6 D cJ o a w9 [.ref o, .int (iZ (f)), .int (iZ (g)), .int (iZ (zB (b))), .int (iZ (z)), .ref w9] c [.int (ac), .int (re), .int (kn)] n9 s9 1 c [.int (ac), .int (re), .int (kn)] n9 s9 := by
  refine zL.intro (lo := 152) (nA := 6) zw_L_bezout (by decide) rfl rfl (by decide +kernel) rfl (Nat.le_of_ble_eq_true rfl) ?_
  intro p e s m below meth c0 ls C9 hr9 hk9 ht9 hLi9 hS9 hl9
  have hl9 : lv_has ls 7 [(0, .ref o), (1, .int (iZ (f))), (2, .int (iZ (g))), (3, .int (iZ (zB (b)))), (4, .int (iZ (z))), (5, .ref w9)] := hl9
  refine lv_aload C9.1 C9.2.1 dL_bezout_0 (lv_at hl9 5 rfl) ?_
  refine lv_aload_n C9.1 C9.2.1 dL_bezout_2 rfl (lv_at hl9 0 rfl) ?_
  refine lv_iload_n C9.1 C9.2.1 dL_bezout_3 rfl (lv_at hl9 1 rfl) ?_
  refine lv_iload_n C9.1 C9.2.1 dL_bezout_4 rfl (lv_at hl9 2 rfl) ?_
  refine lv_iload_n C9.1 C9.2.1 dL_bezout_5 rfl (lv_at hl9 3 rfl) ?_
  refine lv_iload C9.1 C9.2.1 dL_bezout_6 (lv_at hl9 4 rfl) ?_
  refine zg_callX (as := [.int (iZ (f)), .int (iZ (g)), .int (iZ (zB (b))), .int (iZ (z))]) C9 hLi9.1 (hLi9.2.2.2.1.narrow fun q h => Or.inr h) hS9 (fun q h => Or.inr h) (c_X3_bezout_badc l hlq D cJ o a c ac re kn f g b z r9f r9g r9z hbad) ml_L_70 rfl (by decide) (by decide) hl9 (Nat.le_of_ble_eq_true rfl) rfl dL_bezout_8 (fun H1 locs1 ce1 q1 hAt1 hS1 hk1 hz1 hc1 hv1 hf1 => ?_)
  have hW1 := hLi9.2.1.kept (hk1 w9 hLi9.2.1.lt (fun z => z.elim hLi9.2.2.1.1 hLi9.2.2.1.2))
  refine zl_catch1 C9 (ht9.trans rfl) (by decide +kernel) (by decide) cl_L_19 hLi9.2.2.2.2.1 hc1 hv1 hf1 ?_
  refine lv_astore C9.1 C9.2.1 (x := q1) dL_bezout_18 hl9 (by decide) rfl (fun ls2 hl2 => ?_)
  refine z_iconst C9 dL_bezout_20 ?_
  exact zl_ret C9 hAt1 hW1 hS1 hr9 hk9 (Nat.le_of_ble_eq_true rfl) (Nat.le_of_ble_eq_true rfl) dL_bezout_21 rfl
set_option maxHeartbeats 4000000 in
set_option maxRecDepth 100000 in
theorem c_L_derive_badc (l : Launch) (hlq : l.stackTraces = false) (D : va_G) (cJ : ClassId) (o a : Nat) (c : Nat → Nat) (ac : Int32) (re : Int32) (kn : Int32) (f : Int) (z : Int) (r9f : -2147483648 ≤ f ∧ f ≤ 2147483647) (r9z : -2147483648 ≤ z ∧ z ≤ 2147483647) (hbad : ¬ ((0 ≤ f ∧ f ≤ 5) ∧ (0 ≤ z ∧ z ≤ 5))) (w9 : Nat) (n9 : Int64) (s9 : Value) : zL l yL_derive 9 172 1 6 D cJ o a w9 [.ref o, .int (iZ (f)), .int (iZ (z)), .ref w9] c [.int (ac), .int (re), .int (kn)] n9 s9 1 c [.int (ac), .int (re), .int (kn)] n9 s9 := by
  refine zL.intro (lo := 148) (nA := 4) zw_L_derive (by decide) rfl rfl (by decide +kernel) rfl (Nat.le_of_ble_eq_true rfl) ?_
  intro p e s m below meth c0 ls C9 hr9 hk9 ht9 hLi9 hS9 hl9
  have hl9 : lv_has ls 5 [(0, .ref o), (1, .int (iZ (f))), (2, .int (iZ (z))), (3, .ref w9)] := hl9
  refine lv_aload_n C9.1 C9.2.1 dL_derive_0 rfl (lv_at hl9 3 rfl) ?_
  refine lv_aload_n C9.1 C9.2.1 dL_derive_1 rfl (lv_at hl9 0 rfl) ?_
  refine lv_iload_n C9.1 C9.2.1 dL_derive_2 rfl (lv_at hl9 1 rfl) ?_
  refine lv_iload_n C9.1 C9.2.1 dL_derive_3 rfl (lv_at hl9 2 rfl) ?_
  refine zg_callX (as := [.int (iZ (f)), .int (iZ (z))]) C9 hLi9.1 (hLi9.2.2.2.1.narrow fun q h => Or.inr h) hS9 (fun q h => Or.inr h) (c_X3_derive_badc l hlq D cJ o a c ac re kn f z r9f r9z hbad) ml_L_73 rfl (by decide) (by decide) hl9 (Nat.le_of_ble_eq_true rfl) rfl dL_derive_4 (fun H1 locs1 ce1 q1 hAt1 hS1 hk1 hz1 hc1 hv1 hf1 => ?_)
  have hW1 := hLi9.2.1.kept (hk1 w9 hLi9.2.1.lt (fun z => z.elim hLi9.2.2.1.1 hLi9.2.2.1.2))
  refine zl_catch1 C9 (ht9.trans rfl) (by decide +kernel) (by decide) cl_L_19 hLi9.2.2.2.2.1 hc1 hv1 hf1 ?_
  refine lv_astore C9.1 C9.2.1 (x := q1) dL_derive_14 hl9 (by decide) rfl (fun ls2 hl2 => ?_)
  refine z_iconst C9 dL_derive_16 ?_
  exact zl_ret C9 hAt1 hW1 hS1 hr9 hk9 (Nat.le_of_ble_eq_true rfl) (Nat.le_of_ble_eq_true rfl) dL_derive_17 rfl
set_option maxHeartbeats 4000000 in
set_option maxRecDepth 100000 in
theorem c_L_root_badc (l : Launch) (hlq : l.stackTraces = false) (D : va_G) (cJ : ClassId) (o a : Nat) (c : Nat → Nat) (ac : Int32) (re : Int32) (kn : Int32) (f : Int) (z : Int) (r9f : -2147483648 ≤ f ∧ f ≤ 2147483647) (r9z : -2147483648 ≤ z ∧ z ≤ 2147483647) (hbad : ¬ ((0 ≤ f ∧ f ≤ 5) ∧ (0 ≤ z ∧ z ≤ 5))) (w9 : Nat) (n9 : Int64) (s9 : Value) : zL l yL_root 9 172 1 6 D cJ o a w9 [.ref o, .int (iZ (f)), .int (iZ (z)), .ref w9] c [.int (ac), .int (re), .int (kn)] n9 s9 1 c [.int (ac), .int (re), .int (kn)] n9 s9 := by
  refine zL.intro (lo := 148) (nA := 4) zw_L_root (by decide) rfl rfl (by decide +kernel) rfl (Nat.le_of_ble_eq_true rfl) ?_
  intro p e s m below meth c0 ls C9 hr9 hk9 ht9 hLi9 hS9 hl9
  have hl9 : lv_has ls 5 [(0, .ref o), (1, .int (iZ (f))), (2, .int (iZ (z))), (3, .ref w9)] := hl9
  refine lv_aload_n C9.1 C9.2.1 dL_root_0 rfl (lv_at hl9 3 rfl) ?_
  refine lv_aload_n C9.1 C9.2.1 dL_root_1 rfl (lv_at hl9 0 rfl) ?_
  refine lv_iload_n C9.1 C9.2.1 dL_root_2 rfl (lv_at hl9 1 rfl) ?_
  refine lv_iload_n C9.1 C9.2.1 dL_root_3 rfl (lv_at hl9 2 rfl) ?_
  refine zg_callX (as := [.int (iZ (f)), .int (iZ (z))]) C9 hLi9.1 (hLi9.2.2.2.1.narrow fun q h => Or.inr h) hS9 (fun q h => Or.inr h) (c_X3_root_badc l hlq D cJ o a c ac re kn f z r9f r9z hbad) ml_L_76 rfl (by decide) (by decide) hl9 (Nat.le_of_ble_eq_true rfl) rfl dL_root_4 (fun H1 locs1 ce1 q1 hAt1 hS1 hk1 hz1 hc1 hv1 hf1 => ?_)
  have hW1 := hLi9.2.1.kept (hk1 w9 hLi9.2.1.lt (fun z => z.elim hLi9.2.2.1.1 hLi9.2.2.1.2))
  refine zl_catch1 C9 (ht9.trans rfl) (by decide +kernel) (by decide) cl_L_19 hLi9.2.2.2.2.1 hc1 hv1 hf1 ?_
  refine lv_astore C9.1 C9.2.1 (x := q1) dL_root_14 hl9 (by decide) rfl (fun ls2 hl2 => ?_)
  refine z_iconst C9 dL_root_16 ?_
  exact zl_ret C9 hAt1 hW1 hS1 hr9 hk9 (Nat.le_of_ble_eq_true rfl) (Nat.le_of_ble_eq_true rfl) dL_root_17 rfl
set_option maxHeartbeats 4000000 in
set_option maxRecDepth 100000 in
theorem c_L_turn_badc (l : Launch) (hlq : l.stackTraces = false) (D : va_G) (cJ : ClassId) (o a : Nat) (c : Nat → Nat) (ac : Int32) (re : Int32) (kn : Int32) (f : Int) (z : Int) (r9f : -2147483648 ≤ f ∧ f ≤ 2147483647) (r9z : -2147483648 ≤ z ∧ z ≤ 2147483647) (hbad : ¬ ((0 ≤ f ∧ f ≤ 5) ∧ (0 ≤ z ∧ z ≤ 5))) (w9 : Nat) (n9 : Int64) (s9 : Value) : zL l yL_turn 9 172 1 6 D cJ o a w9 [.ref o, .int (iZ (f)), .int (iZ (z)), .ref w9] c [.int (ac), .int (re), .int (kn)] n9 s9 1 c [.int (ac), .int (re), .int (kn)] n9 s9 := by
  refine zL.intro (lo := 148) (nA := 4) zw_L_turn (by decide) rfl rfl (by decide +kernel) rfl (Nat.le_of_ble_eq_true rfl) ?_
  intro p e s m below meth c0 ls C9 hr9 hk9 ht9 hLi9 hS9 hl9
  have hl9 : lv_has ls 5 [(0, .ref o), (1, .int (iZ (f))), (2, .int (iZ (z))), (3, .ref w9)] := hl9
  refine lv_aload_n C9.1 C9.2.1 dL_turn_0 rfl (lv_at hl9 3 rfl) ?_
  refine lv_aload_n C9.1 C9.2.1 dL_turn_1 rfl (lv_at hl9 0 rfl) ?_
  refine lv_iload_n C9.1 C9.2.1 dL_turn_2 rfl (lv_at hl9 1 rfl) ?_
  refine lv_iload_n C9.1 C9.2.1 dL_turn_3 rfl (lv_at hl9 2 rfl) ?_
  refine zg_callX (as := [.int (iZ (f)), .int (iZ (z))]) C9 hLi9.1 (hLi9.2.2.2.1.narrow fun q h => Or.inr h) hS9 (fun q h => Or.inr h) (c_X3_turn_badc l hlq D cJ o a c ac re kn f z r9f r9z hbad) ml_L_79 rfl (by decide) (by decide) hl9 (Nat.le_of_ble_eq_true rfl) rfl dL_turn_4 (fun H1 locs1 ce1 q1 hAt1 hS1 hk1 hz1 hc1 hv1 hf1 => ?_)
  have hW1 := hLi9.2.1.kept (hk1 w9 hLi9.2.1.lt (fun z => z.elim hLi9.2.2.1.1 hLi9.2.2.1.2))
  refine zl_catch1 C9 (ht9.trans rfl) (by decide +kernel) (by decide) cl_L_19 hLi9.2.2.2.2.1 hc1 hv1 hf1 ?_
  refine lv_astore C9.1 C9.2.1 (x := q1) dL_turn_14 hl9 (by decide) rfl (fun ls2 hl2 => ?_)
  refine z_iconst C9 dL_turn_16 ?_
  exact zl_ret C9 hAt1 hW1 hS1 hr9 hk9 (Nat.le_of_ble_eq_true rfl) (Nat.le_of_ble_eq_true rfl) dL_turn_17 rfl
set_option maxHeartbeats 4000000 in
set_option maxRecDepth 100000 in
theorem c_L_move_badc (l : Launch) (hlq : l.stackTraces = false) (D : va_G) (cJ : ClassId) (o a : Nat) (c : Nat → Nat) (ac : Int32) (re : Int32) (kn : Int32) (f : Int) (z : Int) (r9f : -2147483648 ≤ f ∧ f ≤ 2147483647) (r9z : -2147483648 ≤ z ∧ z ≤ 2147483647) (hbad : ¬ ((0 ≤ f ∧ f ≤ 5) ∧ (0 ≤ z ∧ z ≤ 5))) (w9 : Nat) (n9 : Int64) (s9 : Value) : zL l yL_move 9 172 1 6 D cJ o a w9 [.ref o, .int (iZ (f)), .int (iZ (z)), .ref w9] c [.int (ac), .int (re), .int (kn)] n9 s9 1 c [.int (ac), .int (re), .int (kn)] n9 s9 := by
  refine zL.intro (lo := 148) (nA := 4) zw_L_move (by decide) rfl rfl (by decide +kernel) rfl (Nat.le_of_ble_eq_true rfl) ?_
  intro p e s m below meth c0 ls C9 hr9 hk9 ht9 hLi9 hS9 hl9
  have hl9 : lv_has ls 5 [(0, .ref o), (1, .int (iZ (f))), (2, .int (iZ (z))), (3, .ref w9)] := hl9
  refine lv_aload_n C9.1 C9.2.1 dL_move_0 rfl (lv_at hl9 3 rfl) ?_
  refine lv_aload_n C9.1 C9.2.1 dL_move_1 rfl (lv_at hl9 0 rfl) ?_
  refine lv_iload_n C9.1 C9.2.1 dL_move_2 rfl (lv_at hl9 1 rfl) ?_
  refine lv_iload_n C9.1 C9.2.1 dL_move_3 rfl (lv_at hl9 2 rfl) ?_
  refine zg_callX (as := [.int (iZ (f)), .int (iZ (z))]) C9 hLi9.1 (hLi9.2.2.2.1.narrow fun q h => Or.inr h) hS9 (fun q h => Or.inr h) (c_X3_move_badc l hlq D cJ o a c ac re kn f z r9f r9z hbad) ml_L_82 rfl (by decide) (by decide) hl9 (Nat.le_of_ble_eq_true rfl) rfl dL_move_4 (fun H1 locs1 ce1 q1 hAt1 hS1 hk1 hz1 hc1 hv1 hf1 => ?_)
  have hW1 := hLi9.2.1.kept (hk1 w9 hLi9.2.1.lt (fun z => z.elim hLi9.2.2.1.1 hLi9.2.2.1.2))
  refine zl_catch1 C9 (ht9.trans rfl) (by decide +kernel) (by decide) cl_L_19 hLi9.2.2.2.2.1 hc1 hv1 hf1 ?_
  refine lv_astore C9.1 C9.2.1 (x := q1) dL_move_14 hl9 (by decide) rfl (fun ls2 hl2 => ?_)
  refine z_iconst C9 dL_move_16 ?_
  exact zl_ret C9 hAt1 hW1 hS1 hr9 hk9 (Nat.le_of_ble_eq_true rfl) (Nat.le_of_ble_eq_true rfl) dL_move_17 rfl
set_option maxHeartbeats 4000000 in
set_option maxRecDepth 100000 in
theorem c_L_power_badc (l : Launch) (hlq : l.stackTraces = false) (D : va_G) (cJ : ClassId) (o a : Nat) (c : Nat → Nat) (ac : Int32) (re : Int32) (kn : Int32) (f : Int) (t : Int) (g : Int) (z : Int) (r9f : -2147483648 ≤ f ∧ f ≤ 2147483647) (r9t : -2147483648 ≤ t ∧ t ≤ 2147483647) (r9g : -2147483648 ≤ g ∧ g ≤ 2147483647) (r9z : -2147483648 ≤ z ∧ z ≤ 2147483647) (hbad : ¬ ((0 ≤ f ∧ f ≤ 5) ∧ (0 ≤ g ∧ g ≤ 5) ∧ (0 ≤ z ∧ z ≤ 5))) (w9 : Nat) (n9 : Int64) (s9 : Value) : zL l yL_power 9 178 1 6 D cJ o a w9 [.ref o, .int (iZ (f)), .int (iZ (t)), .int (iZ (g)), .int (iZ (z)), .ref w9] c [.int (ac), .int (re), .int (kn)] n9 s9 1 c [.int (ac), .int (re), .int (kn)] n9 s9 := by
  refine zL.intro (lo := 152) (nA := 6) zw_L_power (by decide) rfl rfl (by decide +kernel) rfl (Nat.le_of_ble_eq_true rfl) ?_
  intro p e s m below meth c0 ls C9 hr9 hk9 ht9 hLi9 hS9 hl9
  have hl9 : lv_has ls 7 [(0, .ref o), (1, .int (iZ (f))), (2, .int (iZ (t))), (3, .int (iZ (g))), (4, .int (iZ (z))), (5, .ref w9)] := hl9
  refine lv_aload C9.1 C9.2.1 dL_power_0 (lv_at hl9 5 rfl) ?_
  refine lv_aload_n C9.1 C9.2.1 dL_power_2 rfl (lv_at hl9 0 rfl) ?_
  refine lv_iload_n C9.1 C9.2.1 dL_power_3 rfl (lv_at hl9 1 rfl) ?_
  refine lv_iload_n C9.1 C9.2.1 dL_power_4 rfl (lv_at hl9 2 rfl) ?_
  refine lv_iload_n C9.1 C9.2.1 dL_power_5 rfl (lv_at hl9 3 rfl) ?_
  refine lv_iload C9.1 C9.2.1 dL_power_6 (lv_at hl9 4 rfl) ?_
  refine zg_callX (as := [.int (iZ (f)), .int (iZ (t)), .int (iZ (g)), .int (iZ (z))]) C9 hLi9.1 (hLi9.2.2.2.1.narrow fun q h => Or.inr h) hS9 (fun q h => Or.inr h) (c_X3_power_badc l hlq D cJ o a c ac re kn f t g z r9f r9t r9g r9z hbad) ml_L_85 rfl (by decide) (by decide) hl9 (Nat.le_of_ble_eq_true rfl) rfl dL_power_8 (fun H1 locs1 ce1 q1 hAt1 hS1 hk1 hz1 hc1 hv1 hf1 => ?_)
  have hW1 := hLi9.2.1.kept (hk1 w9 hLi9.2.1.lt (fun z => z.elim hLi9.2.2.1.1 hLi9.2.2.1.2))
  refine zl_catch1 C9 (ht9.trans rfl) (by decide +kernel) (by decide) cl_L_19 hLi9.2.2.2.2.1 hc1 hv1 hf1 ?_
  refine lv_astore C9.1 C9.2.1 (x := q1) dL_power_18 hl9 (by decide) rfl (fun ls2 hl2 => ?_)
  refine z_iconst C9 dL_power_20 ?_
  exact zl_ret C9 hAt1 hW1 hS1 hr9 hk9 (Nat.le_of_ble_eq_true rfl) (Nat.le_of_ble_eq_true rfl) dL_power_21 rfl
set_option maxHeartbeats 4000000 in
set_option maxRecDepth 100000 in
theorem c_L_power_badr (l : Launch) (hlq : l.stackTraces = false) (D : va_G) (cJ : ClassId) (o a : Nat) (c : Nat → Nat) (ac : Int32) (re : Int32) (kn : Int32) (f : Int) (t : Int) (g : Int) (z : Int) (r9f : -2147483648 ≤ f ∧ f ≤ 2147483647) (r9t : -2147483648 ≤ t ∧ t ≤ 2147483647) (r9g : -2147483648 ≤ g ∧ g ≤ 2147483647) (r9z : -2147483648 ≤ z ∧ z ≤ 2147483647) (hf : 0 ≤ f ∧ f ≤ 5) (hg : 0 ≤ g ∧ g ≤ 5) (hz : 0 ≤ z ∧ z ≤ 5) (hbad : ¬ ((0 ≤ t ∧ t ≤ 255))) (w9 : Nat) (n9 : Int64) (s9 : Value) : zL l yL_power 8 158 1 6 D cJ o a w9 [.ref o, .int (iZ (f)), .int (iZ (t)), .int (iZ (g)), .int (iZ (z)), .ref w9] c [.int (ac), .int (re), .int (kn)] n9 s9 2 c [.int (ac), .int (re), .int (kn)] n9 s9 := by
  refine zL.intro (lo := 132) (nA := 6) zw_L_power (by decide) rfl rfl (by decide +kernel) rfl (Nat.le_of_ble_eq_true rfl) ?_
  intro p e s m below meth c0 ls C9 hr9 hk9 ht9 hLi9 hS9 hl9
  have hl9 : lv_has ls 7 [(0, .ref o), (1, .int (iZ (f))), (2, .int (iZ (t))), (3, .int (iZ (g))), (4, .int (iZ (z))), (5, .ref w9)] := hl9
  refine lv_aload C9.1 C9.2.1 dL_power_0 (lv_at hl9 5 rfl) ?_
  refine lv_aload_n C9.1 C9.2.1 dL_power_2 rfl (lv_at hl9 0 rfl) ?_
  refine lv_iload_n C9.1 C9.2.1 dL_power_3 rfl (lv_at hl9 1 rfl) ?_
  refine lv_iload_n C9.1 C9.2.1 dL_power_4 rfl (lv_at hl9 2 rfl) ?_
  refine lv_iload_n C9.1 C9.2.1 dL_power_5 rfl (lv_at hl9 3 rfl) ?_
  refine lv_iload C9.1 C9.2.1 dL_power_6 (lv_at hl9 4 rfl) ?_
  refine zg_callX (as := [.int (iZ (f)), .int (iZ (t)), .int (iZ (g)), .int (iZ (z))]) C9 hLi9.1 (hLi9.2.2.2.1.narrow fun q h => Or.inr h) hS9 (fun q h => Or.inr h) (c_X3_power_badr l hlq D cJ o a c ac re kn f t g z r9f r9t r9g r9z hf hg hz hbad) ml_L_85 rfl (by decide) (by decide) hl9 (Nat.le_of_ble_eq_true rfl) rfl dL_power_8 (fun H1 locs1 ce1 q1 hAt1 hS1 hk1 hz1 hc1 hv1 hf1 => ?_)
  have hW1 := hLi9.2.1.kept (hk1 w9 hLi9.2.1.lt (fun z => z.elim hLi9.2.2.1.1 hLi9.2.2.1.2))
  refine zl_catch2 C9 (ht9.trans rfl) (by decide) cl_L_19 hLi9.2.2.2.2.2.2.1 (by decide +kernel) (by decide) cl_L_24 hLi9.2.2.2.2.2.1 hc1 hv1 hf1 ?_
  refine lv_astore C9.1 C9.2.1 (x := q1) dL_power_22 hl9 (by decide) rfl (fun ls2 hl2 => ?_)
  refine z_iconst C9 dL_power_24 ?_
  exact zl_ret C9 hAt1 hW1 hS1 hr9 hk9 (Nat.le_of_ble_eq_true rfl) (Nat.le_of_ble_eq_true rfl) dL_power_25 rfl
set_option maxHeartbeats 4000000 in
set_option maxRecDepth 100000 in
theorem c_L_nth_badc (l : Launch) (hlq : l.stackTraces = false) (D : va_G) (cJ : ClassId) (o a : Nat) (c : Nat → Nat) (ac : Int32) (re : Int32) (kn : Int32) (d : Int) (r : Int) (z : Int) (r9d : -2147483648 ≤ d ∧ d ≤ 2147483647) (r9r : -2147483648 ≤ r ∧ r ≤ 2147483647) (r9z : -2147483648 ≤ z ∧ z ≤ 2147483647) (hbad : ¬ ((0 ≤ z ∧ z ≤ 5))) (w9 : Nat) (n9 : Int64) (s9 : Value) : zL l yL_nth 8 153 1 6 D cJ o a w9 [.ref o, .int (iZ (d)), .int (iZ (r)), .int (iZ (z)), .ref w9] c [.int (ac), .int (re), .int (kn)] n9 s9 1 c [.int (ac), .int (re), .int (kn)] n9 s9 := by
  refine zL.intro (lo := 128) (nA := 5) zw_L_nth (by decide) rfl rfl (by decide +kernel) rfl (Nat.le_of_ble_eq_true rfl) ?_
  intro p e s m below meth c0 ls C9 hr9 hk9 ht9 hLi9 hS9 hl9
  have hl9 : lv_has ls 6 [(0, .ref o), (1, .int (iZ (d))), (2, .int (iZ (r))), (3, .int (iZ (z))), (4, .ref w9)] := hl9
  refine lv_aload C9.1 C9.2.1 dL_nth_0 (lv_at hl9 4 rfl) ?_
  refine lv_aload_n C9.1 C9.2.1 dL_nth_2 rfl (lv_at hl9 0 rfl) ?_
  refine lv_iload_n C9.1 C9.2.1 dL_nth_3 rfl (lv_at hl9 1 rfl) ?_
  refine lv_iload_n C9.1 C9.2.1 dL_nth_4 rfl (lv_at hl9 2 rfl) ?_
  refine lv_iload_n C9.1 C9.2.1 dL_nth_5 rfl (lv_at hl9 3 rfl) ?_
  refine zg_callX (as := [.int (iZ (d)), .int (iZ (r)), .int (iZ (z))]) C9 hLi9.1 (hLi9.2.2.2.1.narrow fun q h => Or.inr h) hS9 (fun q h => Or.inr h) (c_X3_nth_badc l hlq D cJ o a c ac re kn d r z r9d r9r r9z hbad) ml_L_88 rfl (by decide) (by decide) hl9 (Nat.le_of_ble_eq_true rfl) rfl dL_nth_6 (fun H1 locs1 ce1 q1 hAt1 hS1 hk1 hz1 hc1 hv1 hf1 => ?_)
  have hW1 := hLi9.2.1.kept (hk1 w9 hLi9.2.1.lt (fun z => z.elim hLi9.2.2.1.1 hLi9.2.2.1.2))
  refine zl_catch1 C9 (ht9.trans rfl) (by decide +kernel) (by decide) cl_L_19 hLi9.2.2.2.2.1 hc1 hv1 hf1 ?_
  refine lv_astore C9.1 C9.2.1 (x := q1) dL_nth_16 hl9 (by decide) rfl (fun ls2 hl2 => ?_)
  refine z_iconst C9 dL_nth_18 ?_
  exact zl_ret C9 hAt1 hW1 hS1 hr9 hk9 (Nat.le_of_ble_eq_true rfl) (Nat.le_of_ble_eq_true rfl) dL_nth_19 rfl
set_option maxHeartbeats 4000000 in
set_option maxRecDepth 100000 in
theorem c_L_nth_badr (l : Launch) (hlq : l.stackTraces = false) (D : va_G) (cJ : ClassId) (o a : Nat) (c : Nat → Nat) (ac : Int32) (re : Int32) (kn : Int32) (d : Int) (r : Int) (z : Int) (r9d : -2147483648 ≤ d ∧ d ≤ 2147483647) (r9r : -2147483648 ≤ r ∧ r ≤ 2147483647) (r9z : -2147483648 ≤ z ∧ z ≤ 2147483647) (hz : 0 ≤ z ∧ z ≤ 5) (hbad : ¬ ((1 ≤ d ∧ d ≤ 8) ∧ (0 ≤ r ∧ r ≤ 40))) (w9 : Nat) (n9 : Int64) (s9 : Value) : zL l yL_nth 8 154 1 6 D cJ o a w9 [.ref o, .int (iZ (d)), .int (iZ (r)), .int (iZ (z)), .ref w9] c [.int (ac), .int (re), .int (kn)] n9 s9 2 c [.int (ac), .int (re), .int (kn)] n9 s9 := by
  refine zL.intro (lo := 129) (nA := 5) zw_L_nth (by decide) rfl rfl (by decide +kernel) rfl (Nat.le_of_ble_eq_true rfl) ?_
  intro p e s m below meth c0 ls C9 hr9 hk9 ht9 hLi9 hS9 hl9
  have hl9 : lv_has ls 6 [(0, .ref o), (1, .int (iZ (d))), (2, .int (iZ (r))), (3, .int (iZ (z))), (4, .ref w9)] := hl9
  refine lv_aload C9.1 C9.2.1 dL_nth_0 (lv_at hl9 4 rfl) ?_
  refine lv_aload_n C9.1 C9.2.1 dL_nth_2 rfl (lv_at hl9 0 rfl) ?_
  refine lv_iload_n C9.1 C9.2.1 dL_nth_3 rfl (lv_at hl9 1 rfl) ?_
  refine lv_iload_n C9.1 C9.2.1 dL_nth_4 rfl (lv_at hl9 2 rfl) ?_
  refine lv_iload_n C9.1 C9.2.1 dL_nth_5 rfl (lv_at hl9 3 rfl) ?_
  refine zg_callX (as := [.int (iZ (d)), .int (iZ (r)), .int (iZ (z))]) C9 hLi9.1 (hLi9.2.2.2.1.narrow fun q h => Or.inr h) hS9 (fun q h => Or.inr h) (c_X3_nth_badr l hlq D cJ o a c ac re kn d r z r9d r9r r9z hz hbad) ml_L_88 rfl (by decide) (by decide) hl9 (Nat.le_of_ble_eq_true rfl) rfl dL_nth_6 (fun H1 locs1 ce1 q1 hAt1 hS1 hk1 hz1 hc1 hv1 hf1 => ?_)
  have hW1 := hLi9.2.1.kept (hk1 w9 hLi9.2.1.lt (fun z => z.elim hLi9.2.2.1.1 hLi9.2.2.1.2))
  refine zl_catch2 C9 (ht9.trans rfl) (by decide) cl_L_19 hLi9.2.2.2.2.2.2.1 (by decide +kernel) (by decide) cl_L_24 hLi9.2.2.2.2.2.1 hc1 hv1 hf1 ?_
  refine lv_astore C9.1 C9.2.1 (x := q1) dL_nth_20 hl9 (by decide) rfl (fun ls2 hl2 => ?_)
  refine z_iconst C9 dL_nth_22 ?_
  exact zl_ret C9 hAt1 hW1 hS1 hr9 hk9 (Nat.le_of_ble_eq_true rfl) (Nat.le_of_ble_eq_true rfl) dL_nth_23 rfl
set_option maxHeartbeats 4000000 in
set_option maxRecDepth 100000 in
theorem c_L_field_badc (l : Launch) (hlq : l.stackTraces = false) (D : va_G) (cJ : ClassId) (o a : Nat) (c : Nat → Nat) (ac : Int32) (re : Int32) (kn : Int32) (n : Int) (z : Int) (r9n : -2147483648 ≤ n ∧ n ≤ 2147483647) (r9z : -2147483648 ≤ z ∧ z ≤ 2147483647) (hbad : ¬ ((0 ≤ z ∧ z ≤ 5))) (w9 : Nat) (n9 : Int64) (s9 : Value) : zL l yL_field 8 149 1 6 D cJ o a w9 [.ref o, .int (iZ (n)), .int (iZ (z)), .ref w9] c [.int (ac), .int (re), .int (kn)] n9 s9 1 c [.int (ac), .int (re), .int (kn)] n9 s9 := by
  refine zL.intro (lo := 125) (nA := 4) zw_L_field (by decide) rfl rfl (by decide +kernel) rfl (Nat.le_of_ble_eq_true rfl) ?_
  intro p e s m below meth c0 ls C9 hr9 hk9 ht9 hLi9 hS9 hl9
  have hl9 : lv_has ls 5 [(0, .ref o), (1, .int (iZ (n))), (2, .int (iZ (z))), (3, .ref w9)] := hl9
  refine lv_aload_n C9.1 C9.2.1 dL_field_0 rfl (lv_at hl9 3 rfl) ?_
  refine lv_aload_n C9.1 C9.2.1 dL_field_1 rfl (lv_at hl9 0 rfl) ?_
  refine lv_iload_n C9.1 C9.2.1 dL_field_2 rfl (lv_at hl9 1 rfl) ?_
  refine lv_iload_n C9.1 C9.2.1 dL_field_3 rfl (lv_at hl9 2 rfl) ?_
  refine zg_callX (as := [.int (iZ (n)), .int (iZ (z))]) C9 hLi9.1 (hLi9.2.2.2.1.narrow fun q h => Or.inr h) hS9 (fun q h => Or.inr h) (c_X3_field_badc l hlq D cJ o a c ac re kn n z r9n r9z hbad) ml_L_91 rfl (by decide) (by decide) hl9 (Nat.le_of_ble_eq_true rfl) rfl dL_field_4 (fun H1 locs1 ce1 q1 hAt1 hS1 hk1 hz1 hc1 hv1 hf1 => ?_)
  have hW1 := hLi9.2.1.kept (hk1 w9 hLi9.2.1.lt (fun z => z.elim hLi9.2.2.1.1 hLi9.2.2.1.2))
  refine zl_catch1 C9 (ht9.trans rfl) (by decide +kernel) (by decide) cl_L_19 hLi9.2.2.2.2.1 hc1 hv1 hf1 ?_
  refine lv_astore C9.1 C9.2.1 (x := q1) dL_field_14 hl9 (by decide) rfl (fun ls2 hl2 => ?_)
  refine z_iconst C9 dL_field_16 ?_
  exact zl_ret C9 hAt1 hW1 hS1 hr9 hk9 (Nat.le_of_ble_eq_true rfl) (Nat.le_of_ble_eq_true rfl) dL_field_17 rfl
set_option maxHeartbeats 4000000 in
set_option maxRecDepth 100000 in
theorem c_L_field_badr (l : Launch) (hlq : l.stackTraces = false) (D : va_G) (cJ : ClassId) (o a : Nat) (c : Nat → Nat) (ac : Int32) (re : Int32) (kn : Int32) (n : Int) (z : Int) (r9n : -2147483648 ≤ n ∧ n ≤ 2147483647) (r9z : -2147483648 ≤ z ∧ z ≤ 2147483647) (hz : 0 ≤ z ∧ z ≤ 5) (hbad : ¬ ((1 ≤ n ∧ n ≤ 5))) (w9 : Nat) (n9 : Int64) (s9 : Value) : zL l yL_field 8 150 1 6 D cJ o a w9 [.ref o, .int (iZ (n)), .int (iZ (z)), .ref w9] c [.int (ac), .int (re), .int (kn)] n9 s9 2 c [.int (ac), .int (re), .int (kn)] n9 s9 := by
  refine zL.intro (lo := 126) (nA := 4) zw_L_field (by decide) rfl rfl (by decide +kernel) rfl (Nat.le_of_ble_eq_true rfl) ?_
  intro p e s m below meth c0 ls C9 hr9 hk9 ht9 hLi9 hS9 hl9
  have hl9 : lv_has ls 5 [(0, .ref o), (1, .int (iZ (n))), (2, .int (iZ (z))), (3, .ref w9)] := hl9
  refine lv_aload_n C9.1 C9.2.1 dL_field_0 rfl (lv_at hl9 3 rfl) ?_
  refine lv_aload_n C9.1 C9.2.1 dL_field_1 rfl (lv_at hl9 0 rfl) ?_
  refine lv_iload_n C9.1 C9.2.1 dL_field_2 rfl (lv_at hl9 1 rfl) ?_
  refine lv_iload_n C9.1 C9.2.1 dL_field_3 rfl (lv_at hl9 2 rfl) ?_
  refine zg_callX (as := [.int (iZ (n)), .int (iZ (z))]) C9 hLi9.1 (hLi9.2.2.2.1.narrow fun q h => Or.inr h) hS9 (fun q h => Or.inr h) (c_X3_field_badr l hlq D cJ o a c ac re kn n z r9n r9z hz hbad) ml_L_91 rfl (by decide) (by decide) hl9 (Nat.le_of_ble_eq_true rfl) rfl dL_field_4 (fun H1 locs1 ce1 q1 hAt1 hS1 hk1 hz1 hc1 hv1 hf1 => ?_)
  have hW1 := hLi9.2.1.kept (hk1 w9 hLi9.2.1.lt (fun z => z.elim hLi9.2.2.1.1 hLi9.2.2.1.2))
  refine zl_catch2 C9 (ht9.trans rfl) (by decide) cl_L_19 hLi9.2.2.2.2.2.2.1 (by decide +kernel) (by decide) cl_L_24 hLi9.2.2.2.2.2.1 hc1 hv1 hf1 ?_
  refine lv_astore C9.1 C9.2.1 (x := q1) dL_field_18 hl9 (by decide) rfl (fun ls2 hl2 => ?_)
  refine z_iconst C9 dL_field_20 ?_
  exact zl_ret C9 hAt1 hW1 hS1 hr9 hk9 (Nat.le_of_ble_eq_true rfl) (Nat.le_of_ble_eq_true rfl) dL_field_21 rfl
set_option maxHeartbeats 4000000 in
set_option maxRecDepth 100000 in
theorem c_L_again_badc (l : Launch) (hlq : l.stackTraces = false) (D : va_G) (cJ : ClassId) (o a : Nat) (c : Nat → Nat) (ac : Int32) (re : Int32) (kn : Int32) (f : Int) (r : Int) (z : Int) (r9f : -2147483648 ≤ f ∧ f ≤ 2147483647) (r9r : -2147483648 ≤ r ∧ r ≤ 2147483647) (r9z : -2147483648 ≤ z ∧ z ≤ 2147483647) (hbad : ¬ ((0 ≤ f ∧ f ≤ 5) ∧ (0 ≤ z ∧ z ≤ 5))) (w9 : Nat) (n9 : Int64) (s9 : Value) : zL l yL_again 9 174 1 6 D cJ o a w9 [.ref o, .int (iZ (f)), .int (iZ (r)), .int (iZ (z)), .ref w9] c [.int (ac), .int (re), .int (kn)] n9 s9 1 c [.int (ac), .int (re), .int (kn)] n9 s9 := by
  refine zL.intro (lo := 149) (nA := 5) zw_L_again (by decide) rfl rfl (by decide +kernel) rfl (Nat.le_of_ble_eq_true rfl) ?_
  intro p e s m below meth c0 ls C9 hr9 hk9 ht9 hLi9 hS9 hl9
  have hl9 : lv_has ls 6 [(0, .ref o), (1, .int (iZ (f))), (2, .int (iZ (r))), (3, .int (iZ (z))), (4, .ref w9)] := hl9
  refine lv_aload C9.1 C9.2.1 dL_again_0 (lv_at hl9 4 rfl) ?_
  refine lv_aload_n C9.1 C9.2.1 dL_again_2 rfl (lv_at hl9 0 rfl) ?_
  refine lv_iload_n C9.1 C9.2.1 dL_again_3 rfl (lv_at hl9 1 rfl) ?_
  refine lv_iload_n C9.1 C9.2.1 dL_again_4 rfl (lv_at hl9 2 rfl) ?_
  refine lv_iload_n C9.1 C9.2.1 dL_again_5 rfl (lv_at hl9 3 rfl) ?_
  refine zg_callX (as := [.int (iZ (f)), .int (iZ (r)), .int (iZ (z))]) C9 hLi9.1 (hLi9.2.2.2.1.narrow fun q h => Or.inr h) hS9 (fun q h => Or.inr h) (c_X3_again_badc l hlq D cJ o a c ac re kn f r z r9f r9r r9z hbad) ml_L_94 rfl (by decide) (by decide) hl9 (Nat.le_of_ble_eq_true rfl) rfl dL_again_6 (fun H1 locs1 ce1 q1 hAt1 hS1 hk1 hz1 hc1 hv1 hf1 => ?_)
  have hW1 := hLi9.2.1.kept (hk1 w9 hLi9.2.1.lt (fun z => z.elim hLi9.2.2.1.1 hLi9.2.2.1.2))
  refine zl_catch1 C9 (ht9.trans rfl) (by decide +kernel) (by decide) cl_L_19 hLi9.2.2.2.2.1 hc1 hv1 hf1 ?_
  refine lv_astore C9.1 C9.2.1 (x := q1) dL_again_16 hl9 (by decide) rfl (fun ls2 hl2 => ?_)
  refine z_iconst C9 dL_again_18 ?_
  exact zl_ret C9 hAt1 hW1 hS1 hr9 hk9 (Nat.le_of_ble_eq_true rfl) (Nat.le_of_ble_eq_true rfl) dL_again_19 rfl
set_option maxHeartbeats 4000000 in
set_option maxRecDepth 100000 in
theorem c_L_again_badr (l : Launch) (hlq : l.stackTraces = false) (D : va_G) (cJ : ClassId) (o a : Nat) (c : Nat → Nat) (ac : Int32) (re : Int32) (kn : Int32) (f : Int) (r : Int) (z : Int) (r9f : -2147483648 ≤ f ∧ f ≤ 2147483647) (r9r : -2147483648 ≤ r ∧ r ≤ 2147483647) (r9z : -2147483648 ≤ z ∧ z ≤ 2147483647) (hf : 0 ≤ f ∧ f ≤ 5) (hz : 0 ≤ z ∧ z ≤ 5) (hbad : ¬ ((2 ≤ r ∧ r ≤ 36))) (w9 : Nat) (n9 : Int64) (s9 : Value) : zL l yL_again 8 154 1 6 D cJ o a w9 [.ref o, .int (iZ (f)), .int (iZ (r)), .int (iZ (z)), .ref w9] c [.int (ac), .int (re), .int (kn)] n9 s9 2 c [.int (ac), .int (re), .int (kn)] n9 s9 := by
  refine zL.intro (lo := 129) (nA := 5) zw_L_again (by decide) rfl rfl (by decide +kernel) rfl (Nat.le_of_ble_eq_true rfl) ?_
  intro p e s m below meth c0 ls C9 hr9 hk9 ht9 hLi9 hS9 hl9
  have hl9 : lv_has ls 6 [(0, .ref o), (1, .int (iZ (f))), (2, .int (iZ (r))), (3, .int (iZ (z))), (4, .ref w9)] := hl9
  refine lv_aload C9.1 C9.2.1 dL_again_0 (lv_at hl9 4 rfl) ?_
  refine lv_aload_n C9.1 C9.2.1 dL_again_2 rfl (lv_at hl9 0 rfl) ?_
  refine lv_iload_n C9.1 C9.2.1 dL_again_3 rfl (lv_at hl9 1 rfl) ?_
  refine lv_iload_n C9.1 C9.2.1 dL_again_4 rfl (lv_at hl9 2 rfl) ?_
  refine lv_iload_n C9.1 C9.2.1 dL_again_5 rfl (lv_at hl9 3 rfl) ?_
  refine zg_callX (as := [.int (iZ (f)), .int (iZ (r)), .int (iZ (z))]) C9 hLi9.1 (hLi9.2.2.2.1.narrow fun q h => Or.inr h) hS9 (fun q h => Or.inr h) (c_X3_again_badr l hlq D cJ o a c ac re kn f r z r9f r9r r9z hf hz hbad) ml_L_94 rfl (by decide) (by decide) hl9 (Nat.le_of_ble_eq_true rfl) rfl dL_again_6 (fun H1 locs1 ce1 q1 hAt1 hS1 hk1 hz1 hc1 hv1 hf1 => ?_)
  have hW1 := hLi9.2.1.kept (hk1 w9 hLi9.2.1.lt (fun z => z.elim hLi9.2.2.1.1 hLi9.2.2.1.2))
  refine zl_catch2 C9 (ht9.trans rfl) (by decide) cl_L_19 hLi9.2.2.2.2.2.2.1 (by decide +kernel) (by decide) cl_L_24 hLi9.2.2.2.2.2.1 hc1 hv1 hf1 ?_
  refine lv_astore C9.1 C9.2.1 (x := q1) dL_again_20 hl9 (by decide) rfl (fun ls2 hl2 => ?_)
  refine z_iconst C9 dL_again_22 ?_
  exact zl_ret C9 hAt1 hW1 hS1 hr9 hk9 (Nat.le_of_ble_eq_true rfl) (Nat.le_of_ble_eq_true rfl) dL_again_23 rfl
set_option maxHeartbeats 4000000 in
set_option maxRecDepth 100000 in
theorem c_L_degree_badc (l : Launch) (hlq : l.stackTraces = false) (D : va_G) (cJ : ClassId) (o a : Nat) (c : Nat → Nat) (ac : Int32) (re : Int32) (kn : Int32) (z : Int) (r9z : -2147483648 ≤ z ∧ z ≤ 2147483647) (hbad : ¬ ((0 ≤ z ∧ z ≤ 5))) (w9 : Nat) (n9 : Int64) (s9 : Value) : zL l yL_degree 9 168 1 6 D cJ o a w9 [.ref o, .int (iZ (z)), .ref w9] c [.int (ac), .int (re), .int (kn)] n9 s9 1 c [.int (ac), .int (re), .int (kn)] n9 s9 := by
  refine zL.intro (lo := 145) (nA := 3) zw_L_degree (by decide) rfl rfl (by decide +kernel) rfl (Nat.le_of_ble_eq_true rfl) ?_
  intro p e s m below meth c0 ls C9 hr9 hk9 ht9 hLi9 hS9 hl9
  have hl9 : lv_has ls 4 [(0, .ref o), (1, .int (iZ (z))), (2, .ref w9)] := hl9
  refine lv_aload_n C9.1 C9.2.1 dL_degree_0 rfl (lv_at hl9 2 rfl) ?_
  refine lv_aload_n C9.1 C9.2.1 dL_degree_1 rfl (lv_at hl9 0 rfl) ?_
  refine lv_iload_n C9.1 C9.2.1 dL_degree_2 rfl (lv_at hl9 1 rfl) ?_
  refine zg_callX (as := [.int (iZ (z))]) C9 hLi9.1 (hLi9.2.2.2.1.narrow fun q h => Or.inr h) hS9 (fun q h => Or.inr h) (c_X3_degree_badc l hlq D cJ o a c ac re kn z r9z hbad) ml_L_97 rfl (by decide) (by decide) hl9 (Nat.le_of_ble_eq_true rfl) rfl dL_degree_3 (fun H1 locs1 ce1 q1 hAt1 hS1 hk1 hz1 hc1 hv1 hf1 => ?_)
  have hW1 := hLi9.2.1.kept (hk1 w9 hLi9.2.1.lt (fun z => z.elim hLi9.2.2.1.1 hLi9.2.2.1.2))
  refine zl_catch1 C9 (ht9.trans rfl) (by decide +kernel) (by decide) cl_L_19 hLi9.2.2.2.2.1 hc1 hv1 hf1 ?_
  refine lv_astore_n C9.1 C9.2.1 (x := q1) dL_degree_13 rfl hl9 (by decide) rfl (fun ls2 hl2 => ?_)
  refine z_iconst C9 dL_degree_14 ?_
  exact zl_ret C9 hAt1 hW1 hS1 hr9 hk9 (Nat.le_of_ble_eq_true rfl) (Nat.le_of_ble_eq_true rfl) dL_degree_15 rfl
set_option maxHeartbeats 4000000 in
set_option maxRecDepth 100000 in
theorem c_L_low_badc (l : Launch) (hlq : l.stackTraces = false) (D : va_G) (cJ : ClassId) (o a : Nat) (c : Nat → Nat) (ac : Int32) (re : Int32) (kn : Int32) (z : Int) (r9z : -2147483648 ≤ z ∧ z ≤ 2147483647) (hbad : ¬ ((0 ≤ z ∧ z ≤ 5))) (w9 : Nat) (n9 : Int64) (s9 : Value) : zL l yL_low 9 168 1 6 D cJ o a w9 [.ref o, .int (iZ (z)), .ref w9] c [.int (ac), .int (re), .int (kn)] n9 s9 1 c [.int (ac), .int (re), .int (kn)] n9 s9 := by
  refine zL.intro (lo := 145) (nA := 3) zw_L_low (by decide) rfl rfl (by decide +kernel) rfl (Nat.le_of_ble_eq_true rfl) ?_
  intro p e s m below meth c0 ls C9 hr9 hk9 ht9 hLi9 hS9 hl9
  have hl9 : lv_has ls 4 [(0, .ref o), (1, .int (iZ (z))), (2, .ref w9)] := hl9
  refine lv_aload_n C9.1 C9.2.1 dL_low_0 rfl (lv_at hl9 2 rfl) ?_
  refine lv_aload_n C9.1 C9.2.1 dL_low_1 rfl (lv_at hl9 0 rfl) ?_
  refine lv_iload_n C9.1 C9.2.1 dL_low_2 rfl (lv_at hl9 1 rfl) ?_
  refine zg_callX (as := [.int (iZ (z))]) C9 hLi9.1 (hLi9.2.2.2.1.narrow fun q h => Or.inr h) hS9 (fun q h => Or.inr h) (c_X3_low_badc l hlq D cJ o a c ac re kn z r9z hbad) ml_L_101 rfl (by decide) (by decide) hl9 (Nat.le_of_ble_eq_true rfl) rfl dL_low_3 (fun H1 locs1 ce1 q1 hAt1 hS1 hk1 hz1 hc1 hv1 hf1 => ?_)
  have hW1 := hLi9.2.1.kept (hk1 w9 hLi9.2.1.lt (fun z => z.elim hLi9.2.2.1.1 hLi9.2.2.1.2))
  refine zl_catch1 C9 (ht9.trans rfl) (by decide +kernel) (by decide) cl_L_19 hLi9.2.2.2.2.1 hc1 hv1 hf1 ?_
  refine lv_astore_n C9.1 C9.2.1 (x := q1) dL_low_13 rfl hl9 (by decide) rfl (fun ls2 hl2 => ?_)
  refine z_iconst C9 dL_low_14 ?_
  exact zl_ret C9 hAt1 hW1 hS1 hr9 hk9 (Nat.le_of_ble_eq_true rfl) (Nat.le_of_ble_eq_true rfl) dL_low_15 rfl
set_option maxHeartbeats 4000000 in
set_option maxRecDepth 100000 in
theorem c_L_weight_badc (l : Launch) (hlq : l.stackTraces = false) (D : va_G) (cJ : ClassId) (o a : Nat) (c : Nat → Nat) (ac : Int32) (re : Int32) (kn : Int32) (z : Int) (r9z : -2147483648 ≤ z ∧ z ≤ 2147483647) (hbad : ¬ ((0 ≤ z ∧ z ≤ 5))) (w9 : Nat) (n9 : Int64) (s9 : Value) : zL l yL_weight 9 168 1 6 D cJ o a w9 [.ref o, .int (iZ (z)), .ref w9] c [.int (ac), .int (re), .int (kn)] n9 s9 1 c [.int (ac), .int (re), .int (kn)] n9 s9 := by
  refine zL.intro (lo := 145) (nA := 3) zw_L_weight (by decide) rfl rfl (by decide +kernel) rfl (Nat.le_of_ble_eq_true rfl) ?_
  intro p e s m below meth c0 ls C9 hr9 hk9 ht9 hLi9 hS9 hl9
  have hl9 : lv_has ls 4 [(0, .ref o), (1, .int (iZ (z))), (2, .ref w9)] := hl9
  refine lv_aload_n C9.1 C9.2.1 dL_weight_0 rfl (lv_at hl9 2 rfl) ?_
  refine lv_aload_n C9.1 C9.2.1 dL_weight_1 rfl (lv_at hl9 0 rfl) ?_
  refine lv_iload_n C9.1 C9.2.1 dL_weight_2 rfl (lv_at hl9 1 rfl) ?_
  refine zg_callX (as := [.int (iZ (z))]) C9 hLi9.1 (hLi9.2.2.2.1.narrow fun q h => Or.inr h) hS9 (fun q h => Or.inr h) (c_X3_weight_badc l hlq D cJ o a c ac re kn z r9z hbad) ml_L_104 rfl (by decide) (by decide) hl9 (Nat.le_of_ble_eq_true rfl) rfl dL_weight_3 (fun H1 locs1 ce1 q1 hAt1 hS1 hk1 hz1 hc1 hv1 hf1 => ?_)
  have hW1 := hLi9.2.1.kept (hk1 w9 hLi9.2.1.lt (fun z => z.elim hLi9.2.2.1.1 hLi9.2.2.1.2))
  refine zl_catch1 C9 (ht9.trans rfl) (by decide +kernel) (by decide) cl_L_19 hLi9.2.2.2.2.1 hc1 hv1 hf1 ?_
  refine lv_astore_n C9.1 C9.2.1 (x := q1) dL_weight_13 rfl hl9 (by decide) rfl (fun ls2 hl2 => ?_)
  refine z_iconst C9 dL_weight_14 ?_
  exact zl_ret C9 hAt1 hW1 hS1 hr9 hk9 (Nat.le_of_ble_eq_true rfl) (Nat.le_of_ble_eq_true rfl) dL_weight_15 rfl
set_option maxHeartbeats 4000000 in
set_option maxRecDepth 100000 in
theorem c_L_digits_badc (l : Launch) (hlq : l.stackTraces = false) (D : va_G) (cJ : ClassId) (o a : Nat) (c : Nat → Nat) (ac : Int32) (re : Int32) (kn : Int32) (z : Int) (r9z : -2147483648 ≤ z ∧ z ≤ 2147483647) (hbad : ¬ ((0 ≤ z ∧ z ≤ 5))) (w9 : Nat) (n9 : Int64) (s9 : Value) : zL l yL_digits 9 168 1 6 D cJ o a w9 [.ref o, .int (iZ (z)), .ref w9] c [.int (ac), .int (re), .int (kn)] n9 s9 1 c [.int (ac), .int (re), .int (kn)] n9 s9 := by
  refine zL.intro (lo := 145) (nA := 3) zw_L_digits (by decide) rfl rfl (by decide +kernel) rfl (Nat.le_of_ble_eq_true rfl) ?_
  intro p e s m below meth c0 ls C9 hr9 hk9 ht9 hLi9 hS9 hl9
  have hl9 : lv_has ls 4 [(0, .ref o), (1, .int (iZ (z))), (2, .ref w9)] := hl9
  refine lv_aload_n C9.1 C9.2.1 dL_digits_0 rfl (lv_at hl9 2 rfl) ?_
  refine lv_aload_n C9.1 C9.2.1 dL_digits_1 rfl (lv_at hl9 0 rfl) ?_
  refine lv_iload_n C9.1 C9.2.1 dL_digits_2 rfl (lv_at hl9 1 rfl) ?_
  refine zg_callX (as := [.int (iZ (z))]) C9 hLi9.1 (hLi9.2.2.2.1.narrow fun q h => Or.inr h) hS9 (fun q h => Or.inr h) (c_X3_digits_badc l hlq D cJ o a c ac re kn z r9z hbad) ml_L_110 rfl (by decide) (by decide) hl9 (Nat.le_of_ble_eq_true rfl) rfl dL_digits_3 (fun H1 locs1 ce1 q1 hAt1 hS1 hk1 hz1 hc1 hv1 hf1 => ?_)
  have hW1 := hLi9.2.1.kept (hk1 w9 hLi9.2.1.lt (fun z => z.elim hLi9.2.2.1.1 hLi9.2.2.1.2))
  refine zl_catch1 C9 (ht9.trans rfl) (by decide +kernel) (by decide) cl_L_19 hLi9.2.2.2.2.1 hc1 hv1 hf1 ?_
  refine lv_astore_n C9.1 C9.2.1 (x := q1) dL_digits_13 rfl hl9 (by decide) rfl (fun ls2 hl2 => ?_)
  refine z_iconst C9 dL_digits_14 ?_
  exact zl_ret C9 hAt1 hW1 hS1 hr9 hk9 (Nat.le_of_ble_eq_true rfl) (Nat.le_of_ble_eq_true rfl) dL_digits_15 rfl
set_option maxHeartbeats 4000000 in
set_option maxRecDepth 100000 in
theorem c_L_at_badc (l : Launch) (hlq : l.stackTraces = false) (D : va_G) (cJ : ClassId) (o a : Nat) (c : Nat → Nat) (ac : Int32) (re : Int32) (kn : Int32) (z : Int) (g : Int) (r9z : -2147483648 ≤ z ∧ z ≤ 2147483647) (r9g : -2147483648 ≤ g ∧ g ≤ 2147483647) (hbad : ¬ ((0 ≤ z ∧ z ≤ 5))) (w9 : Nat) (n9 : Int64) (s9 : Value) : zL l yL_at 9 172 1 6 D cJ o a w9 [.ref o, .int (iZ (z)), .int (iZ (g)), .ref w9] c [.int (ac), .int (re), .int (kn)] n9 s9 1 c [.int (ac), .int (re), .int (kn)] n9 s9 := by
  refine zL.intro (lo := 148) (nA := 4) zw_L_at (by decide) rfl rfl (by decide +kernel) rfl (Nat.le_of_ble_eq_true rfl) ?_
  intro p e s m below meth c0 ls C9 hr9 hk9 ht9 hLi9 hS9 hl9
  have hl9 : lv_has ls 5 [(0, .ref o), (1, .int (iZ (z))), (2, .int (iZ (g))), (3, .ref w9)] := hl9
  refine lv_aload_n C9.1 C9.2.1 dL_at_0 rfl (lv_at hl9 3 rfl) ?_
  refine lv_aload_n C9.1 C9.2.1 dL_at_1 rfl (lv_at hl9 0 rfl) ?_
  refine lv_iload_n C9.1 C9.2.1 dL_at_2 rfl (lv_at hl9 1 rfl) ?_
  refine lv_iload_n C9.1 C9.2.1 dL_at_3 rfl (lv_at hl9 2 rfl) ?_
  refine zg_callX (as := [.int (iZ (z)), .int (iZ (g))]) C9 hLi9.1 (hLi9.2.2.2.1.narrow fun q h => Or.inr h) hS9 (fun q h => Or.inr h) (c_X3_at_badc l hlq D cJ o a c ac re kn z g r9z r9g hbad) ml_L_107 rfl (by decide) (by decide) hl9 (Nat.le_of_ble_eq_true rfl) rfl dL_at_4 (fun H1 locs1 ce1 q1 hAt1 hS1 hk1 hz1 hc1 hv1 hf1 => ?_)
  have hW1 := hLi9.2.1.kept (hk1 w9 hLi9.2.1.lt (fun z => z.elim hLi9.2.2.1.1 hLi9.2.2.1.2))
  refine zl_catch1 C9 (ht9.trans rfl) (by decide +kernel) (by decide) cl_L_19 hLi9.2.2.2.2.1 hc1 hv1 hf1 ?_
  refine lv_astore C9.1 C9.2.1 (x := q1) dL_at_21 hl9 (by decide) rfl (fun ls2 hl2 => ?_)
  refine z_iconst C9 dL_at_23 ?_
  exact zl_ret C9 hAt1 hW1 hS1 hr9 hk9 (Nat.le_of_ble_eq_true rfl) (Nat.le_of_ble_eq_true rfl) dL_at_24 rfl
set_option maxHeartbeats 4000000 in
set_option maxRecDepth 100000 in
theorem c_L_at_badr (l : Launch) (hlq : l.stackTraces = false) (D : va_G) (cJ : ClassId) (o a : Nat) (c : Nat → Nat) (ac : Int32) (re : Int32) (kn : Int32) (z : Int) (g : Int) (r9z : -2147483648 ≤ z ∧ z ≤ 2147483647) (r9g : -2147483648 ≤ g ∧ g ≤ 2147483647) (hz : 0 ≤ z ∧ z ≤ 5) (hbad : ¬ ((0 ≤ g ∧ g ≤ 99))) (w9 : Nat) (n9 : Int64) (s9 : Value) : zL l yL_at 8 152 1 6 D cJ o a w9 [.ref o, .int (iZ (z)), .int (iZ (g)), .ref w9] c [.int (ac), .int (re), .int (kn)] n9 s9 2 c [.int (ac), .int (re), .int (kn)] n9 s9 := by
  refine zL.intro (lo := 128) (nA := 4) zw_L_at (by decide) rfl rfl (by decide +kernel) rfl (Nat.le_of_ble_eq_true rfl) ?_
  intro p e s m below meth c0 ls C9 hr9 hk9 ht9 hLi9 hS9 hl9
  have hl9 : lv_has ls 5 [(0, .ref o), (1, .int (iZ (z))), (2, .int (iZ (g))), (3, .ref w9)] := hl9
  refine lv_aload_n C9.1 C9.2.1 dL_at_0 rfl (lv_at hl9 3 rfl) ?_
  refine lv_aload_n C9.1 C9.2.1 dL_at_1 rfl (lv_at hl9 0 rfl) ?_
  refine lv_iload_n C9.1 C9.2.1 dL_at_2 rfl (lv_at hl9 1 rfl) ?_
  refine lv_iload_n C9.1 C9.2.1 dL_at_3 rfl (lv_at hl9 2 rfl) ?_
  refine zg_callX (as := [.int (iZ (z)), .int (iZ (g))]) C9 hLi9.1 (hLi9.2.2.2.1.narrow fun q h => Or.inr h) hS9 (fun q h => Or.inr h) (c_X3_at_badr l hlq D cJ o a c ac re kn z g r9z r9g hz hbad) ml_L_107 rfl (by decide) (by decide) hl9 (Nat.le_of_ble_eq_true rfl) rfl dL_at_4 (fun H1 locs1 ce1 q1 hAt1 hS1 hk1 hz1 hc1 hv1 hf1 => ?_)
  have hW1 := hLi9.2.1.kept (hk1 w9 hLi9.2.1.lt (fun z => z.elim hLi9.2.2.1.1 hLi9.2.2.1.2))
  refine zl_catch2 C9 (ht9.trans rfl) (by decide) cl_L_19 hLi9.2.2.2.2.2.2.1 (by decide +kernel) (by decide) cl_L_24 hLi9.2.2.2.2.2.1 hc1 hv1 hf1 ?_
  refine lv_astore C9.1 C9.2.1 (x := q1) dL_at_25 hl9 (by decide) rfl (fun ls2 hl2 => ?_)
  refine z_iconst C9 dL_at_27 ?_
  exact zl_ret C9 hAt1 hW1 hS1 hr9 hk9 (Nat.le_of_ble_eq_true rfl) (Nat.le_of_ble_eq_true rfl) dL_at_28 rfl
set_option maxHeartbeats 4000000 in
set_option maxRecDepth 100000 in
theorem c_L_order_badc (l : Launch) (hlq : l.stackTraces = false) (D : va_G) (cJ : ClassId) (o a : Nat) (c : Nat → Nat) (ac : Int32) (re : Int32) (kn : Int32) (f : Int) (z : Int) (r9f : -2147483648 ≤ f ∧ f ≤ 2147483647) (r9z : -2147483648 ≤ z ∧ z ≤ 2147483647) (hbad : ¬ ((0 ≤ f ∧ f ≤ 5) ∧ (0 ≤ z ∧ z ≤ 5))) (w9 : Nat) (n9 : Int64) (s9 : Value) : zL l yL_order 9 174 1 6 D cJ o a w9 [.ref o, .int (iZ (f)), .int (iZ (z)), .ref w9] c [.int (ac), .int (re), .int (kn)] n9 s9 1 c [.int (ac), .int (re), .int (kn)] n9 s9 := by
  refine zL.intro (lo := 150) (nA := 4) zw_L_order (by decide) rfl rfl (by decide +kernel) rfl (Nat.le_of_ble_eq_true rfl) ?_
  intro p e s m below meth c0 ls C9 hr9 hk9 ht9 hLi9 hS9 hl9
  have hl9 : lv_has ls 5 [(0, .ref o), (1, .int (iZ (f))), (2, .int (iZ (z))), (3, .ref w9)] := hl9
  refine lv_aload_n C9.1 C9.2.1 dL_order_0 rfl (lv_at hl9 3 rfl) ?_
  refine lv_aload_n C9.1 C9.2.1 dL_order_1 rfl (lv_at hl9 0 rfl) ?_
  refine lv_iload_n C9.1 C9.2.1 dL_order_2 rfl (lv_at hl9 1 rfl) ?_
  refine lv_iload_n C9.1 C9.2.1 dL_order_3 rfl (lv_at hl9 2 rfl) ?_
  refine zg_callX (as := [.int (iZ (f)), .int (iZ (z))]) C9 hLi9.1 (hLi9.2.2.2.1.narrow fun q h => Or.inr h) hS9 (fun q h => Or.inr h) (c_X3_order_badc l hlq D cJ o a c ac re kn f z r9f r9z hbad) ml_L_125 rfl (by decide) (by decide) hl9 (Nat.le_of_ble_eq_true rfl) rfl dL_order_4 (fun H1 locs1 ce1 q1 hAt1 hS1 hk1 hz1 hc1 hv1 hf1 => ?_)
  have hW1 := hLi9.2.1.kept (hk1 w9 hLi9.2.1.lt (fun z => z.elim hLi9.2.2.1.1 hLi9.2.2.1.2))
  refine zl_catch1 C9 (ht9.trans rfl) (by decide +kernel) (by decide) cl_L_19 hLi9.2.2.2.2.1 hc1 hv1 hf1 ?_
  refine lv_astore C9.1 C9.2.1 (x := q1) dL_order_14 hl9 (by decide) rfl (fun ls2 hl2 => ?_)
  refine z_iconst C9 dL_order_16 ?_
  exact zl_ret C9 hAt1 hW1 hS1 hr9 hk9 (Nat.le_of_ble_eq_true rfl) (Nat.le_of_ble_eq_true rfl) dL_order_17 rfl
set_option maxHeartbeats 4000000 in
set_option maxRecDepth 100000 in
theorem c_L_isSame_badc (l : Launch) (hlq : l.stackTraces = false) (D : va_G) (cJ : ClassId) (o a : Nat) (c : Nat → Nat) (ac : Int32) (re : Int32) (kn : Int32) (f : Int) (z : Int) (r9f : -2147483648 ≤ f ∧ f ≤ 2147483647) (r9z : -2147483648 ≤ z ∧ z ≤ 2147483647) (hbad : ¬ ((0 ≤ f ∧ f ≤ 5) ∧ (0 ≤ z ∧ z ≤ 5))) (w9 : Nat) (n9 : Int64) (s9 : Value) : zL l yL_isSame 9 170 1 6 D cJ o a w9 [.ref o, .int (iZ (f)), .int (iZ (z)), .ref w9] c [.int (ac), .int (re), .int (kn)] n9 s9 1 c [.int (ac), .int (re), .int (kn)] n9 s9 := by
  refine zL.intro (lo := 146) (nA := 4) zw_L_isSame (by decide) rfl rfl (by decide +kernel) rfl (Nat.le_of_ble_eq_true rfl) ?_
  intro p e s m below meth c0 ls C9 hr9 hk9 ht9 hLi9 hS9 hl9
  have hl9 : lv_has ls 5 [(0, .ref o), (1, .int (iZ (f))), (2, .int (iZ (z))), (3, .ref w9)] := hl9
  refine lv_aload_n C9.1 C9.2.1 dL_isSame_0 rfl (lv_at hl9 3 rfl) ?_
  refine lv_aload_n C9.1 C9.2.1 dL_isSame_1 rfl (lv_at hl9 0 rfl) ?_
  refine lv_iload_n C9.1 C9.2.1 dL_isSame_2 rfl (lv_at hl9 1 rfl) ?_
  refine lv_iload_n C9.1 C9.2.1 dL_isSame_3 rfl (lv_at hl9 2 rfl) ?_
  refine zg_callX (as := [.int (iZ (f)), .int (iZ (z))]) C9 hLi9.1 (hLi9.2.2.2.1.narrow fun q h => Or.inr h) hS9 (fun q h => Or.inr h) (c_X3_isSame_badc l hlq D cJ o a c ac re kn f z r9f r9z hbad) ml_L_128 rfl (by decide) (by decide) hl9 (Nat.le_of_ble_eq_true rfl) rfl dL_isSame_4 (fun H1 locs1 ce1 q1 hAt1 hS1 hk1 hz1 hc1 hv1 hf1 => ?_)
  have hW1 := hLi9.2.1.kept (hk1 w9 hLi9.2.1.lt (fun z => z.elim hLi9.2.2.1.1 hLi9.2.2.1.2))
  refine zl_catch1 C9 (ht9.trans rfl) (by decide +kernel) (by decide) cl_L_19 hLi9.2.2.2.2.1 hc1 hv1 hf1 ?_
  refine lv_astore C9.1 C9.2.1 (x := q1) dL_isSame_21 hl9 (by decide) rfl (fun ls2 hl2 => ?_)
  refine z_iconst C9 dL_isSame_23 ?_
  exact zl_ret C9 hAt1 hW1 hS1 hr9 hk9 (Nat.le_of_ble_eq_true rfl) (Nat.le_of_ble_eq_true rfl) dL_isSame_24 rfl
set_option maxHeartbeats 4000000 in
set_option maxRecDepth 100000 in
theorem c_L_value_badc (l : Launch) (hlq : l.stackTraces = false) (D : va_G) (cJ : ClassId) (o a : Nat) (c : Nat → Nat) (ac : Int32) (re : Int32) (kn : Int32) (z : Int) (b : Bool) (r9z : -2147483648 ≤ z ∧ z ≤ 2147483647) (hbad : ¬ ((0 ≤ z ∧ z ≤ 5))) (w9 : Nat) (n9 : Int64) (s9 : Value) : zL l yL_value 9 172 1 6 D cJ o a w9 [.ref o, .int (iZ (z)), .int (iZ (zB (b))), .ref w9] c [.int (ac), .int (re), .int (kn)] n9 s9 1 c [.int (ac), .int (re), .int (kn)] n9 s9 := by
  refine zL.intro (lo := 148) (nA := 4) zw_L_value (by decide) rfl rfl (by decide +kernel) rfl (Nat.le_of_ble_eq_true rfl) ?_
  intro p e s m below meth c0 ls C9 hr9 hk9 ht9 hLi9 hS9 hl9
  have hl9 : lv_has ls 5 [(0, .ref o), (1, .int (iZ (z))), (2, .int (iZ (zB (b)))), (3, .ref w9)] := hl9
  refine lv_aload_n C9.1 C9.2.1 dL_value_0 rfl (lv_at hl9 3 rfl) ?_
  refine lv_aload_n C9.1 C9.2.1 dL_value_1 rfl (lv_at hl9 0 rfl) ?_
  refine lv_iload_n C9.1 C9.2.1 dL_value_2 rfl (lv_at hl9 1 rfl) ?_
  refine lv_iload_n C9.1 C9.2.1 dL_value_3 rfl (lv_at hl9 2 rfl) ?_
  refine zg_callX (as := [.int (iZ (z)), .int (iZ (zB (b)))]) C9 hLi9.1 (hLi9.2.2.2.1.narrow fun q h => Or.inr h) hS9 (fun q h => Or.inr h) (c_X3_value_badc l hlq D cJ o a c ac re kn z b r9z hbad) ml_L_131 rfl (by decide) (by decide) hl9 (Nat.le_of_ble_eq_true rfl) rfl dL_value_4 (fun H1 locs1 ce1 q1 hAt1 hS1 hk1 hz1 hc1 hv1 hf1 => ?_)
  have hW1 := hLi9.2.1.kept (hk1 w9 hLi9.2.1.lt (fun z => z.elim hLi9.2.2.1.1 hLi9.2.2.1.2))
  refine zl_catch1 C9 (ht9.trans rfl) (by decide +kernel) (by decide) cl_L_19 hLi9.2.2.2.2.1 hc1 hv1 hf1 ?_
  refine lv_astore C9.1 C9.2.1 (x := q1) dL_value_14 hl9 (by decide) rfl (fun ls2 hl2 => ?_)
  refine z_iconst C9 dL_value_16 ?_
  exact zl_ret C9 hAt1 hW1 hS1 hr9 hk9 (Nat.le_of_ble_eq_true rfl) (Nat.le_of_ble_eq_true rfl) dL_value_17 rfl
set_option maxHeartbeats 4000000 in
set_option maxRecDepth 100000 in
theorem c_L_divides_badc (l : Launch) (hlq : l.stackTraces = false) (D : va_G) (cJ : ClassId) (o a : Nat) (c : Nat → Nat) (ac : Int32) (re : Int32) (kn : Int32) (f : Int) (z : Int) (r9f : -2147483648 ≤ f ∧ f ≤ 2147483647) (r9z : -2147483648 ≤ z ∧ z ≤ 2147483647) (hbad : ¬ ((0 ≤ f ∧ f ≤ 5) ∧ (0 ≤ z ∧ z ≤ 5))) (w9 : Nat) (n9 : Int64) (s9 : Value) : zL l yL_divides 9 170 1 6 D cJ o a w9 [.ref o, .int (iZ (f)), .int (iZ (z)), .ref w9] c [.int (ac), .int (re), .int (kn)] n9 s9 1 c [.int (ac), .int (re), .int (kn)] n9 s9 := by
  refine zL.intro (lo := 146) (nA := 4) zw_L_divides (by decide) rfl rfl (by decide +kernel) rfl (Nat.le_of_ble_eq_true rfl) ?_
  intro p e s m below meth c0 ls C9 hr9 hk9 ht9 hLi9 hS9 hl9
  have hl9 : lv_has ls 5 [(0, .ref o), (1, .int (iZ (f))), (2, .int (iZ (z))), (3, .ref w9)] := hl9
  refine lv_aload_n C9.1 C9.2.1 dL_divides_0 rfl (lv_at hl9 3 rfl) ?_
  refine lv_aload_n C9.1 C9.2.1 dL_divides_1 rfl (lv_at hl9 0 rfl) ?_
  refine lv_iload_n C9.1 C9.2.1 dL_divides_2 rfl (lv_at hl9 1 rfl) ?_
  refine lv_iload_n C9.1 C9.2.1 dL_divides_3 rfl (lv_at hl9 2 rfl) ?_
  refine zg_callX (as := [.int (iZ (f)), .int (iZ (z))]) C9 hLi9.1 (hLi9.2.2.2.1.narrow fun q h => Or.inr h) hS9 (fun q h => Or.inr h) (c_X3_divides_badc l hlq D cJ o a c ac re kn f z r9f r9z hbad) ml_L_135 rfl (by decide) (by decide) hl9 (Nat.le_of_ble_eq_true rfl) rfl dL_divides_4 (fun H1 locs1 ce1 q1 hAt1 hS1 hk1 hz1 hc1 hv1 hf1 => ?_)
  have hW1 := hLi9.2.1.kept (hk1 w9 hLi9.2.1.lt (fun z => z.elim hLi9.2.2.1.1 hLi9.2.2.1.2))
  refine zl_catch1 C9 (ht9.trans rfl) (by decide +kernel) (by decide) cl_L_19 hLi9.2.2.2.2.1 hc1 hv1 hf1 ?_
  refine lv_astore C9.1 C9.2.1 (x := q1) dL_divides_21 hl9 (by decide) rfl (fun ls2 hl2 => ?_)
  refine z_iconst C9 dL_divides_23 ?_
  exact zl_ret C9 hAt1 hW1 hS1 hr9 hk9 (Nat.le_of_ble_eq_true rfl) (Nat.le_of_ble_eq_true rfl) dL_divides_24 rfl
set_option maxHeartbeats 4000000 in
set_option maxRecDepth 100000 in
theorem c_L_isFree_badc (l : Launch) (hlq : l.stackTraces = false) (D : va_G) (cJ : ClassId) (o a : Nat) (c : Nat → Nat) (ac : Int32) (re : Int32) (kn : Int32) (z : Int) (r9z : -2147483648 ≤ z ∧ z ≤ 2147483647) (hbad : ¬ ((0 ≤ z ∧ z ≤ 5))) (w9 : Nat) (n9 : Int64) (s9 : Value) : zL l yL_isFree 9 170 1 6 D cJ o a w9 [.ref o, .int (iZ (z)), .ref w9] c [.int (ac), .int (re), .int (kn)] n9 s9 1 c [.int (ac), .int (re), .int (kn)] n9 s9 := by
  refine zL.intro (lo := 147) (nA := 3) zw_L_isFree (by decide) rfl rfl (by decide +kernel) rfl (Nat.le_of_ble_eq_true rfl) ?_
  intro p e s m below meth c0 ls C9 hr9 hk9 ht9 hLi9 hS9 hl9
  have hl9 : lv_has ls 4 [(0, .ref o), (1, .int (iZ (z))), (2, .ref w9)] := hl9
  refine lv_aload_n C9.1 C9.2.1 dL_isFree_0 rfl (lv_at hl9 2 rfl) ?_
  refine lv_aload_n C9.1 C9.2.1 dL_isFree_1 rfl (lv_at hl9 0 rfl) ?_
  refine lv_iload_n C9.1 C9.2.1 dL_isFree_2 rfl (lv_at hl9 1 rfl) ?_
  refine zg_callX (as := [.int (iZ (z))]) C9 hLi9.1 (hLi9.2.2.2.1.narrow fun q h => Or.inr h) hS9 (fun q h => Or.inr h) (c_X3_isFree_badc l hlq D cJ o a c ac re kn z r9z hbad) ml_L_138 rfl (by decide) (by decide) hl9 (Nat.le_of_ble_eq_true rfl) rfl dL_isFree_3 (fun H1 locs1 ce1 q1 hAt1 hS1 hk1 hz1 hc1 hv1 hf1 => ?_)
  have hW1 := hLi9.2.1.kept (hk1 w9 hLi9.2.1.lt (fun z => z.elim hLi9.2.2.1.1 hLi9.2.2.1.2))
  refine zl_catch1 C9 (ht9.trans rfl) (by decide +kernel) (by decide) cl_L_19 hLi9.2.2.2.2.1 hc1 hv1 hf1 ?_
  refine lv_astore_n C9.1 C9.2.1 (x := q1) dL_isFree_20 rfl hl9 (by decide) rfl (fun ls2 hl2 => ?_)
  refine z_iconst C9 dL_isFree_21 ?_
  exact zl_ret C9 hAt1 hW1 hS1 hr9 hk9 (Nat.le_of_ble_eq_true rfl) (Nat.le_of_ble_eq_true rfl) dL_isFree_22 rfl
set_option maxHeartbeats 4000000 in
set_option maxRecDepth 100000 in
theorem c_L_irreducible_badc (l : Launch) (hlq : l.stackTraces = false) (D : va_G) (cJ : ClassId) (o a : Nat) (c : Nat → Nat) (ac : Int32) (re : Int32) (kn : Int32) (z : Int) (r9z : -2147483648 ≤ z ∧ z ≤ 2147483647) (hbad : ¬ ((0 ≤ z ∧ z ≤ 5))) (w9 : Nat) (n9 : Int64) (s9 : Value) : zL l yL_irreducible 9 170 1 6 D cJ o a w9 [.ref o, .int (iZ (z)), .ref w9] c [.int (ac), .int (re), .int (kn)] n9 s9 1 c [.int (ac), .int (re), .int (kn)] n9 s9 := by
  refine zL.intro (lo := 147) (nA := 3) zw_L_irreducible (by decide) rfl rfl (by decide +kernel) rfl (Nat.le_of_ble_eq_true rfl) ?_
  intro p e s m below meth c0 ls C9 hr9 hk9 ht9 hLi9 hS9 hl9
  have hl9 : lv_has ls 4 [(0, .ref o), (1, .int (iZ (z))), (2, .ref w9)] := hl9
  refine lv_aload_n C9.1 C9.2.1 dL_irreducible_0 rfl (lv_at hl9 2 rfl) ?_
  refine lv_aload_n C9.1 C9.2.1 dL_irreducible_1 rfl (lv_at hl9 0 rfl) ?_
  refine lv_iload_n C9.1 C9.2.1 dL_irreducible_2 rfl (lv_at hl9 1 rfl) ?_
  refine zg_callX (as := [.int (iZ (z))]) C9 hLi9.1 (hLi9.2.2.2.1.narrow fun q h => Or.inr h) hS9 (fun q h => Or.inr h) (c_X3_irreducible_badc l hlq D cJ o a c ac re kn z r9z hbad) ml_L_142 rfl (by decide) (by decide) hl9 (Nat.le_of_ble_eq_true rfl) rfl dL_irreducible_3 (fun H1 locs1 ce1 q1 hAt1 hS1 hk1 hz1 hc1 hv1 hf1 => ?_)
  have hW1 := hLi9.2.1.kept (hk1 w9 hLi9.2.1.lt (fun z => z.elim hLi9.2.2.1.1 hLi9.2.2.1.2))
  refine zl_catch1 C9 (ht9.trans rfl) (by decide +kernel) (by decide) cl_L_19 hLi9.2.2.2.2.1 hc1 hv1 hf1 ?_
  refine lv_astore_n C9.1 C9.2.1 (x := q1) dL_irreducible_13 rfl hl9 (by decide) rfl (fun ls2 hl2 => ?_)
  refine z_iconst C9 dL_irreducible_14 ?_
  exact zl_ret C9 hAt1 hW1 hS1 hr9 hk9 (Nat.le_of_ble_eq_true rfl) (Nat.le_of_ble_eq_true rfl) dL_irreducible_15 rfl
set_option maxHeartbeats 4000000 in
set_option maxRecDepth 100000 in
theorem c_L_rank_badc (l : Launch) (hlq : l.stackTraces = false) (D : va_G) (cJ : ClassId) (o a : Nat) (c : Nat → Nat) (ac : Int32) (re : Int32) (kn : Int32) (z : Int) (r9z : -2147483648 ≤ z ∧ z ≤ 2147483647) (hbad : ¬ ((0 ≤ z ∧ z ≤ 5))) (w9 : Nat) (n9 : Int64) (s9 : Value) : zL l yL_rank 9 170 1 6 D cJ o a w9 [.ref o, .int (iZ (z)), .ref w9] c [.int (ac), .int (re), .int (kn)] n9 s9 1 c [.int (ac), .int (re), .int (kn)] n9 s9 := by
  refine zL.intro (lo := 147) (nA := 3) zw_L_rank (by decide) rfl rfl (by decide +kernel) rfl (Nat.le_of_ble_eq_true rfl) ?_
  intro p e s m below meth c0 ls C9 hr9 hk9 ht9 hLi9 hS9 hl9
  have hl9 : lv_has ls 4 [(0, .ref o), (1, .int (iZ (z))), (2, .ref w9)] := hl9
  refine lv_aload_n C9.1 C9.2.1 dL_rank_0 rfl (lv_at hl9 2 rfl) ?_
  refine lv_aload_n C9.1 C9.2.1 dL_rank_1 rfl (lv_at hl9 0 rfl) ?_
  refine lv_iload_n C9.1 C9.2.1 dL_rank_2 rfl (lv_at hl9 1 rfl) ?_
  refine zg_callX (as := [.int (iZ (z))]) C9 hLi9.1 (hLi9.2.2.2.1.narrow fun q h => Or.inr h) hS9 (fun q h => Or.inr h) (c_X3_rank_badc l hlq D cJ o a c ac re kn z r9z hbad) ml_L_145 rfl (by decide) (by decide) hl9 (Nat.le_of_ble_eq_true rfl) rfl dL_rank_3 (fun H1 locs1 ce1 q1 hAt1 hS1 hk1 hz1 hc1 hv1 hf1 => ?_)
  have hW1 := hLi9.2.1.kept (hk1 w9 hLi9.2.1.lt (fun z => z.elim hLi9.2.2.1.1 hLi9.2.2.1.2))
  refine zl_catch1 C9 (ht9.trans rfl) (by decide +kernel) (by decide) cl_L_19 hLi9.2.2.2.2.1 hc1 hv1 hf1 ?_
  refine lv_astore_n C9.1 C9.2.1 (x := q1) dL_rank_13 rfl hl9 (by decide) rfl (fun ls2 hl2 => ?_)
  refine z_iconst C9 dL_rank_14 ?_
  exact zl_ret C9 hAt1 hW1 hS1 hr9 hk9 (Nat.le_of_ble_eq_true rfl) (Nat.le_of_ble_eq_true rfl) dL_rank_15 rfl
set_option maxHeartbeats 4000000 in
set_option maxRecDepth 100000 in
theorem c_L_period_badc (l : Launch) (hlq : l.stackTraces = false) (D : va_G) (cJ : ClassId) (o a : Nat) (c : Nat → Nat) (ac : Int32) (re : Int32) (kn : Int32) (z : Int) (r9z : -2147483648 ≤ z ∧ z ≤ 2147483647) (hbad : ¬ ((0 ≤ z ∧ z ≤ 5))) (w9 : Nat) (n9 : Int64) (s9 : Value) : zL l yL_period 9 170 1 6 D cJ o a w9 [.ref o, .int (iZ (z)), .ref w9] c [.int (ac), .int (re), .int (kn)] n9 s9 1 c [.int (ac), .int (re), .int (kn)] n9 s9 := by
  refine zL.intro (lo := 147) (nA := 3) zw_L_period (by decide) rfl rfl (by decide +kernel) rfl (Nat.le_of_ble_eq_true rfl) ?_
  intro p e s m below meth c0 ls C9 hr9 hk9 ht9 hLi9 hS9 hl9
  have hl9 : lv_has ls 4 [(0, .ref o), (1, .int (iZ (z))), (2, .ref w9)] := hl9
  refine lv_aload_n C9.1 C9.2.1 dL_period_0 rfl (lv_at hl9 2 rfl) ?_
  refine lv_aload_n C9.1 C9.2.1 dL_period_1 rfl (lv_at hl9 0 rfl) ?_
  refine lv_iload_n C9.1 C9.2.1 dL_period_2 rfl (lv_at hl9 1 rfl) ?_
  refine zg_callX (as := [.int (iZ (z))]) C9 hLi9.1 (hLi9.2.2.2.1.narrow fun q h => Or.inr h) hS9 (fun q h => Or.inr h) (c_X3_period_badc l hlq D cJ o a c ac re kn z r9z hbad) ml_L_151 rfl (by decide) (by decide) hl9 (Nat.le_of_ble_eq_true rfl) rfl dL_period_3 (fun H1 locs1 ce1 q1 hAt1 hS1 hk1 hz1 hc1 hv1 hf1 => ?_)
  have hW1 := hLi9.2.1.kept (hk1 w9 hLi9.2.1.lt (fun z => z.elim hLi9.2.2.1.1 hLi9.2.2.1.2))
  refine zl_catch1 C9 (ht9.trans rfl) (by decide +kernel) (by decide) cl_L_19 hLi9.2.2.2.2.1 hc1 hv1 hf1 ?_
  refine lv_astore_n C9.1 C9.2.1 (x := q1) dL_period_13 rfl hl9 (by decide) rfl (fun ls2 hl2 => ?_)
  refine z_iconst C9 dL_period_14 ?_
  exact zl_ret C9 hAt1 hW1 hS1 hr9 hk9 (Nat.le_of_ble_eq_true rfl) (Nat.le_of_ble_eq_true rfl) dL_period_15 rfl
set_option maxHeartbeats 4000000 in
set_option maxRecDepth 100000 in
theorem c_L_find_badc (l : Launch) (hlq : l.stackTraces = false) (D : va_G) (cJ : ClassId) (o a : Nat) (c : Nat → Nat) (ac : Int32) (re : Int32) (kn : Int32) (z : Int) (b : Bool) (r9z : -2147483648 ≤ z ∧ z ≤ 2147483647) (hbad : ¬ ((0 ≤ z ∧ z ≤ 5))) (w9 : Nat) (n9 : Int64) (s9 : Value) : zL l yL_find 9 174 1 6 D cJ o a w9 [.ref o, .int (iZ (z)), .int (iZ (zB (b))), .ref w9] c [.int (ac), .int (re), .int (kn)] n9 s9 1 c [.int (ac), .int (re), .int (kn)] n9 s9 := by
  refine zL.intro (lo := 150) (nA := 4) zw_L_find (by decide) rfl rfl (by decide +kernel) rfl (Nat.le_of_ble_eq_true rfl) ?_
  intro p e s m below meth c0 ls C9 hr9 hk9 ht9 hLi9 hS9 hl9
  have hl9 : lv_has ls 5 [(0, .ref o), (1, .int (iZ (z))), (2, .int (iZ (zB (b)))), (3, .ref w9)] := hl9
  refine lv_aload_n C9.1 C9.2.1 dL_find_0 rfl (lv_at hl9 3 rfl) ?_
  refine lv_aload_n C9.1 C9.2.1 dL_find_1 rfl (lv_at hl9 0 rfl) ?_
  refine lv_iload_n C9.1 C9.2.1 dL_find_2 rfl (lv_at hl9 1 rfl) ?_
  refine lv_iload_n C9.1 C9.2.1 dL_find_3 rfl (lv_at hl9 2 rfl) ?_
  refine zg_callX (as := [.int (iZ (z)), .int (iZ (zB (b)))]) C9 hLi9.1 (hLi9.2.2.2.1.narrow fun q h => Or.inr h) hS9 (fun q h => Or.inr h) (c_X3_find_badc l hlq D cJ o a c ac re kn z b r9z hbad) ml_L_160 rfl (by decide) (by decide) hl9 (Nat.le_of_ble_eq_true rfl) rfl dL_find_4 (fun H1 locs1 ce1 q1 hAt1 hS1 hk1 hz1 hc1 hv1 hf1 => ?_)
  have hW1 := hLi9.2.1.kept (hk1 w9 hLi9.2.1.lt (fun z => z.elim hLi9.2.2.1.1 hLi9.2.2.1.2))
  refine zl_catch1 C9 (ht9.trans rfl) (by decide +kernel) (by decide) cl_L_19 hLi9.2.2.2.2.1 hc1 hv1 hf1 ?_
  refine lv_astore C9.1 C9.2.1 (x := q1) dL_find_14 hl9 (by decide) rfl (fun ls2 hl2 => ?_)
  refine z_iconst C9 dL_find_16 ?_
  exact zl_ret C9 hAt1 hW1 hS1 hr9 hk9 (Nat.le_of_ble_eq_true rfl) (Nat.le_of_ble_eq_true rfl) dL_find_17 rfl
set_option maxHeartbeats 4000000 in
set_option maxRecDepth 100000 in
theorem c_L_text_badc (l : Launch) (hlq : l.stackTraces = false) (D : va_G) (cJ : ClassId) (o a : Nat) (c : Nat → Nat) (ac : Int32) (re : Int32) (kn : Int32) (z : Int) (r9z : -2147483648 ≤ z ∧ z ≤ 2147483647) (hbad : ¬ ((0 ≤ z ∧ z ≤ 5))) (w9 : Nat) (n9 : Int64) (s9 : Value) : zL l yL_text 9 168 1 6 D cJ o a w9 [.ref o, .int (iZ (z)), .ref w9] c [.int (ac), .int (re), .int (kn)] n9 s9 1 c [.int (ac), .int (re), .int (kn)] n9 s9 := by
  refine zL.intro (lo := 145) (nA := 3) zw_L_text (by decide) rfl rfl (by decide +kernel) rfl (Nat.le_of_ble_eq_true rfl) ?_
  intro p e s m below meth c0 ls C9 hr9 hk9 ht9 hLi9 hS9 hl9
  have hl9 : lv_has ls 4 [(0, .ref o), (1, .int (iZ (z))), (2, .ref w9)] := hl9
  refine lv_aload_n C9.1 C9.2.1 dL_text_0 rfl (lv_at hl9 2 rfl) ?_
  refine lv_aload_n C9.1 C9.2.1 dL_text_1 rfl (lv_at hl9 0 rfl) ?_
  refine lv_iload_n C9.1 C9.2.1 dL_text_2 rfl (lv_at hl9 1 rfl) ?_
  refine zg_callX (as := [.int (iZ (z))]) C9 hLi9.1 (hLi9.2.2.2.1.narrow fun q h => Or.inr h) hS9 (fun q h => Or.inr h) (c_X3_text_badc l hlq D cJ o a c ac re kn z r9z hbad) ml_L_113 rfl (by decide) (by decide) hl9 (Nat.le_of_ble_eq_true rfl) rfl dL_text_3 (fun H1 locs1 ce1 q1 hAt1 hS1 hk1 hz1 hc1 hv1 hf1 => ?_)
  have hW1 := hLi9.2.1.kept (hk1 w9 hLi9.2.1.lt (fun z => z.elim hLi9.2.2.1.1 hLi9.2.2.1.2))
  refine zl_catch1 C9 (ht9.trans rfl) (by decide +kernel) (by decide) cl_L_19 hLi9.2.2.2.2.1 hc1 hv1 hf1 ?_
  refine lv_astore_n C9.1 C9.2.1 (x := q1) dL_text_12 rfl hl9 (by decide) rfl (fun ls2 hl2 => ?_)
  refine z_iconst C9 dL_text_13 ?_
  exact zl_ret C9 hAt1 hW1 hS1 hr9 hk9 (Nat.le_of_ble_eq_true rfl) (Nat.le_of_ble_eq_true rfl) dL_text_14 rfl
set_option maxHeartbeats 4000000 in
set_option maxRecDepth 100000 in
theorem c_L_code_badc (l : Launch) (hlq : l.stackTraces = false) (D : va_G) (cJ : ClassId) (o a : Nat) (c : Nat → Nat) (ac : Int32) (re : Int32) (kn : Int32) (z : Int) (r : Int) (r9z : -2147483648 ≤ z ∧ z ≤ 2147483647) (r9r : -2147483648 ≤ r ∧ r ≤ 2147483647) (hbad : ¬ ((0 ≤ z ∧ z ≤ 5))) (w9 : Nat) (n9 : Int64) (s9 : Value) : zL l yL_code 9 172 1 6 D cJ o a w9 [.ref o, .int (iZ (z)), .int (iZ (r)), .ref w9] c [.int (ac), .int (re), .int (kn)] n9 s9 1 c [.int (ac), .int (re), .int (kn)] n9 s9 := by
  refine zL.intro (lo := 148) (nA := 4) zw_L_code (by decide) rfl rfl (by decide +kernel) rfl (Nat.le_of_ble_eq_true rfl) ?_
  intro p e s m below meth c0 ls C9 hr9 hk9 ht9 hLi9 hS9 hl9
  have hl9 : lv_has ls 5 [(0, .ref o), (1, .int (iZ (z))), (2, .int (iZ (r))), (3, .ref w9)] := hl9
  refine lv_aload_n C9.1 C9.2.1 dL_code_0 rfl (lv_at hl9 3 rfl) ?_
  refine lv_aload_n C9.1 C9.2.1 dL_code_1 rfl (lv_at hl9 0 rfl) ?_
  refine lv_iload_n C9.1 C9.2.1 dL_code_2 rfl (lv_at hl9 1 rfl) ?_
  refine lv_iload_n C9.1 C9.2.1 dL_code_3 rfl (lv_at hl9 2 rfl) ?_
  refine zg_callX (as := [.int (iZ (z)), .int (iZ (r))]) C9 hLi9.1 (hLi9.2.2.2.1.narrow fun q h => Or.inr h) hS9 (fun q h => Or.inr h) (c_X3_code_badc l hlq D cJ o a c ac re kn z r r9z r9r hbad) ml_L_121 rfl (by decide) (by decide) hl9 (Nat.le_of_ble_eq_true rfl) rfl dL_code_4 (fun H1 locs1 ce1 q1 hAt1 hS1 hk1 hz1 hc1 hv1 hf1 => ?_)
  have hW1 := hLi9.2.1.kept (hk1 w9 hLi9.2.1.lt (fun z => z.elim hLi9.2.2.1.1 hLi9.2.2.1.2))
  refine zl_catch1 C9 (ht9.trans rfl) (by decide +kernel) (by decide) cl_L_19 hLi9.2.2.2.2.1 hc1 hv1 hf1 ?_
  refine lv_astore C9.1 C9.2.1 (x := q1) dL_code_13 hl9 (by decide) rfl (fun ls2 hl2 => ?_)
  refine z_iconst C9 dL_code_15 ?_
  exact zl_ret C9 hAt1 hW1 hS1 hr9 hk9 (Nat.le_of_ble_eq_true rfl) (Nat.le_of_ble_eq_true rfl) dL_code_16 rfl
set_option maxHeartbeats 4000000 in
set_option maxRecDepth 100000 in
theorem c_L_code_badr (l : Launch) (hlq : l.stackTraces = false) (D : va_G) (cJ : ClassId) (o a : Nat) (c : Nat → Nat) (ac : Int32) (re : Int32) (kn : Int32) (z : Int) (r : Int) (r9z : -2147483648 ≤ z ∧ z ≤ 2147483647) (r9r : -2147483648 ≤ r ∧ r ≤ 2147483647) (hz : 0 ≤ z ∧ z ≤ 5) (hbad : ¬ ((2 ≤ r ∧ r ≤ 36))) (w9 : Nat) (n9 : Int64) (s9 : Value) : zL l yL_code 8 152 1 6 D cJ o a w9 [.ref o, .int (iZ (z)), .int (iZ (r)), .ref w9] c [.int (ac), .int (re), .int (kn)] n9 s9 2 c [.int (ac), .int (re), .int (kn)] n9 s9 := by
  refine zL.intro (lo := 128) (nA := 4) zw_L_code (by decide) rfl rfl (by decide +kernel) rfl (Nat.le_of_ble_eq_true rfl) ?_
  intro p e s m below meth c0 ls C9 hr9 hk9 ht9 hLi9 hS9 hl9
  have hl9 : lv_has ls 5 [(0, .ref o), (1, .int (iZ (z))), (2, .int (iZ (r))), (3, .ref w9)] := hl9
  refine lv_aload_n C9.1 C9.2.1 dL_code_0 rfl (lv_at hl9 3 rfl) ?_
  refine lv_aload_n C9.1 C9.2.1 dL_code_1 rfl (lv_at hl9 0 rfl) ?_
  refine lv_iload_n C9.1 C9.2.1 dL_code_2 rfl (lv_at hl9 1 rfl) ?_
  refine lv_iload_n C9.1 C9.2.1 dL_code_3 rfl (lv_at hl9 2 rfl) ?_
  refine zg_callX (as := [.int (iZ (z)), .int (iZ (r))]) C9 hLi9.1 (hLi9.2.2.2.1.narrow fun q h => Or.inr h) hS9 (fun q h => Or.inr h) (c_X3_code_badr l hlq D cJ o a c ac re kn z r r9z r9r hz hbad) ml_L_121 rfl (by decide) (by decide) hl9 (Nat.le_of_ble_eq_true rfl) rfl dL_code_4 (fun H1 locs1 ce1 q1 hAt1 hS1 hk1 hz1 hc1 hv1 hf1 => ?_)
  have hW1 := hLi9.2.1.kept (hk1 w9 hLi9.2.1.lt (fun z => z.elim hLi9.2.2.1.1 hLi9.2.2.1.2))
  refine zl_catch2 C9 (ht9.trans rfl) (by decide) cl_L_19 hLi9.2.2.2.2.2.2.1 (by decide +kernel) (by decide) cl_L_24 hLi9.2.2.2.2.2.1 hc1 hv1 hf1 ?_
  refine lv_astore C9.1 C9.2.1 (x := q1) dL_code_17 hl9 (by decide) rfl (fun ls2 hl2 => ?_)
  refine z_iconst C9 dL_code_19 ?_
  exact zl_ret C9 hAt1 hW1 hS1 hr9 hk9 (Nat.le_of_ble_eq_true rfl) (Nat.le_of_ble_eq_true rfl) dL_code_20 rfl
set_option maxHeartbeats 4000000 in
set_option maxRecDepth 100000 in
theorem c_L_factors_badc (l : Launch) (hlq : l.stackTraces = false) (D : va_G) (cJ : ClassId) (o a : Nat) (c : Nat → Nat) (ac : Int32) (re : Int32) (kn : Int32) (z : Int) (r9z : -2147483648 ≤ z ∧ z ≤ 2147483647) (hbad : ¬ ((0 ≤ z ∧ z ≤ 5))) (w9 : Nat) (n9 : Int64) (s9 : Value) : zL l yL_factors 9 170 1 6 D cJ o a w9 [.ref o, .int (iZ (z)), .ref w9] c [.int (ac), .int (re), .int (kn)] n9 s9 1 c [.int (ac), .int (re), .int (kn)] n9 s9 := by
  refine zL.intro (lo := 147) (nA := 3) zw_L_factors (by decide) rfl rfl (by decide +kernel) rfl (Nat.le_of_ble_eq_true rfl) ?_
  intro p e s m below meth c0 ls C9 hr9 hk9 ht9 hLi9 hS9 hl9
  have hl9 : lv_has ls 4 [(0, .ref o), (1, .int (iZ (z))), (2, .ref w9)] := hl9
  refine lv_aload_n C9.1 C9.2.1 dL_factors_0 rfl (lv_at hl9 2 rfl) ?_
  refine lv_aload_n C9.1 C9.2.1 dL_factors_1 rfl (lv_at hl9 0 rfl) ?_
  refine lv_iload_n C9.1 C9.2.1 dL_factors_2 rfl (lv_at hl9 1 rfl) ?_
  refine zg_callX (as := [.int (iZ (z))]) C9 hLi9.1 (hLi9.2.2.2.1.narrow fun q h => Or.inr h) hS9 (fun q h => Or.inr h) (c_X3_factors_badc l hlq D cJ o a c ac re kn z r9z hbad) ml_L_148 rfl (by decide) (by decide) hl9 (Nat.le_of_ble_eq_true rfl) rfl dL_factors_3 (fun H1 locs1 ce1 q1 hAt1 hS1 hk1 hz1 hc1 hv1 hf1 => ?_)
  have hW1 := hLi9.2.1.kept (hk1 w9 hLi9.2.1.lt (fun z => z.elim hLi9.2.2.1.1 hLi9.2.2.1.2))
  refine zl_catch1 C9 (ht9.trans rfl) (by decide +kernel) (by decide) cl_L_19 hLi9.2.2.2.2.1 hc1 hv1 hf1 ?_
  refine lv_astore_n C9.1 C9.2.1 (x := q1) dL_factors_12 rfl hl9 (by decide) rfl (fun ls2 hl2 => ?_)
  refine z_iconst C9 dL_factors_13 ?_
  exact zl_ret C9 hAt1 hW1 hS1 hr9 hk9 (Nat.le_of_ble_eq_true rfl) (Nat.le_of_ble_eq_true rfl) dL_factors_14 rfl
set_option maxHeartbeats 4000000 in
set_option maxRecDepth 100000 in
theorem c_L_many_badr (l : Launch) (hlq : l.stackTraces = false) (D : va_G) (cJ : ClassId) (o a : Nat) (c : Nat → Nat) (ac : Int32) (re : Int32) (kn : Int32) (z : Int) (r9z : -2147483648 ≤ z ∧ z ≤ 2147483647) (hbad : ¬ (1 ≤ z ∧ z ≤ 8)) (w9 : Nat) (n9 : Int64) (s9 : Value) : zL l yL_many 8 148 1 6 D cJ o a w9 [.ref o, .int (iZ (z)), .ref w9] c [.int (ac), .int (re), .int (kn)] n9 s9 1 c [.int (ac), .int (re), .int (kn)] n9 s9 := by
  refine zL.intro (lo := 125) (nA := 3) zw_L_many (by decide) rfl rfl (by decide +kernel) rfl (Nat.le_of_ble_eq_true rfl) ?_
  intro p e s m below meth c0 ls C9 hr9 hk9 ht9 hLi9 hS9 hl9
  have hl9 : lv_has ls 4 [(0, .ref o), (1, .int (iZ (z))), (2, .ref w9)] := hl9
  refine lv_aload_n C9.1 C9.2.1 dL_many_0 rfl (lv_at hl9 2 rfl) ?_
  refine lv_aload_n C9.1 C9.2.1 dL_many_1 rfl (lv_at hl9 0 rfl) ?_
  refine lv_iload_n C9.1 C9.2.1 dL_many_2 rfl (lv_at hl9 1 rfl) ?_
  refine zg_callX (as := [.int (iZ (z))]) C9 hLi9.1 (hLi9.2.2.2.1.narrow fun q h => Or.inr h) hS9 (fun q h => Or.inr h) (c_X3_many_badr l hlq D cJ o a c ac re kn z r9z hbad) ml_L_154 rfl (by decide) (by decide) hl9 (Nat.le_of_ble_eq_true rfl) rfl dL_many_3 (fun H1 locs1 ce1 q1 hAt1 hS1 hk1 hz1 hc1 hv1 hf1 => ?_)
  have hW1 := hLi9.2.1.kept (hk1 w9 hLi9.2.1.lt (fun z => z.elim hLi9.2.2.1.1 hLi9.2.2.1.2))
  refine zl_catch1 C9 (ht9.trans rfl) (by decide +kernel) (by decide) cl_L_24 hLi9.2.2.2.2.2.1 hc1 hv1 hf1 ?_
  refine lv_astore_n C9.1 C9.2.1 (x := q1) dL_many_13 rfl hl9 (by decide) rfl (fun ls2 hl2 => ?_)
  refine z_iconst C9 dL_many_14 ?_
  exact zl_ret C9 hAt1 hW1 hS1 hr9 hk9 (Nat.le_of_ble_eq_true rfl) (Nat.le_of_ble_eq_true rfl) dL_many_15 rfl
set_option maxHeartbeats 4000000 in
set_option maxRecDepth 100000 in
theorem c_L_house_badr (l : Launch) (hlq : l.stackTraces = false) (D : va_G) (cJ : ClassId) (o a : Nat) (c : Nat → Nat) (ac : Int32) (re : Int32) (kn : Int32) (z : Int) (r9z : -2147483648 ≤ z ∧ z ≤ 2147483647) (hbad : ¬ (0 ≤ z ∧ z ≤ 4)) (w9 : Nat) (n9 : Int64) (s9 : Value) : zL l yL_house 8 148 1 6 D cJ o a w9 [.ref o, .int (iZ (z)), .ref w9] c [.int (ac), .int (re), .int (kn)] n9 s9 1 c [.int (ac), .int (re), .int (kn)] n9 s9 := by
  refine zL.intro (lo := 125) (nA := 3) zw_L_house (by decide) rfl rfl (by decide +kernel) rfl (Nat.le_of_ble_eq_true rfl) ?_
  intro p e s m below meth c0 ls C9 hr9 hk9 ht9 hLi9 hS9 hl9
  have hl9 : lv_has ls 4 [(0, .ref o), (1, .int (iZ (z))), (2, .ref w9)] := hl9
  refine lv_aload_n C9.1 C9.2.1 dL_house_0 rfl (lv_at hl9 2 rfl) ?_
  refine lv_aload_n C9.1 C9.2.1 dL_house_1 rfl (lv_at hl9 0 rfl) ?_
  refine lv_iload_n C9.1 C9.2.1 dL_house_2 rfl (lv_at hl9 1 rfl) ?_
  refine zg_callX (as := [.int (iZ (z))]) C9 hLi9.1 (hLi9.2.2.2.1.narrow fun q h => Or.inr h) hS9 (fun q h => Or.inr h) (c_X3_house_badr l hlq D cJ o a c ac re kn z r9z hbad) ml_L_163 rfl (by decide) (by decide) hl9 (Nat.le_of_ble_eq_true rfl) rfl dL_house_3 (fun H1 locs1 ce1 q1 hAt1 hS1 hk1 hz1 hc1 hv1 hf1 => ?_)
  have hW1 := hLi9.2.1.kept (hk1 w9 hLi9.2.1.lt (fun z => z.elim hLi9.2.2.1.1 hLi9.2.2.1.2))
  refine zl_catch1 C9 (ht9.trans rfl) (by decide +kernel) (by decide) cl_L_24 hLi9.2.2.2.2.2.1 hc1 hv1 hf1 ?_
  refine lv_astore_n C9.1 C9.2.1 (x := q1) dL_house_13 rfl hl9 (by decide) rfl (fun ls2 hl2 => ?_)
  refine z_iconst C9 dL_house_14 ?_
  exact zl_ret C9 hAt1 hW1 hS1 hr9 hk9 (Nat.le_of_ble_eq_true rfl) (Nat.le_of_ble_eq_true rfl) dL_house_15 rfl
set_option maxHeartbeats 4000000 in
set_option maxRecDepth 100000 in
theorem c_L_formula_badr (l : Launch) (hlq : l.stackTraces = false) (D : va_G) (cJ : ClassId) (o a : Nat) (c : Nat → Nat) (ac : Int32) (re : Int32) (kn : Int32) (z : Int) (r9z : -2147483648 ≤ z ∧ z ≤ 2147483647) (hbad : ¬ (1 ≤ z ∧ z ≤ 8)) (w9 : Nat) (n9 : Int64) (s9 : Value) : zL l yL_formula 8 148 1 6 D cJ o a w9 [.ref o, .int (iZ (z)), .ref w9] c [.int (ac), .int (re), .int (kn)] n9 s9 1 c [.int (ac), .int (re), .int (kn)] n9 s9 := by
  refine zL.intro (lo := 125) (nA := 3) zw_L_formula (by decide) rfl rfl (by decide +kernel) rfl (Nat.le_of_ble_eq_true rfl) ?_
  intro p e s m below meth c0 ls C9 hr9 hk9 ht9 hLi9 hS9 hl9
  have hl9 : lv_has ls 4 [(0, .ref o), (1, .int (iZ (z))), (2, .ref w9)] := hl9
  refine lv_aload_n C9.1 C9.2.1 dL_formula_0 rfl (lv_at hl9 2 rfl) ?_
  refine lv_aload_n C9.1 C9.2.1 dL_formula_1 rfl (lv_at hl9 0 rfl) ?_
  refine lv_iload_n C9.1 C9.2.1 dL_formula_2 rfl (lv_at hl9 1 rfl) ?_
  refine zg_callX (as := [.int (iZ (z))]) C9 hLi9.1 (hLi9.2.2.2.1.narrow fun q h => Or.inr h) hS9 (fun q h => Or.inr h) (c_X3_formula_badr l hlq D cJ o a c ac re kn z r9z hbad) ml_L_157 rfl (by decide) (by decide) hl9 (Nat.le_of_ble_eq_true rfl) rfl dL_formula_3 (fun H1 locs1 ce1 q1 hAt1 hS1 hk1 hz1 hc1 hv1 hf1 => ?_)
  have hW1 := hLi9.2.1.kept (hk1 w9 hLi9.2.1.lt (fun z => z.elim hLi9.2.2.1.1 hLi9.2.2.1.2))
  refine zl_catch1 C9 (ht9.trans rfl) (by decide +kernel) (by decide) cl_L_24 hLi9.2.2.2.2.2.1 hc1 hv1 hf1 ?_
  refine lv_astore_n C9.1 C9.2.1 (x := q1) dL_formula_13 rfl hl9 (by decide) rfl (fun ls2 hl2 => ?_)
  refine z_iconst C9 dL_formula_14 ?_
  exact zl_ret C9 hAt1 hW1 hS1 hr9 hk9 (Nat.le_of_ble_eq_true rfl) (Nat.le_of_ble_eq_true rfl) dL_formula_15 rfl
end WF
