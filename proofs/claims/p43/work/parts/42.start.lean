/-! ===== what holds at the law's start ===== -/
section SA9
variable {s : State} {b : Nat}
theorem st_A : ∀ a : Nat, a < s.heap.size → ¬ zlA s a := fun _ h g => absurd g (Nat.not_le.mpr h)
theorem st_R {own tx : String} {k : Nat} {args : Array Value} (h1 : (Cond.stringRef own k tx).before args s = true) (h2 : (Cond.exactly (.string own k) "java/lang/String").before args s = true) : ∃ a, (Term.string own k).eval args s none [] s = some (.ref a) ∧ vk_R own k tx a s := by
  obtain ⟨a2, c, cA, kA, q1, -⟩ := Cond.exactly_spec (args := args) (first := s) (o := none) (s := s) (idx := []) h2
  exact ⟨a2, q1, h1, q1⟩
/-- the parts of what the Statement gives -/
def gv : List Cond := flatC (Jvm.Cond.and given_1 narrow_1)
theorem st_E (hts : ∀ w ∈ lw_tbl, w.before #[Value.ref b] s = true) (hg : ∀ w ∈ gv, w.before #[Value.ref b] s = true) : zE (zlA s) s s.heap := by
  obtain ⟨a1, -, h1⟩ := st_R (hts (.stringRef RX3 205 "a cell is 0 to 5") (by decide +kernel)) (hg (.exactly (.string RX3 205) "java/lang/String") (by decide +kernel))
  obtain ⟨a2, -, h2⟩ := st_R (hts (.stringRef RX3 212 "a number is out of its range") (by decide +kernel)) (hg (.exactly (.string RX3 212) "java/lang/String") (by decide +kernel))
  exact ⟨vx_Zqof (hts (.laysStatic Bundle.tN "UNASSIGNED_STACK" Bundle.steD) (by decide +kernel)) (hts (.initialized Bundle.tN) (by decide +kernel)) (hg (.isRef (.static Bundle.tN "UNASSIGNED_STACK" Bundle.steD)) (by decide +kernel)) st_A,
    vx_Zqof (hts (.laysStatic Bundle.tN "SUPPRESSED_SENTINEL" Bundle.listD) (by decide +kernel)) (hts (.initialized Bundle.tN) (by decide +kernel)) (hg (.isRef (.static Bundle.tN "SUPPRESSED_SENTINEL" Bundle.listD)) (by decide +kernel)) st_A,
    ⟨a1, h1⟩, ⟨a2, h2⟩, fun w hw => zW_move (State.WarmedH.refl s) (xI_ok w hw) (hts w ((show ∀ w ∈ xI, w ∈ lw_tbl by decide +kernel) w hw)), fun w hw => zW_move (State.WarmedH.refl s) (xA_ok w hw) (hts w ((show ∀ w ∈ xA, w ∈ lw_tbl by decide +kernel) w hw))⟩
theorem st_C (hts : ∀ w ∈ lw_tbl, w.before #[Value.ref b] s = true) (hg : ∀ w ∈ gv, w.before #[Value.ref b] s = true) : zCt s :=
  ⟨zW_move (State.WarmedH.refl s) rfl (hts (.castable zNI zNI) (by decide +kernel)), zW_move (State.WarmedH.refl s) rfl (hts (.castable zNA zNA) (by decide +kernel)), va_Nc.of (hg (.not (.castable zNA zNI)) (by decide +kernel)),
    va_Nw.of rfl (hts (.fieldLinkNest RL 13 "CarryfreeLaw$Out" "n" "J" RL) (by decide +kernel)), va_Nw.of rfl (hts (.fieldLinkNest RL 117 "CarryfreeLaw$Out" "s" "Ljava/lang/String;" RL) (by decide +kernel))⟩
def dOne (j : Nat) : Int32 := Int32.ofNat (48 + j % 10)
def dTen (j : Nat) : Int32 := Int32.ofNat (48 + j / 10)
def dSig (j : Nat) : Int32 := Int32.ofNat (if j < 10 then 48 + j else 87 + j)
theorem gv_at {N k : Nat} {P : Nat → Cond} (h : (gv.drop k).take N = (List.range N).map P) {j : Nat} (hj : j < N) : P j ∈ gv := by
  have h1 : P j ∈ (gv.drop k).take N := by rw [h]; exact List.mem_map.mpr ⟨j, List.mem_range.mpr hj, rfl⟩
  exact List.mem_of_mem_drop (List.mem_of_mem_take h1)
theorem gv_one : (gv.drop 14).take 100 = (List.range 100).map (fun j => Cond.eq (.elem (.static "java/lang/Integer" "DigitOnes" "[B") (.int (Int32.ofNat j))) (.int (dOne j))) := by decide +kernel
theorem gv_ten : (gv.drop 117).take 100 = (List.range 100).map (fun j => Cond.eq (.elem (.static "java/lang/Integer" "DigitTens" "[B") (.int (Int32.ofNat j))) (.int (dTen j))) := by decide +kernel
theorem gv_ms : (gv.drop 220).take 9 = (List.range 9).map (fun j => Cond.eq (.elem (.static RX5 "MS" "[I") (.int (Int32.ofNat j))) (.int (iZ (msv j)))) := by decide +kernel
theorem gv_sig : (gv.drop 356).take 36 = (List.range 36).map (fun j => Cond.eq (.elem (.field (.string RX5 132) "java/lang/String" "value" "[B") (.int (Int32.ofNat j))) (.int (dSig j))) := by decide +kernel
theorem st_V (hts : ∀ w ∈ lw_tbl, w.before #[Value.ref b] s = true) (hg : ∀ w ∈ gv, w.before #[Value.ref b] s = true) : zV (zlA s) s s.heap := by
  have e1 : va_Z RJ0 "COMPACT_STRINGS" "Z" (.int (iZ 1)) (zlA s) s s.heap := va_Zof (hts (.laysStatic RJ0 "COMPACT_STRINGS" "Z") (by decide +kernel)) (hts (.initialized RJ0) (by decide +kernel)) (va_eqi (hg (.eq (.static RJ0 "COMPACT_STRINGS" "Z") (.int (iZ 1))) (by decide +kernel))) st_A
  have e2 : va_Zq RJ3 "SIOOBE_FORMATTER" "Ljava/util/function/BiFunction;" (zlA s) s s.heap := va_Zqof (hts (.laysStatic RJ3 "SIOOBE_FORMATTER" "Ljava/util/function/BiFunction;") (by decide +kernel)) (hts (.initialized RJ3) (by decide +kernel)) (hg (.isRef (.static RJ3 "SIOOBE_FORMATTER" "Ljava/util/function/BiFunction;")) (by decide +kernel)) st_A
  have e3 : zVd "DigitOnes" (zlA s) s s.heap := by
    obtain ⟨t, h1, h2⟩ := va_Tof (A := zlA s) (N := 100) (f := fun j => .int (dOne j)) (by decide) (hg (.arrayOf (.static "java/lang/Integer" "DigitOnes" "[B") .byte) (by decide +kernel)) (va_eqt (hg (.eq (.length (.static "java/lang/Integer" "DigitOnes" "[B")) (.int (Int32.ofNat 100))) (by decide +kernel))) (fun j hj => va_eqt (hg _ (gv_at gv_one hj))) st_A
    exact ⟨t, dOne, va_Zref (hts (.laysStatic "java/lang/Integer" "DigitOnes" "[B") (by decide +kernel)) (hts (.initialized "java/lang/Integer") (by decide +kernel)) h1 st_A, h2⟩
  have e4 : zVd "DigitTens" (zlA s) s s.heap := by
    obtain ⟨t, h1, h2⟩ := va_Tof (A := zlA s) (N := 100) (f := fun j => .int (dTen j)) (by decide) (hg (.arrayOf (.static "java/lang/Integer" "DigitTens" "[B") .byte) (by decide +kernel)) (va_eqt (hg (.eq (.length (.static "java/lang/Integer" "DigitTens" "[B")) (.int (Int32.ofNat 100))) (by decide +kernel))) (fun j hj => va_eqt (hg _ (gv_at gv_ten hj))) st_A
    exact ⟨t, dTen, va_Zref (hts (.laysStatic "java/lang/Integer" "DigitTens" "[B") (by decide +kernel)) (hts (.initialized "java/lang/Integer") (by decide +kernel)) h1 st_A, h2⟩
  have e5 : zVm (zlA s) s s.heap := by
    obtain ⟨t, h1, h2⟩ := va_Tof (A := zlA s) (N := 9) (f := fun j => .int (iZ (msv j))) (by decide) (hg (.arrayOf (.static RX5 "MS" "[I") .int) (by decide +kernel)) (va_eqt (hg (.eq (.length (.static RX5 "MS" "[I")) (.int (Int32.ofNat 9))) (by decide +kernel))) (fun j hj => va_eqt (hg _ (gv_at gv_ms hj))) st_A
    exact ⟨t, va_Zref (hts (.laysStatic RX5 "MS" "[I") (by decide +kernel)) (hts (.initialized RX5) (by decide +kernel)) h1 st_A, h2⟩
  have e6 : zVs (zlA s) s s.heap := by
    have hx := hg (.exactly (.string RX5 132) "java/lang/String") (by decide +kernel)
    obtain ⟨a, h0, hR⟩ := st_R (hts (.stringRef RX5 132 "0123456789abcdefghijklmnopqrstuvwxyz") (by decide +kernel)) hx
    obtain ⟨t, h1, h2⟩ := va_Tof (A := zlA s) (N := 36) (f := fun j => .int (dSig j)) (by decide) (hg (.arrayOf (.field (.string RX5 132) "java/lang/String" "value" "[B") .byte) (by decide +kernel)) (va_eqt (hg (.eq (.length (.field (.string RX5 132) "java/lang/String" "value" "[B")) (.int (Int32.ofNat 36))) (by decide +kernel))) (fun j hj => va_eqt (hg _ (gv_at gv_sig hj))) st_A
    exact ⟨a, t, dSig, hR, va_Oof hx h0 st_A, vk_OFof h0 (va_eqt (hg (.eq (.field (.string RX5 132) "java/lang/String" "coder" "B") (.int (iZ 0))) (by decide +kernel))) st_A, vk_OFof h0 h1 st_A, h2⟩
  obtain ⟨b1, -, c1⟩ := st_R (hts (.stringRef RX2 7 "-") (by decide +kernel)) (hg (.exactly (.string RX2 7) "java/lang/String") (by decide +kernel))
  obtain ⟨b2, -, c2⟩ := st_R (hts (.stringRef RX2 37 "0") (by decide +kernel)) (hg (.exactly (.string RX2 37) "java/lang/String") (by decide +kernel))
  obtain ⟨b3, -, c3⟩ := st_R (hts (.stringRef RX3 151 "!") (by decide +kernel)) (hg (.exactly (.string RX3 151) "java/lang/String") (by decide +kernel))
  obtain ⟨b4, -, c4⟩ := st_R (hts (.stringRef RX5 111 "") (by decide +kernel)) (hg (.exactly (.string RX5 111) "java/lang/String") (by decide +kernel))
  obtain ⟨b5, -, c5⟩ := st_R (hts (.stringRef RX5 113 "-") (by decide +kernel)) (hg (.exactly (.string RX5 113) "java/lang/String") (by decide +kernel))
  obtain ⟨b6, -, c6⟩ := st_R (hts (.stringRef RX5 147 "!") (by decide +kernel)) (hg (.exactly (.string RX5 147) "java/lang/String") (by decide +kernel))
  have hh : ∀ {w : Cond}, w ∈ lw_tbl → w.before #[Value.ref b] s = true := fun h => hts _ h
  have e7 : zVt s := ⟨⟨b1, c1⟩, ⟨b2, c2⟩, ⟨b3, c3⟩, ⟨b4, c4⟩, ⟨b5, c5⟩, ⟨b6, c6⟩, zW_move (State.WarmedH.refl s) rfl (hts (.castable "[B" "java/lang/Cloneable") (by decide +kernel)),
    zW_move (State.WarmedH.refl s) rfl (zsel_priv (y := yJ5_ensureCapacityInternal_d00df) (by decide) (hh it_J4) (hh sm_J5_ensureCapacityInternal_d00df) (hh pv_J5_ensureCapacityInternal_d00df) (hh im_J5_ensureCapacityInternal_d00df)),
    zW_move (State.WarmedH.refl s) rfl (zsel_priv (y := yJ5_newCapacity_0f7a4) (by decide) (hh it_J4) (hh sm_J5_newCapacity_0f7a4) (hh pv_J5_newCapacity_0f7a4) (hh im_J5_newCapacity_0f7a4))⟩
  exact ⟨e1, e2, e3, e4, e5, e6, e7⟩
theorem st_arr {ty : FieldType} {args : Array Value} (h : (Cond.arrayClass ty).before args s = true) : ∃ c, ArrOfT s c ty ∧ s.vm.findClass ("[" ++ ty.toString) = some c := by
  obtain ⟨c, k, comp, h1, h2, h3⟩ := Cond.arrayClass_spec (args := args) (first := s) (o := none) (s := s) (idx := []) h
  exact ⟨c, fun n z => ⟨fun k h => (by cases h), k, h2, comp, h3⟩, h1⟩
/-- the classes and array classes, as the tables have them -/
theorem st_K {args : Array Value} (hts : ∀ w ∈ T0, w.before args s = true) : ∃ (D : va_G) (cB cJ : ClassId), va_K D vwCl [(cB, .byte)] s ∧ va_K D vwCl [(cJ, .long)] s ∧ va_K D vwCl [] s := by
  obtain ⟨c0, i0, k0⟩ := u_known (C := RJ0) (T := TJ0) (N := 4) (n := 4) hts inJ0 (hts _ (T0_of it_J0 rfl))
  obtain ⟨c1, i1, k1⟩ := u_known (C := RJ4) (T := TJ4) (N := 4) (n := 4) hts inJ4 (hts _ (T0_of it_J4 rfl))
  obtain ⟨c2, i2, k2⟩ := u_known (C := RX3) (T := TX3) (N := 4) (n := 4) hts inX3 (hts _ (T0_of it_X3 rfl))
  obtain ⟨c3, i3, k3⟩ := u_known (C := RX4) (T := TX4) (N := 2) (n := 2) hts inX4 (hts _ (T0_of it_X4 rfl))
  obtain ⟨c4, i4, k4⟩ := u_known (C := RX5) (T := TX5) (N := 5) (n := 5) hts inX5 (hts _ (T0_of it_X5 rfl))
  obtain ⟨cB, hB⟩ := st_arr (hts _ (T0_of ac_byte rfl))
  obtain ⟨cJ, hJ⟩ := st_arr (hts _ (T0_of ac_long rfl))
  have hKc : ∀ (k : Nat) (q : vw_C), vwCl[k]? = some q → u_Kn s q.1 q.2.1 q.2.2 ((fun k => if k = 0 then c0 else if k = 1 then c1 else if k = 2 then c2 else if k = 3 then c3 else c4) k) ((fun k => if k = 0 then i0 else if k = 1 then i1 else if k = 2 then i2 else if k = 3 then i3 else i4) k) := by
    intro k q hq
    match k, hq with
    | 0, hq => cases hq; exact k0
    | 1, hq => cases hq; exact k1
    | 2, hq => cases hq; exact k2
    | 3, hq => cases hq; exact k3
    | 4, hq => cases hq; exact k4
    | k + 5, hq => simp [vwCl] at hq
  refine ⟨(_, _), cB, cJ, ⟨hKc, fun k q hk => ?_⟩, ⟨hKc, fun k q hk => ?_⟩, ⟨hKc, fun k q hk => by simp at hk⟩⟩
  · match k, hk with
    | 0, hk => cases hk; exact hB
    | k + 1, hk => simp at hk
  · match k, hk with
    | 0, hk => cases hk; exact hJ
    | k + 1, hk => simp at hk
end SA9
