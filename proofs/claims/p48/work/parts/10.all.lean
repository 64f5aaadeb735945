/-! ===== what holds at the law's start ===== -/
section SA9
variable {s : State} {b : Nat}
theorem st_A : ∀ a : Nat, a < s.heap.size → ¬ zlA s a := fun _ h g => absurd g (Nat.not_le.mpr h)
theorem st_R {own tx : String} {k : Nat} {args : Array Value} (h1 : (Cond.stringRef own k tx).before args s = true) (h2 : (Cond.exactly (.string own k) "java/lang/String").before args s = true) : ∃ a, (Term.string own k).eval args s none [] s = some (.ref a) ∧ vk_R own k tx a s := by
  obtain ⟨a2, c, cA, kA, q1, -⟩ := Cond.exactly_spec (args := args) (first := s) (o := none) (s := s) (idx := []) h2
  exact ⟨a2, q1, h1, q1⟩
/-- the parts of what the Statement gives -/
def gv : List Cond := flatC (Jvm.Cond.and given_1 narrow_1)
theorem st_E (hts : ∀ w ∈ lw_tbl, w.before #[Value.ref b] s = true) (hg : ∀ w ∈ gv, w.before #[Value.ref b] s = true) : zE (zlA s) s s.heap := by
  obtain ⟨a1, -, h1⟩ := st_R (hts (.stringRef RX3 205 "a cell is 0 to 5") (by decide +kernel)) (hg (.exactly (.string RX3 205) "java/lang/String") (by decide +kernel))
  obtain ⟨a2, -, h2⟩ := st_R (hts (.stringRef RX3 212 "a number is out of its range") (by decide +kernel)) (hg (.exactly (.string RX3 212) "java/lang/String") (by decide +kernel))
  exact ⟨vx_Zqof (hts (.laysStatic Bundle.tN "UNASSIGNED_STACK" Bundle.steD) (by decide +kernel)) (hts (.initialized Bundle.tN) (by decide +kernel)) (hg (.isRef (.static Bundle.tN "UNASSIGNED_STACK" Bundle.steD)) (by decide +kernel)) st_A,
    vx_Zqof (hts (.laysStatic Bundle.tN "SUPPRESSED_SENTINEL" Bundle.listD) (by decide +kernel)) (hts (.initialized Bundle.tN) (by decide +kernel)) (hg (.isRef (.static Bundle.tN "SUPPRESSED_SENTINEL" Bundle.listD)) (by decide +kernel)) st_A,
    ⟨a1, h1⟩, ⟨a2, h2⟩, fun w hw => zW_move (State.WarmedH.refl s) (xI_ok w hw) (hts w ((show ∀ w ∈ xI, w ∈ lw_tbl by decide +kernel) w hw)), fun w hw => zW_move (State.WarmedH.refl s) (xA_ok w hw) (hts w ((show ∀ w ∈ xA, w ∈ lw_tbl by decide +kernel) w hw))⟩
theorem st_C (hts : ∀ w ∈ lw_tbl, w.before #[Value.ref b] s = true) (hg : ∀ w ∈ gv, w.before #[Value.ref b] s = true) : zCt s :=
  ⟨zW_move (State.WarmedH.refl s) rfl (hts (.castable zNI zNI) (by decide +kernel)), zW_move (State.WarmedH.refl s) rfl (hts (.castable zNA zNA) (by decide +kernel)), va_Nc.of (hg (.not (.castable zNA zNI)) (by decide +kernel)),
    va_Nw.of rfl (hts (.fieldLinkNest RL 13 "CarryfreeLaw$Out" "n" "J" RL) (by decide +kernel)), va_Nw.of rfl (hts (.fieldLinkNest RL 117 "CarryfreeLaw$Out" "s" "Ljava/lang/String;" RL) (by decide +kernel))⟩
def dOne (j : Nat) : Int32 := Int32.ofNat (48 + j % 10)
def dTen (j : Nat) : Int32 := Int32.ofNat (48 + j / 10)
def dSig (j : Nat) : Int32 := Int32.ofNat (if j < 10 then 48 + j else 87 + j)
theorem gv_at {N k : Nat} {P : Nat → Cond} (h : (gv.drop k).take N = (List.range N).map P) {j : Nat} (hj : j < N) : P j ∈ gv := by
  have h1 : P j ∈ (gv.drop k).take N := by rw [h]; exact List.mem_map.mpr ⟨j, List.mem_range.mpr hj, rfl⟩
  exact List.mem_of_mem_drop (List.mem_of_mem_take h1)
theorem gv_one : (gv.drop 14).take 100 = (List.range 100).map (fun j => Cond.eq (.elem (.static "java/lang/Integer" "DigitOnes" "[B") (.int (Int32.ofNat j))) (.int (dOne j))) := by decide +kernel
theorem gv_ten : (gv.drop 117).take 100 = (List.range 100).map (fun j => Cond.eq (.elem (.static "java/lang/Integer" "DigitTens" "[B") (.int (Int32.ofNat j))) (.int (dTen j))) := by decide +kernel
theorem gv_ms : (gv.drop 220).take 9 = (List.range 9).map (fun j => Cond.eq (.elem (.static RX5 "MS" "[I") (.int (Int32.ofNat j))) (.int (iZ (msv j)))) := by decide +kernel
theorem gv_sig : (gv.drop 356).take 36 = (List.range 36).map (fun j => Cond.eq (.elem (.field (.string RX5 132) "java/lang/String" "value" "[B") (.int (Int32.ofNat j))) (.int (dSig j))) := by decide +kernel
theorem st_V (hts : ∀ w ∈ lw_tbl, w.before #[Value.ref b] s = true) (hg : ∀ w ∈ gv, w.before #[Value.ref b] s = true) : zV (zlA s) s s.heap := by
  have e1 : va_Z RJ0 "COMPACT_STRINGS" "Z" (.int (iZ 1)) (zlA s) s s.heap := va_Zof (hts (.laysStatic RJ0 "COMPACT_STRINGS" "Z") (by decide +kernel)) (hts (.initialized RJ0) (by decide +kernel)) (va_eqi (hg (.eq (.static RJ0 "COMPACT_STRINGS" "Z") (.int (iZ 1))) (by decide +kernel))) st_A
  have e2 : va_Zq RJ3 "SIOOBE_FORMATTER" "Ljava/util/function/BiFunction;" (zlA s) s s.heap := va_Zqof (hts (.laysStatic RJ3 "SIOOBE_FORMATTER" "Ljava/util/function/BiFunction;") (by decide +kernel)) (hts (.initialized RJ3) (by decide +kernel)) (hg (.isRef (.static RJ3 "SIOOBE_FORMATTER" "Ljava/util/function/BiFunction;")) (by decide +kernel)) st_A
  have e3 : zVd "DigitOnes" (zlA s) s s.heap := by
    obtain ⟨t, h1, h2⟩ := va_Tof (A := zlA s) (N := 100) (f := fun j => .int (dOne j)) (by decide) (hg (.arrayOf (.static "java/lang/Integer" "DigitOnes" "[B") .byte) (by decide +kernel)) (va_eqt (hg (.eq (.length (.static "java/lang/Integer" "DigitOnes" "[B")) (.int (Int32.ofNat 100))) (by decide +kernel))) (fun j hj => va_eqt (hg _ (gv_at gv_one hj))) st_A
    exact ⟨t, dOne, va_Zref (hts (.laysStatic "java/lang/Integer" "DigitOnes" "[B") (by decide +kernel)) (hts (.initialized "java/lang/Integer") (by decide +kernel)) h1 st_A, h2⟩
  have e4 : zVd "DigitTens" (zlA s) s s.heap := by
    obtain ⟨t, h1, h2⟩ := va_Tof (A := zlA s) (N := 100) (f := fun j => .int (dTen j)) (by decide) (hg (.arrayOf (.static "java/lang/Integer" "DigitTens" "[B") .byte) (by decide +kernel)) (va_eqt (hg (.eq (.length (.static "java/lang/Integer" "DigitTens" "[B")) (.int (Int32.ofNat 100))) (by decide +kernel))) (fun j hj => va_eqt (hg _ (gv_at gv_ten hj))) st_A
    exact ⟨t, dTen, va_Zref (hts (.laysStatic "java/lang/Integer" "DigitTens" "[B") (by decide +kernel)) (hts (.initialized "java/lang/Integer") (by decide +kernel)) h1 st_A, h2⟩
  have e5 : zVm (zlA s) s s.heap := by
    obtain ⟨t, h1, h2⟩ := va_Tof (A := zlA s) (N := 9) (f := fun j => .int (iZ (msv j))) (by decide) (hg (.arrayOf (.static RX5 "MS" "[I") .int) (by decide +kernel)) (va_eqt (hg (.eq (.length (.static RX5 "MS" "[I")) (.int (Int32.ofNat 9))) (by decide +kernel))) (fun j hj => va_eqt (hg _ (gv_at gv_ms hj))) st_A
    exact ⟨t, va_Zref (hts (.laysStatic RX5 "MS" "[I") (by decide +kernel)) (hts (.initialized RX5) (by decide +kernel)) h1 st_A, h2⟩
  have e6 : zVs (zlA s) s s.heap := by
    have hx := hg (.exactly (.string RX5 132) "java/lang/String") (by decide +kernel)
    obtain ⟨a, h0, hR⟩ := st_R (hts (.stringRef RX5 132 "0123456789abcdefghijklmnopqrstuvwxyz") (by decide +kernel)) hx
    obtain ⟨t, h1, h2⟩ := va_Tof (A := zlA s) (N := 36) (f := fun j => .int (dSig j)) (by decide) (hg (.arrayOf (.field (.string RX5 132) "java/lang/String" "value" "[B") .byte) (by decide +kernel)) (va_eqt (hg (.eq (.length (.field (.string RX5 132) "java/lang/String" "value" "[B")) (.int (Int32.ofNat 36))) (by decide +kernel))) (fun j hj => va_eqt (hg _ (gv_at gv_sig hj))) st_A
    exact ⟨a, t, dSig, hR, va_Oof hx h0 st_A, vk_OFof h0 (va_eqt (hg (.eq (.field (.string RX5 132) "java/lang/String" "coder" "B") (.int (iZ 0))) (by decide +kernel))) st_A, vk_OFof h0 h1 st_A, h2⟩
  obtain ⟨b1, -, c1⟩ := st_R (hts (.stringRef RX2 7 "-") (by decide +kernel)) (hg (.exactly (.string RX2 7) "java/lang/String") (by decide +kernel))
  obtain ⟨b2, -, c2⟩ := st_R (hts (.stringRef RX2 37 "0") (by decide +kernel)) (hg (.exactly (.string RX2 37) "java/lang/String") (by decide +kernel))
  obtain ⟨b3, -, c3⟩ := st_R (hts (.stringRef RX3 151 "!") (by decide +kernel)) (hg (.exactly (.string RX3 151) "java/lang/String") (by decide +kernel))
  obtain ⟨b4, -, c4⟩ := st_R (hts (.stringRef RX5 111 "") (by decide +kernel)) (hg (.exactly (.string RX5 111) "java/lang/String") (by decide +kernel))
  obtain ⟨b5, -, c5⟩ := st_R (hts (.stringRef RX5 113 "-") (by decide +kernel)) (hg (.exactly (.string RX5 113) "java/lang/String") (by decide +kernel))
  obtain ⟨b6, -, c6⟩ := st_R (hts (.stringRef RX5 147 "!") (by decide +kernel)) (hg (.exactly (.string RX5 147) "java/lang/String") (by decide +kernel))
  have hh : ∀ {w : Cond}, w ∈ lw_tbl → w.before #[Value.ref b] s = true := fun h => hts _ h
  have e7 : zVt s := ⟨⟨b1, c1⟩, ⟨b2, c2⟩, ⟨b3, c3⟩, ⟨b4, c4⟩, ⟨b5, c5⟩, ⟨b6, c6⟩, zW_move (State.WarmedH.refl s) rfl (hts (.castable "[B" "java/lang/Cloneable") (by decide +kernel)),
    zW_move (State.WarmedH.refl s) rfl (zsel_priv (y := yJ5_ensureCapacityInternal_d00df) (by decide) (hh it_J4) (hh sm_J5_ensureCapacityInternal_d00df) (hh pv_J5_ensureCapacityInternal_d00df) (hh im_J5_ensureCapacityInternal_d00df)),
    zW_move (State.WarmedH.refl s) rfl (zsel_priv (y := yJ5_newCapacity_0f7a4) (by decide) (hh it_J4) (hh sm_J5_newCapacity_0f7a4) (hh pv_J5_newCapacity_0f7a4) (hh im_J5_newCapacity_0f7a4))⟩
  exact ⟨e1, e2, e3, e4, e5, e6, e7⟩
theorem st_arr {ty : FieldType} {args : Array Value} (h : (Cond.arrayClass ty).before args s = true) : ∃ c, ArrOfT s c ty ∧ s.vm.findClass ("[" ++ ty.toString) = some c := by
  obtain ⟨c, k, comp, h1, h2, h3⟩ := Cond.arrayClass_spec (args := args) (first := s) (o := none) (s := s) (idx := []) h
  exact ⟨c, fun n z => ⟨fun k h => (by cases h), k, h2, comp, h3⟩, h1⟩
/-- the classes and array classes, as the tables have them -/
theorem st_K {args : Array Value} (hts : ∀ w ∈ T0, w.before args s = true) : ∃ (D : va_G) (cB cJ : ClassId), va_K D vwCl [(cB, .byte)] s ∧ va_K D vwCl [(cJ, .long)] s ∧ va_K D vwCl [] s := by
  obtain ⟨c0, i0, k0⟩ := u_known (C := RJ0) (T := TJ0) (N := 4) (n := 4) hts inJ0 (hts _ (T0_of it_J0 rfl))
  obtain ⟨c1, i1, k1⟩ := u_known (C := RJ4) (T := TJ4) (N := 4) (n := 4) hts inJ4 (hts _ (T0_of it_J4 rfl))
  obtain ⟨c2, i2, k2⟩ := u_known (C := RX3) (T := TX3) (N := 4) (n := 4) hts inX3 (hts _ (T0_of it_X3 rfl))
  obtain ⟨c3, i3, k3⟩ := u_known (C := RX4) (T := TX4) (N := 2) (n := 2) hts inX4 (hts _ (T0_of it_X4 rfl))
  obtain ⟨c4, i4, k4⟩ := u_known (C := RX5) (T := TX5) (N := 5) (n := 5) hts inX5 (hts _ (T0_of it_X5 rfl))
  obtain ⟨cB, hB⟩ := st_arr (hts _ (T0_of ac_byte rfl))
  obtain ⟨cJ, hJ⟩ := st_arr (hts _ (T0_of ac_long rfl))
  have hKc : ∀ (k : Nat) (q : vw_C), vwCl[k]? = some q → u_Kn s q.1 q.2.1 q.2.2 ((fun k => if k = 0 then c0 else if k = 1 then c1 else if k = 2 then c2 else if k = 3 then c3 else c4) k) ((fun k => if k = 0 then i0 else if k = 1 then i1 else if k = 2 then i2 else if k = 3 then i3 else i4) k) := by
    intro k q hq
    match k, hq with
    | 0, hq => cases hq; exact k0
    | 1, hq => cases hq; exact k1
    | 2, hq => cases hq; exact k2
    | 3, hq => cases hq; exact k3
    | 4, hq => cases hq; exact k4
    | k + 5, hq => simp [vwCl] at hq
  refine ⟨(_, _), cB, cJ, ⟨hKc, fun k q hk => ?_⟩, ⟨hKc, fun k q hk => ?_⟩, ⟨hKc, fun k q hk => by simp at hk⟩⟩
  · match k, hk with
    | 0, hk => cases hk; exact hB
    | k + 1, hk => simp at hk
  · match k, hk with
    | 0, hk => cases hk; exact hJ
    | k + 1, hk => simp at hk
end SA9
/-! ===== the law's loop ===== -/
section LL
variable {p : Program} {l : Launch} {e : Env} {s : State} {m : MethodId} {args : Array Value} {below : List Frame} {meth : Method} {c0 : Code} {Qw : State → Prop} {D : va_G} {cB cJ : ClassId} {t N : Nat} {g : Nat → Int} {o a u v w : Nat}
set_option maxHeartbeats 8000000 in
set_option maxRecDepth 100000 in
theorem lk_loop (hlq : l.stackTraces = false) (C : CallFix p m c0 cL_law 7 s args T0 RL) (Z : zLw D cB t N g s) (Y : zAd o a u v w s)
    (kend : ∀ (H : Heap) (locs : List Loc) (ls : Array Slot) (cells slots : Nat), cells ≤ 665281 → slots ≤ 7105636 → va_S (zlA s) s.heap H locs → W p l e room_1 s m args below meth c0 H locs cells slots Qw (F0 m 2179 ls [.int (iZ 1)])) :
    ∀ (j : Nat) (c : Nat → Nat) (ac re kn : Int32) (th : Int) (n : Int64) (sv : Value) (H : Heap) (locs : List Loc) (ls : Array Slot) (cells slots : Nat) (x : Int), (N : Int) - x < (j : Int) → 0 ≤ x → x ≤ (N : Int) → (cells : Int) ≤ 10 + 30 * x → (slots : Int) ≤ 100 + 15000 * x → zG D cJ o a u v w c [.int ac, .int re, .int kn] c [.int (iZ th), .int ac, .int re, .int kn] n sv s H locs → lv_has ls 7 [(0, .ref t), (1, .ref o), (2, .ref u), (3, .ref w), (4, .int (iZ x))] → W p l e room_1 s m args below meth c0 H locs cells slots Qw (F0 m 27 ls []) := by
  intro j
  have hN := Z.2.2.2.2.2.2
  induction j with
  | zero => intro c ac re kn th n sv H locs ls cells slots x h1 h2 h3; exact absurd h1 (by omega)
  | succ j ih =>
    intro c ac re kn th n sv H locs ls cells slots x h1 h2 h3 h4 h5 G hl
    refine lv_iload C.1 C.2.1 dL_law_27 (lv_at hl 4 rfl) ?_
    refine lv_aload_n C.1 C.2.1 dL_law_29 rfl (lv_at hl 0 rfl) ?_
    refine zd_len C Z G dL_law_30 ?_
    refine z_iconst C dL_law_31 ?_
    refine z_isub C dL_law_32 ?_
    refine z_icmp_gt (tgt := 2178) C (by omega) (by omega) dL_law_33 (by decide) (fun _ => ?_) (fun hx => ?_)
    · refine z_iconst C dL_law_2178 ?_
      exact kend H locs ls cells slots (by omega) (by omega) G.2.2.2
    have kk : zNx p l e s m args below meth c0 D cJ t o a u v w x cells slots Qw 2172 := by
      intro c ac re kn th n sv H locs ls cells2 slots2 G hc hs hl
      refine z_iinc (j := 4) (lv' := [(4, .int (iZ (x + 5))), (0, .ref t), (1, .ref o), (2, .ref u), (3, .ref w)]) C dL_law_2172 hl rfl (by decide) rfl (fun ls hl => ?_)
      refine lv_goto (tgt := 27) C.1 C.2.1 dL_law_2175 (by decide) ?_
      exact ih c ac re kn th n sv H locs ls cells2 slots2 (x + 5) (by omega) (by omega) (by omega) (by omega) (by omega) G (lv_sub hl [1, 2, 3, 4, 0] rfl)
    have hf : cells + 150 ≤ 665281 ∧ slots + 75000 ≤ 7105636 := ⟨by omega, by omega⟩
    refine lv_aload_n C.1 C.2.1 dL_law_36 rfl (lv_at hl 0 rfl) ?_
    refine lv_iload C.1 C.2.1 dL_law_37 (lv_at hl 4 rfl) ?_
    refine zd_ld C Z G (g x.toNat) x.toNat rfl (by omega) (by omega) dL_law_39 ?_
    refine z_bipush C dL_law_40 (by decide) ?_
    refine zd_63 C dL_law_42 (fun z hz => ?_)
    by_cases hs0 : z = 0
    · refine z_tableIn (off := 201) (tgt := 244) C dL_law_43 (by omega) (by omega) (by omega) (by rw [hs0]; rfl) (by decide) ?_
      exact lk_0 hlq C Z Y G x ⟨h2, by omega⟩ hf hl kk
    by_cases hs1 : z = 1
    · refine z_tableIn (off := 241) (tgt := 284) C dL_law_43 (by omega) (by omega) (by omega) (by rw [hs1]; rfl) (by decide) ?_
      exact lk_1 hlq C Z Y G x ⟨h2, by omega⟩ hf hl kk
    by_cases hs2 : z = 2
    · refine z_tableIn (off := 281) (tgt := 324) C dL_law_43 (by omega) (by omega) (by omega) (by rw [hs2]; rfl) (by decide) ?_
      exact lk_2 hlq C Z Y G x ⟨h2, by omega⟩ hf hl kk
    by_cases hs3 : z = 3
    · refine z_tableIn (off := 349) (tgt := 392) C dL_law_43 (by omega) (by omega) (by omega) (by rw [hs3]; rfl) (by decide) ?_
      exact lk_3 hlq C Z Y G x ⟨h2, by omega⟩ hf hl kk
    by_cases hs4 : z = 4
    · refine z_tableIn (off := 389) (tgt := 432) C dL_law_43 (by omega) (by omega) (by omega) (by rw [hs4]; rfl) (by decide) ?_
      exact lk_4 hlq C Z Y G x ⟨h2, by omega⟩ hf hl kk
    by_cases hs5 : z = 5
    · refine z_tableIn (off := 429) (tgt := 472) C dL_law_43 (by omega) (by omega) (by omega) (by rw [hs5]; rfl) (by decide) ?_
      exact lk_5 hlq C Z Y G x ⟨h2, by omega⟩ hf hl kk
    by_cases hs6 : z = 6
    · refine z_tableIn (off := 469) (tgt := 512) C dL_law_43 (by omega) (by omega) (by omega) (by rw [hs6]; rfl) (by decide) ?_
      exact lk_6 hlq C Z Y G x ⟨h2, by omega⟩ hf hl kk
    by_cases hs7 : z = 7
    · refine z_tableIn (off := 549) (tgt := 592) C dL_law_43 (by omega) (by omega) (by omega) (by rw [hs7]; rfl) (by decide) ?_
      exact lk_7 hlq C Z Y G x ⟨h2, by omega⟩ hf hl kk
    by_cases hs8 : z = 8
    · refine z_tableIn (off := 613) (tgt := 656) C dL_law_43 (by omega) (by omega) (by omega) (by rw [hs8]; rfl) (by decide) ?_
      exact lk_8 hlq C Z Y G x ⟨h2, by omega⟩ hf hl kk
    by_cases hs9 : z = 9
    · refine z_tableIn (off := 665) (tgt := 708) C dL_law_43 (by omega) (by omega) (by omega) (by rw [hs9]; rfl) (by decide) ?_
      exact lk_9 hlq C Z Y G x ⟨h2, by omega⟩ hf hl kk
    by_cases hs10 : z = 10
    · refine z_tableIn (off := 705) (tgt := 748) C dL_law_43 (by omega) (by omega) (by omega) (by rw [hs10]; rfl) (by decide) ?_
      exact lk_10 hlq C Z Y G x ⟨h2, by omega⟩ hf hl kk
    by_cases hs11 : z = 11
    · refine z_tableIn (off := 757) (tgt := 800) C dL_law_43 (by omega) (by omega) (by omega) (by rw [hs11]; rfl) (by decide) ?_
      exact lk_11 hlq C Z Y G x ⟨h2, by omega⟩ hf hl kk
    by_cases hs12 : z = 12
    · refine z_tableIn (off := 809) (tgt := 852) C dL_law_43 (by omega) (by omega) (by omega) (by rw [hs12]; rfl) (by decide) ?_
      exact lk_12 hlq C Z Y G x ⟨h2, by omega⟩ hf hl kk
    by_cases hs13 : z = 13
    · refine z_tableIn (off := 861) (tgt := 904) C dL_law_43 (by omega) (by omega) (by omega) (by rw [hs13]; rfl) (by decide) ?_
      exact lk_13 hlq C Z Y G x ⟨h2, by omega⟩ hf hl kk
    by_cases hs14 : z = 14
    · refine z_tableIn (off := 913) (tgt := 956) C dL_law_43 (by omega) (by omega) (by omega) (by rw [hs14]; rfl) (by decide) ?_
      exact lk_14 hlq C Z Y G x ⟨h2, by omega⟩ hf hl kk
    by_cases hs15 : z = 15
    · refine z_tableIn (off := 965) (tgt := 1008) C dL_law_43 (by omega) (by omega) (by omega) (by rw [hs15]; rfl) (by decide) ?_
      exact lk_15 hlq C Z Y G x ⟨h2, by omega⟩ hf hl kk
    by_cases hs16 : z = 16
    · refine z_tableIn (off := 1045) (tgt := 1088) C dL_law_43 (by omega) (by omega) (by omega) (by rw [hs16]; rfl) (by decide) ?_
      exact lk_16 hlq C Z Y G x ⟨h2, by omega⟩ hf hl kk
    by_cases hs17 : z = 17
    · refine z_tableIn (off := 1085) (tgt := 1128) C dL_law_43 (by omega) (by omega) (by omega) (by rw [hs17]; rfl) (by decide) ?_
      exact lk_17 hlq C Z Y G x ⟨h2, by omega⟩ hf hl kk
    by_cases hs18 : z = 18
    · refine z_tableIn (off := 1125) (tgt := 1168) C dL_law_43 (by omega) (by omega) (by omega) (by rw [hs18]; rfl) (by decide) ?_
      exact lk_18 hlq C Z Y G x ⟨h2, by omega⟩ hf hl kk
    by_cases hs19 : z = 19
    · refine z_tableIn (off := 1165) (tgt := 1208) C dL_law_43 (by omega) (by omega) (by omega) (by rw [hs19]; rfl) (by decide) ?_
      exact lk_19 hlq C Z Y G x ⟨h2, by omega⟩ hf hl kk
    by_cases hs20 : z = 20
    · refine z_tableIn (off := 1205) (tgt := 1248) C dL_law_43 (by omega) (by omega) (by omega) (by rw [hs20]; rfl) (by decide) ?_
      exact lk_20 hlq C Z Y G x ⟨h2, by omega⟩ hf hl kk
    by_cases hs21 : z = 21
    · refine z_tableIn (off := 1269) (tgt := 1312) C dL_law_43 (by omega) (by omega) (by omega) (by rw [hs21]; rfl) (by decide) ?_
      exact lk_21 hlq C Z Y G x ⟨h2, by omega⟩ hf hl kk
    by_cases hs22 : z = 22
    · refine z_tableIn (off := 1321) (tgt := 1364) C dL_law_43 (by omega) (by omega) (by omega) (by rw [hs22]; rfl) (by decide) ?_
      exact lk_22 hlq C Z Y G x ⟨h2, by omega⟩ hf hl kk
    by_cases hs23 : z = 23
    · refine z_tableIn (off := 1361) (tgt := 1404) C dL_law_43 (by omega) (by omega) (by omega) (by rw [hs23]; rfl) (by decide) ?_
      exact lk_23 hlq C Z Y G x ⟨h2, by omega⟩ hf hl kk
    by_cases hs24 : z = 24
    · refine z_tableIn (off := 1413) (tgt := 1456) C dL_law_43 (by omega) (by omega) (by omega) (by rw [hs24]; rfl) (by decide) ?_
      exact lk_24 hlq C Z Y G x ⟨h2, by omega⟩ hf hl kk
    by_cases hs25 : z = 25
    · refine z_tableIn (off := 1441) (tgt := 1484) C dL_law_43 (by omega) (by omega) (by omega) (by rw [hs25]; rfl) (by decide) ?_
      exact lk_25 hlq C Z Y G x ⟨h2, by omega⟩ hf hl kk
    by_cases hs26 : z = 26
    · refine z_tableIn (off := 1469) (tgt := 1512) C dL_law_43 (by omega) (by omega) (by omega) (by rw [hs26]; rfl) (by decide) ?_
      exact lk_26 hlq C Z Y G x ⟨h2, by omega⟩ hf hl kk
    by_cases hs27 : z = 27
    · refine z_tableIn (off := 1497) (tgt := 1540) C dL_law_43 (by omega) (by omega) (by omega) (by rw [hs27]; rfl) (by decide) ?_
      exact lk_27 hlq C Z Y G x ⟨h2, by omega⟩ hf hl kk
    by_cases hs28 : z = 28
    · refine z_tableIn (off := 1537) (tgt := 1580) C dL_law_43 (by omega) (by omega) (by omega) (by rw [hs28]; rfl) (by decide) ?_
      exact lk_28 hlq C Z Y G x ⟨h2, by omega⟩ hf hl kk
    by_cases hs29 : z = 29
    · refine z_tableIn (off := 1565) (tgt := 1608) C dL_law_43 (by omega) (by omega) (by omega) (by rw [hs29]; rfl) (by decide) ?_
      exact lk_29 hlq C Z Y G x ⟨h2, by omega⟩ hf hl kk
    by_cases hs30 : z = 30
    · refine z_tableIn (off := 1593) (tgt := 1636) C dL_law_43 (by omega) (by omega) (by omega) (by rw [hs30]; rfl) (by decide) ?_
      exact lk_30 hlq C Z Y G x ⟨h2, by omega⟩ hf hl kk
    by_cases hs31 : z = 31
    · refine z_tableIn (off := 1633) (tgt := 1676) C dL_law_43 (by omega) (by omega) (by omega) (by rw [hs31]; rfl) (by decide) ?_
      exact lk_31 hlq C Z Y G x ⟨h2, by omega⟩ hf hl kk
    by_cases hs32 : z = 32
    · refine z_tableIn (off := 1673) (tgt := 1716) C dL_law_43 (by omega) (by omega) (by omega) (by rw [hs32]; rfl) (by decide) ?_
      exact lk_32 hlq C Z Y G x ⟨h2, by omega⟩ hf hl kk
    by_cases hs33 : z = 33
    · refine z_tableIn (off := 1713) (tgt := 1756) C dL_law_43 (by omega) (by omega) (by omega) (by rw [hs33]; rfl) (by decide) ?_
      exact lk_33 hlq C Z Y G x ⟨h2, by omega⟩ hf hl kk
    by_cases hs34 : z = 34
    · refine z_tableIn (off := 1769) (tgt := 1812) C dL_law_43 (by omega) (by omega) (by omega) (by rw [hs34]; rfl) (by decide) ?_
      exact lk_34 hlq C Z Y G x ⟨h2, by omega⟩ hf hl kk
    by_cases hs35 : z = 35
    · refine z_tableIn (off := 1809) (tgt := 1852) C dL_law_43 (by omega) (by omega) (by omega) (by rw [hs35]; rfl) (by decide) ?_
      exact lk_35 hlq C Z Y G x ⟨h2, by omega⟩ hf hl kk
    by_cases hs36 : z = 36
    · refine z_tableIn (off := 1837) (tgt := 1880) C dL_law_43 (by omega) (by omega) (by omega) (by rw [hs36]; rfl) (by decide) ?_
      exact lk_36 hlq C Z Y G x ⟨h2, by omega⟩ hf hl kk
    by_cases hs37 : z = 37
    · refine z_tableIn (off := 1865) (tgt := 1908) C dL_law_43 (by omega) (by omega) (by omega) (by rw [hs37]; rfl) (by decide) ?_
      exact lk_37 hlq C Z Y G x ⟨h2, by omega⟩ hf hl kk
    by_cases hs38 : z = 38
    · refine z_tableIn (off := 1893) (tgt := 1936) C dL_law_43 (by omega) (by omega) (by omega) (by rw [hs38]; rfl) (by decide) ?_
      exact lk_38 hlq C Z Y G x ⟨h2, by omega⟩ hf hl kk
    by_cases hs39 : z = 39
    · refine z_tableIn (off := 1921) (tgt := 1964) C dL_law_43 (by omega) (by omega) (by omega) (by rw [hs39]; rfl) (by decide) ?_
      exact lk_39 hlq C Z Y G x ⟨h2, by omega⟩ hf hl kk
    by_cases hs40 : z = 40
    · refine z_tableIn (off := 1949) (tgt := 1992) C dL_law_43 (by omega) (by omega) (by omega) (by rw [hs40]; rfl) (by decide) ?_
      exact lk_40 hlq C Z Y G x ⟨h2, by omega⟩ hf hl kk
    by_cases hs41 : z = 41
    · refine z_tableIn (off := 1977) (tgt := 2020) C dL_law_43 (by omega) (by omega) (by omega) (by rw [hs41]; rfl) (by decide) ?_
      exact lk_41 hlq C Z Y G x ⟨h2, by omega⟩ hf hl kk
    by_cases hs42 : z = 42
    · refine z_tableIn (off := 2005) (tgt := 2048) C dL_law_43 (by omega) (by omega) (by omega) (by rw [hs42]; rfl) (by decide) ?_
      exact lk_42 hlq C Z Y G x ⟨h2, by omega⟩ hf hl kk
    by_cases hs43 : z = 43
    · refine z_tableIn (off := 2061) (tgt := 2104) C dL_law_43 (by omega) (by omega) (by omega) (by rw [hs43]; rfl) (by decide) ?_
      exact lk_43 hlq C Z Y G x ⟨h2, by omega⟩ hf hl kk
    by_cases hs44 : z = 44
    · refine z_tableIn (off := 2089) (tgt := 2132) C dL_law_43 (by omega) (by omega) (by omega) (by rw [hs44]; rfl) (by decide) ?_
      exact lk_44 hlq C Z Y G x ⟨h2, by omega⟩ hf hl kk
    by_cases hs45 : z = 45
    · refine z_tableIn (off := 2102) (tgt := 2145) C dL_law_43 (by omega) (by omega) (by omega) (by rw [hs45]; rfl) (by decide) ?_
      exact lk_45 hlq C Z Y G x ⟨h2, by omega⟩ hf hl kk
    by_cases hs46 : z = 46
    · refine z_tableIn (off := 2115) (tgt := 2158) C dL_law_43 (by omega) (by omega) (by omega) (by rw [hs46]; rfl) (by decide) ?_
      exact lk_46 hlq C Z Y G x ⟨h2, by omega⟩ hf hl kk
    refine z_tableOut (tgt := 2172) C dL_law_43 (by omega) (by omega) (by decide) ?_
    exact kk c ac re kn th n sv H locs ls cells slots G (by omega) (by omega) hl
theorem zdefX3 : ∀ j, j < 4 → defaultValue (tyX3 j) = vp_V [.null, .int 0, .int 0, .int 0] j := by
  intro j hj
  rcases (show j = 0 ∨ j = 1 ∨ j = 2 ∨ j = 3 by omega) with rfl | rfl | rfl | rfl <;> rfl
theorem zdefX5 : ∀ j, j < 5 → defaultValue (tyX5 j) = vp_V [.null, .int 0, .int 0, .int 0, .int 0] j := by
  intro j hj
  rcases (show j = 0 ∨ j = 1 ∨ j = 2 ∨ j = 3 ∨ j = 4 by omega) with rfl | rfl | rfl | rfl | rfl <;> rfl
theorem zdefX4 : ∀ j, j < 2 → defaultValue (tyX4 j) = vp_V [.long 0, .null] j := by
  intro j hj
  rcases (show j = 0 ∨ j = 1 by omega) with rfl | rfl <;> rfl
set_option maxHeartbeats 8000000 in
/-- the law's walk, from its entry -/
theorem lk_start (hlq : l.stackTraces = false) {b : Nat} (C : CallFix p m c0 cL_law 7 s args T0 RL) (Z : zLw D cB b N g s) (KJ : va_K D vwCl [(cJ, .long)] s) (K0 : va_K D vwCl [] s) (hN : va_Nw (Cond.methodLinkNest RL 170 yX4_init RL) s) {ls : Array Slot} (hl : lv_has ls 7 [(0, .ref b)])
    (kend : ∀ (H : Heap) (locs : List Loc) (ls : Array Slot) (cells slots : Nat), cells ≤ 665281 → slots ≤ 7105636 → va_S (zlA s) s.heap H locs → W p l e room_1 s m args below meth c0 H locs cells slots Qw (F0 m 2179 ls [.int (iZ 1)])) :
    W p l e room_1 s m args below meth c0 s.heap [] 0 0 Qw (F0 m 0 ls []) := by
  have hF : ∀ {q2 sz : Nat}, s.heap.size ≤ q2 → s.heap.size ≤ sz → ∀ q, zF1 q2 sz q → zlA s q := fun h1 h2 q h => by rcases h with h | h; exact h ▸ h1; exact Nat.le_trans h2 h
  refine za_new (A := zlA s) (ci := 2) C inX3 tyX3 tyX3_ok cl_L_8 it_X3 ini_X3 KJ va_S.rf rfl zdefX3 (Nat.le_of_ble_eq_true rfl) (Nat.le_of_ble_eq_true rfl) dL_law_0 (fun H1 hP1 S1 ho1 hz1 => ?_)
  refine lv_dup C.1 C.2.1 dL_law_3 rfl ?_
  refine zn_call (A := zlA s) (P := zI6 D cJ 2 [.null, .int 0, .int 0, .int 0]) (Q := zQ6 D cJ 2 [.int 0, .int 0, .int 0]) (F := zF1) C ⟨hP1, KJ⟩ S1 (hF (Nat.le_refl _) S1.1) (c_X3_init l D cJ) ml_L_166 ⟨Nat.le_of_ble_eq_true rfl, Nat.le_of_ble_eq_true rfl⟩ ⟨Nat.le_of_ble_eq_true rfl, Nat.le_of_ble_eq_true rfl⟩ hl (Nat.le_of_ble_eq_true rfl) rfl dL_law_4 (fun H2 locs2 hQ2 S2 hq2 hz2 => ?_)
  obtain ⟨a, hX, ha⟩ := hQ2
  refine lv_astore_n (lv' := [(1, .ref s.heap.size), (0, .ref b)]) C.1 C.2.1 dL_law_7 rfl hl (by decide) rfl (fun ls hl => ?_)
  have hXl := hX.lt
  refine za_new (A := zlA s) (ci := 4) C inX5 tyX5 tyX5_ok cl_L_167 it_X5 ini_X5 KJ S2 rfl zdefX5 (Nat.le_of_ble_eq_true rfl) (Nat.le_of_ble_eq_true rfl) dL_law_8 (fun H3 hP3 S3 ho3 hz3 => ?_)
  have hX := hX.kept (ho3 _ hXl.1) (ho3 _ hXl.2)
  refine lv_dup C.1 C.2.1 dL_law_11 rfl ?_
  refine zn_call (A := zlA s) (P := zI6 D cJ 4 [.null, .int 0, .int 0, .int 0, .int 0]) (Q := zQ6 D cJ 4 [.int 0, .int 0, .int 0, .int 0]) (F := zF1) C ⟨hP3, KJ⟩ S3 (hF S2.1 S3.1) (c_X5_init l D cJ) ml_L_169 ⟨Nat.le_of_ble_eq_true rfl, Nat.le_of_ble_eq_true rfl⟩ ⟨Nat.le_of_ble_eq_true rfl, Nat.le_of_ble_eq_true rfl⟩ hl (Nat.le_of_ble_eq_true rfl) rfl dL_law_12 (fun H4 locs4 hQ4 S4 hq4 hz4 => ?_)
  obtain ⟨v, hM, hv⟩ := hQ4
  have hX := hX.kept (hq4 _ (by omega) (fun h => by rcases h with h | h <;> omega)) (hq4 _ (by omega) (fun h => by rcases h with h | h <;> omega))
  refine lv_astore_n (lv' := [(2, .ref H2.size), (1, .ref s.heap.size), (0, .ref b)]) C.1 C.2.1 dL_law_15 rfl hl (by decide) rfl (fun ls hl => ?_)
  have hMl := hM.lt
  refine za_new (A := zlA s) (ci := 3) C inX4 tyX4 tyX4_ok cl_L_14 it_X4 ini_X4 K0 S4 rfl zdefX4 (Nat.le_of_ble_eq_true rfl) (Nat.le_of_ble_eq_true rfl) dL_law_16 (fun H5 hP5 S5 ho5 hz5 => ?_)
  have hX := hX.kept (ho5 _ (by omega)) (ho5 _ (by omega))
  have hM := hM.kept (ho5 _ hMl.1) (ho5 _ hMl.2)
  refine lv_dup C.1 C.2.1 dL_law_19 rfl ?_
  refine zn_callN (A := zlA s) (P := zI7 D) (Q2 := zQ7 D) (F := zF1) C ⟨hP5, K0⟩ S5 (hF S4.1 S5.1) (c_X4_init l D) hN ⟨Nat.le_of_ble_eq_true rfl, Nat.le_of_ble_eq_true rfl⟩ ⟨Nat.le_of_ble_eq_true rfl, Nat.le_of_ble_eq_true rfl⟩ hl (Nat.le_of_ble_eq_true rfl) rfl dL_law_20 (fun H6 locs6 hQ6 S6 hq6 hz6 => ?_)
  have hX := hX.kept (hq6 _ (by omega) (fun h => by rcases h with h | h <;> omega)) (hq6 _ (by omega) (fun h => by rcases h with h | h <;> omega))
  have hM := hM.kept (hq6 _ (by omega) (fun h => by rcases h with h | h <;> omega)) (hq6 _ (by omega) (fun h => by rcases h with h | h <;> omega))
  refine lv_astore_n (lv' := [(3, .ref H4.size), (2, .ref H2.size), (1, .ref s.heap.size), (0, .ref b)]) C.1 C.2.1 dL_law_23 rfl hl (by decide) rfl (fun ls hl => ?_)
  refine z_iconst C dL_law_24 ?_
  refine lv_istore (lv' := [(4, .int (iZ 0)), (3, .ref H4.size), (2, .ref H2.size), (1, .ref s.heap.size), (0, .ref b)]) C.1 C.2.1 dL_law_25 hl (by decide) rfl (fun ls hl => ?_)
  have h0 := S2.1
  have h1 := S4.1
  have Y : zAd s.heap.size a H2.size v H4.size s := ⟨⟨by omega, by omega⟩, ⟨by omega, by omega, by omega⟩, ⟨by omega, by omega, by omega⟩, by omega, by omega, by omega, by omega, by omega⟩
  refine lk_loop hlq C Z Y kend (N + 1) (fun _ => 0) 0 0 0 0 0 .null H6 locs6 ls _ _ 0 (by omega) (by omega) (by omega) (by decide) (by decide) ⟨hX, hM, hQ6, S6⟩ (lv_sub hl [4, 3, 2, 1, 0] rfl)
end LL
