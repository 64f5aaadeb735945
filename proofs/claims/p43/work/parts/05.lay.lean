/-! ===== numbers: iZ of whole numbers, lN of natural ones ===== -/
section ZA
def iZ (z : Int) : Int32 := Int32.ofInt z
def zB (b : Bool) : Int := if b = true then 1 else 0
theorem iZ_toInt {z : Int} (h : -2147483648 ≤ z ∧ z ≤ 2147483647) : (iZ z).toInt = z := Int32.toInt_ofInt_of_le (by omega) (by omega)
theorem iZ_of (x : Int32) : ∃ z : Int, (-2147483648 ≤ z ∧ z ≤ 2147483647) ∧ x = iZ z := by
  refine ⟨x.toInt, ⟨?_, ?_⟩, (Int32.ofInt_toInt x).symm⟩
  · have h := x.minValue_le_toInt
    have h2 : Int32.minValue.toInt = -2147483648 := by decide
    omega
  · have h := x.toInt_le
    have h2 : Int32.maxValue.toInt = 2147483647 := by decide
    omega
theorem iZ_add (a b : Int) : iZ a + iZ b = iZ (a + b) := (Int32.ofInt_add a b).symm
theorem iZ_sub (a b : Int) : iZ a - iZ b = iZ (a - b) := (Int32.ofInt_sub a b).symm
theorem iZ_mul (a b : Int) : iZ a * iZ b = iZ (a * b) := (Int32.ofInt_mul a b).symm
theorem iZ_neg (a : Int) : -iZ a = iZ (-a) := (Int32.ofInt_neg a).symm
theorem iZ_le {a b : Int} (ha : -2147483648 ≤ a ∧ a ≤ 2147483647) (hb : -2147483648 ≤ b ∧ b ≤ 2147483647) : iZ a ≤ iZ b ↔ a ≤ b := by
  rw [Int32.le_iff_toInt_le, iZ_toInt ha, iZ_toInt hb]
theorem iZ_lt {a b : Int} (ha : -2147483648 ≤ a ∧ a ≤ 2147483647) (hb : -2147483648 ≤ b ∧ b ≤ 2147483647) : iZ a < iZ b ↔ a < b := by
  rw [Int32.lt_iff_toInt_lt, iZ_toInt ha, iZ_toInt hb]
theorem iZ_eq {a b : Int} (ha : -2147483648 ≤ a ∧ a ≤ 2147483647) (hb : -2147483648 ≤ b ∧ b ≤ 2147483647) : iZ a = iZ b ↔ a = b := by
  rw [← Int32.toInt_inj, iZ_toInt ha, iZ_toInt hb]
theorem iZ_nI (n : Nat) : iZ (n : Int) = nI n := Int32.ofInt_eq_ofNat
theorem iZ_0 : (0 : Int32) = iZ 0 := by decide
theorem iZ_div {a b : Int} (ha : 0 ≤ a ∧ a ≤ 2147483647) (hb : 0 < b ∧ b ≤ 2147483647) : iZ a / iZ b = iZ (a / b) := by
  obtain ⟨n, rfl⟩ := Int.eq_ofNat_of_zero_le ha.1
  obtain ⟨k, rfl⟩ := Int.eq_ofNat_of_zero_le (Int.le_of_lt hb.1)
  rw [iZ_nI, iZ_nI, pk_div (by omega) (by omega) (by omega), ← iZ_nI, Int.natCast_ediv]
theorem iZ_rem {a b : Int} (ha : 0 ≤ a ∧ a ≤ 2147483647) (hb : 0 < b ∧ b ≤ 2147483647) : iZ a - iZ a / iZ b * iZ b = iZ (a % b) := by
  rw [iZ_div ha hb, iZ_mul, iZ_sub, Int.emod_def, Int.mul_comm b]
theorem iZ_clamp {z : Int} (h : 0 ≤ z ∧ z ≤ 2147483647) : (iZ z).toNatClampNeg = z.toNat := Int32.toNatClampNeg_ofInt_of_le (by omega) (by omega)
theorem iZ_in {z : Int} {n : Nat} (h : 0 ≤ z ∧ z < n) (hn : n < 2147483648) : vp_in (iZ z) n := by
  rw [vp_in_iff, iZ_toInt (by omega)]
  exact h
theorem lN_bv (n : Nat) : (lN n).toBitVec = BitVec.ofNat 64 n := rfl
theorem lN_xor (a b : Nat) : lN a ^^^ lN b = lN (a ^^^ b) := by
  apply Int64.toBitVec.inj
  rw [Int64.toBitVec_xor, lN_bv, lN_bv, lN_bv]
  apply BitVec.eq_of_getLsbD_eq
  intro i hi
  simp [BitVec.getLsbD_ofNat, Nat.testBit_xor, hi]
theorem lN_and (a b : Nat) : lN a &&& lN b = lN (a &&& b) := by
  apply Int64.toBitVec.inj
  rw [Int64.toBitVec_and, lN_bv, lN_bv, lN_bv]
  apply BitVec.eq_of_getLsbD_eq
  intro i hi
  simp [BitVec.getLsbD_ofNat, Nat.testBit_and, hi]
theorem lN_or (a b : Nat) : lN a ||| lN b = lN (a ||| b) := by
  apply Int64.toBitVec.inj
  rw [Int64.toBitVec_or, lN_bv, lN_bv, lN_bv]
  apply BitVec.eq_of_getLsbD_eq
  intro i hi
  simp [BitVec.getLsbD_ofNat, Nat.testBit_or, hi]
theorem lN_inj {a b : Nat} (ha : a < 18446744073709551616) (hb : b < 18446744073709551616) : lN a = lN b ↔ a = b := by
  refine ⟨fun h => ?_, fun h => by rw [h]⟩
  have h2 := congrArg (fun x : Int64 => x.toBitVec.toNat) h
  simp only [lN_bv, BitVec.toNat_ofNat] at h2
  omega
theorem lN_shl {n k : Nat} {z : Int} (hz : z = (k : Int)) (hk : k < 64) : lN n <<< ((iZ z).toInt64 &&& 63) = lN (n <<< k) := by
  subst hz
  have e : ((iZ (k : Int)).toInt64 &&& 63) = Int64.ofNat k := by
    rw [show iZ (k : Int) = nI k from iZ_nI k, show (nI k).toInt64 = lN k from nI_l (by omega)]
    rw [show (63 : Int64) = lN 63 from rfl, lN_and, show (63 : Nat) = 2 ^ 6 - 1 from rfl, Nat.and_two_pow_sub_one_eq_mod, Nat.mod_eq_of_lt (by omega)]
    rfl
  rw [e]
  apply Int64.toBitVec.inj
  rw [Int64.toBitVec_shiftLeft, lN_bv, lN_bv]
  have e2 : (((Int64.ofNat k).toBitVec.smod 64).toNat) = k := by
    have h3 : (Int64.ofNat k).toBitVec = BitVec.ofNat 64 k := rfl
    rw [h3]
    have h4 : ∀ j : Fin 64, ((BitVec.ofNat 64 j.val).smod 64).toNat = j.val := by decide +kernel
    exact h4 ⟨k, hk⟩
  rw [BitVec.shiftLeft_eq', e2]
  apply BitVec.eq_of_getLsbD_eq
  intro i hi
  simp only [BitVec.getLsbD_shiftLeft, BitVec.getLsbD_ofNat, Nat.testBit_shiftLeft, hi]
  by_cases h : i < k
  · simp [h]; omega
  · have h5 : k ≤ i := by omega
    simp [h, h5]; intro _; omega
theorem lN_shr {n k : Nat} {z : Int} (hn : n < 18446744073709551616) (hz : z = (k : Int)) (hk : k < 64) : ((lN n).toUInt64 >>> ((iZ z).toInt64.toUInt64 &&& Int64.toUInt64 63)).toInt64 = lN (n >>> k) := by
  subst hz
  have e : ((iZ (k : Int)).toInt64.toUInt64 &&& Int64.toUInt64 63) = UInt64.ofNat k := by
    rw [show iZ (k : Int) = nI k from iZ_nI k, show (nI k).toInt64 = lN k from nI_l (by omega)]
    have h4 : ∀ j : Fin 64, ((lN j.val).toUInt64 &&& Int64.toUInt64 63) = UInt64.ofNat j.val := by decide +kernel
    exact h4 ⟨k, hk⟩
  rw [e]
  apply Int64.toBitVec.inj
  show ((lN n).toUInt64 >>> UInt64.ofNat k).toBitVec = BitVec.ofNat 64 (n >>> k)
  apply BitVec.eq_of_toNat_eq
  have h5 : (lN n).toUInt64.toNat = n := by
    show (BitVec.ofNat 64 n).toNat = n
    rw [BitVec.toNat_ofNat]; omega
  have h6 : (UInt64.ofNat k).toNat = k := by
    show (BitVec.ofNat 64 k).toNat = k
    rw [BitVec.toNat_ofNat]; omega
  have h7 : ((lN n).toUInt64 >>> UInt64.ofNat k).toNat = n >>> k := by
    rw [UInt64.toNat_shiftRight, h5, h6, Nat.mod_eq_of_lt hk]
  have h8 : n >>> k ≤ n := Nat.shiftRight_le n k
  rw [BitVec.toNat_ofNat, Nat.mod_eq_of_lt (by omega)]
  exact h7
theorem lN_lt63 {a b : Nat} (ha : a < 9223372036854775808) (hb : b < 9223372036854775808) : lN a < lN b ↔ a < b := pk_lLT (by omega) (by omega)
end ZA
/-! ===== rows over such numbers ===== -/
section ZR
variable {p : Program} {l : Launch} {e : Env} {R : Room} {s : State} {m : MethodId} {args : Array Value} {below : List Frame} {meth : Method} {c : Code} {H : Heap} {locs : List Loc} {cells slots : Nat} {Q : State → Prop}
variable {cc : ByteArray} {pc nL : Nat} {ls : Array Slot} {rest : List Value} {Ts : List Cond} {own : String}
theorem z_iconst (C : CallFix p m c cc nL s args Ts own) {n : Int} (d : decode cc pc = .ok (.iconst n, 1)) (k : W p l e R s m args below meth c H locs cells slots Q (F0 m (pc + 1) ls (.int (iZ n) :: rest))) : W p l e R s m args below meth c H locs cells slots Q (F0 m pc ls rest) := lv_iconst C.1 C.2.1 d rfl k
theorem z_bipush (C : CallFix p m c cc nL s args Ts own) {n : Int} (d : decode cc pc = .ok (.bipush n, 2)) (hv : (Int8.ofInt n).toInt32 = iZ n) (k : W p l e R s m args below meth c H locs cells slots Q (F0 m (pc + 2) ls (.int (iZ n) :: rest))) : W p l e R s m args below meth c H locs cells slots Q (F0 m pc ls rest) := lv_bipush C.1 C.2.1 d hv k
theorem z_sipush (C : CallFix p m c cc nL s args Ts own) {n : Int} (d : decode cc pc = .ok (.sipush n, 3)) (hv : (Int16.ofInt n).toInt32 = iZ n) (k : W p l e R s m args below meth c H locs cells slots Q (F0 m (pc + 3) ls (.int (iZ n) :: rest))) : W p l e R s m args below meth c H locs cells slots Q (F0 m pc ls rest) := lv_sipush C.1 C.2.1 d hv k
theorem z_lconst (C : CallFix p m c cc nL s args Ts own) {n : Fin 2} {k0 : Nat} (d : decode cc pc = .ok (.lconst n, 1)) (hk : (n : Nat) = k0) (k : W p l e R s m args below meth c H locs cells slots Q (F0 m (pc + 1) ls (.long (lN k0) :: rest))) : W p l e R s m args below meth c H locs cells slots Q (F0 m pc ls rest) := lv_lconst C.1 C.2.1 d (by rw [hk]; rfl) k
theorem z_ldc2 (C : CallFix p m c cc nL s args Ts own) {index : Nat} {v : Int64} (n : Nat) (hm : Jvm.Cond.constantLong own index v ∈ Ts) (hn : v = lN n) (d : decode cc pc = .ok (.ldc2_w index, 3)) (k : W p l e R s m args below meth c H locs cells slots Q (F0 m (pc + 3) ls (.long (lN n) :: rest))) : W p l e R s m args below meth c H locs cells slots Q (F0 m pc ls rest) := lv_ldc2 C.1 C.2.1 C.2.2.2.1 (C.2.2.2.2 _ hm) d (by rw [hn]; exact k)
theorem z_iadd (C : CallFix p m c cc nL s args Ts own) {a b : Int} (d : decode cc pc = .ok (.iadd, 1)) (k : W p l e R s m args below meth c H locs cells slots Q (F0 m (pc + 1) ls (.int (iZ (a + b)) :: rest))) : W p l e R s m args below meth c H locs cells slots Q (F0 m pc ls (.int (iZ b) :: .int (iZ a) :: rest)) := lv_iadd C.1 C.2.1 d (by rw [iZ_add]; exact k)
theorem z_isub (C : CallFix p m c cc nL s args Ts own) {a b : Int} (d : decode cc pc = .ok (.isub, 1)) (k : W p l e R s m args below meth c H locs cells slots Q (F0 m (pc + 1) ls (.int (iZ (a - b)) :: rest))) : W p l e R s m args below meth c H locs cells slots Q (F0 m pc ls (.int (iZ b) :: .int (iZ a) :: rest)) := lv_isub C.1 C.2.1 d (by rw [iZ_sub]; exact k)
theorem z_imul (C : CallFix p m c cc nL s args Ts own) {a b : Int} (d : decode cc pc = .ok (.imul, 1)) (k : W p l e R s m args below meth c H locs cells slots Q (F0 m (pc + 1) ls (.int (iZ (a * b)) :: rest))) : W p l e R s m args below meth c H locs cells slots Q (F0 m pc ls (.int (iZ b) :: .int (iZ a) :: rest)) := lv_imul C.1 C.2.1 d (by rw [iZ_mul]; exact k)
theorem z_ineg (C : CallFix p m c cc nL s args Ts own) {a : Int} (d : decode cc pc = .ok (.ineg, 1)) (k : W p l e R s m args below meth c H locs cells slots Q (F0 m (pc + 1) ls (.int (iZ (-a)) :: rest))) : W p l e R s m args below meth c H locs cells slots Q (F0 m pc ls (.int (iZ a) :: rest)) := lv_ineg C.1 C.2.1 d (by rw [iZ_neg]; exact k)
theorem z_idiv (C : CallFix p m c cc nL s args Ts own) {a b : Int} (ha : 0 ≤ a ∧ a ≤ 2147483647) (hb : 0 < b ∧ b ≤ 2147483647) (d : decode cc pc = .ok (.idiv, 1)) (k : W p l e R s m args below meth c H locs cells slots Q (F0 m (pc + 1) ls (.int (iZ (a / b)) :: rest))) : W p l e R s m args below meth c H locs cells slots Q (F0 m pc ls (.int (iZ b) :: .int (iZ a) :: rest)) := lv_idiv C.1 C.2.1 d (by rw [iZ_0, iZ_eq (by omega) (by omega)]; omega) (by rw [iZ_div ha hb]; exact k)
theorem z_irem (C : CallFix p m c cc nL s args Ts own) {a b : Int} (ha : 0 ≤ a ∧ a ≤ 2147483647) (hb : 0 < b ∧ b ≤ 2147483647) (d : decode cc pc = .ok (.irem, 1)) (k : W p l e R s m args below meth c H locs cells slots Q (F0 m (pc + 1) ls (.int (iZ (a % b)) :: rest))) : W p l e R s m args below meth c H locs cells slots Q (F0 m pc ls (.int (iZ b) :: .int (iZ a) :: rest)) := lv_irem C.1 C.2.1 d (by rw [iZ_0, iZ_eq (by omega) (by omega)]; omega) (by rw [iZ_rem ha hb]; exact k)
theorem z_iinc (C : CallFix p m c cc nL s args Ts own) {i j : Nat} {n a : Int} {lv lv' : List (Nat × Value)} (d : decode cc pc = .ok (.iinc i n, 3)) (h : lv_has ls nL lv) (hk : lv[j]? = some (i, .int (iZ a))) (hn : i < nL) (hl : (i, Value.int (iZ (a + n))) :: lv.filter (fun q => !(q.1 == i) && !(q.1 + 1 == i && q.2.category == 2)) = lv') (k : ∀ ls, lv_has ls nL lv' → W p l e R s m args below meth c H locs cells slots Q (F0 m (pc + 3) ls rest)) : W p l e R s m args below meth c H locs cells slots Q (F0 m pc ls rest) := lv_iinc C.1 C.2.1 d h hk (iZ_add a n) hn hl k
theorem z_lxor (C : CallFix p m c cc nL s args Ts own) {a b : Nat} (d : decode cc pc = .ok (.lxor, 1)) (k : W p l e R s m args below meth c H locs cells slots Q (F0 m (pc + 1) ls (.long (lN (a ^^^ b)) :: rest))) : W p l e R s m args below meth c H locs cells slots Q (F0 m pc ls (.long (lN b) :: .long (lN a) :: rest)) := lv_lxor C.1 C.2.1 d (by rw [lN_xor]; exact k)
theorem z_land (C : CallFix p m c cc nL s args Ts own) {a b : Nat} (d : decode cc pc = .ok (.land, 1)) (k : W p l e R s m args below meth c H locs cells slots Q (F0 m (pc + 1) ls (.long (lN (a &&& b)) :: rest))) : W p l e R s m args below meth c H locs cells slots Q (F0 m pc ls (.long (lN b) :: .long (lN a) :: rest)) := lv_land C.1 C.2.1 d (by rw [lN_and]; exact k)
theorem z_lor (C : CallFix p m c cc nL s args Ts own) {a b : Nat} (d : decode cc pc = .ok (.lor, 1)) (k : W p l e R s m args below meth c H locs cells slots Q (F0 m (pc + 1) ls (.long (lN (a ||| b)) :: rest))) : W p l e R s m args below meth c H locs cells slots Q (F0 m pc ls (.long (lN b) :: .long (lN a) :: rest)) := lv_lor C.1 C.2.1 d (by rw [lN_or]; exact k)
theorem z_ladd (C : CallFix p m c cc nL s args Ts own) {a b : Nat} (d : decode cc pc = .ok (.ladd, 1)) (k : W p l e R s m args below meth c H locs cells slots Q (F0 m (pc + 1) ls (.long (lN (a + b)) :: rest))) : W p l e R s m args below meth c H locs cells slots Q (F0 m pc ls (.long (lN b) :: .long (lN a) :: rest)) := lv_ladd C.1 C.2.1 d (by rw [lN_add]; exact k)
theorem z_lmul (C : CallFix p m c cc nL s args Ts own) {a b : Nat} (d : decode cc pc = .ok (.lmul, 1)) (k : W p l e R s m args below meth c H locs cells slots Q (F0 m (pc + 1) ls (.long (lN (a * b)) :: rest))) : W p l e R s m args below meth c H locs cells slots Q (F0 m pc ls (.long (lN b) :: .long (lN a) :: rest)) := lv_lmul C.1 C.2.1 d (by rw [lN_mul]; exact k)
theorem z_ldiv (C : CallFix p m c cc nL s args Ts own) {a b : Nat} (ha : a < 9223372036854775808) (hb : 0 < b ∧ b < 9223372036854775808) (d : decode cc pc = .ok (.ldiv, 1)) (k : W p l e R s m args below meth c H locs cells slots Q (F0 m (pc + 1) ls (.long (lN (a / b)) :: rest))) : W p l e R s m args below meth c H locs cells slots Q (F0 m pc ls (.long (lN b) :: .long (lN a) :: rest)) := lv_ldiv C.1 C.2.1 d (by rw [show (0 : Int64) = lN 0 from rfl, lN_inj (by omega) (by omega)]; omega) (by rw [pk_lDiv ha hb.1 hb.2]; exact k)
theorem z_lrem (C : CallFix p m c cc nL s args Ts own) {a b : Nat} (ha : a < 9223372036854775808) (hb : 0 < b ∧ b < 9223372036854775808) (d : decode cc pc = .ok (.lrem, 1)) (k : W p l e R s m args below meth c H locs cells slots Q (F0 m (pc + 1) ls (.long (lN (a % b)) :: rest))) : W p l e R s m args below meth c H locs cells slots Q (F0 m pc ls (.long (lN b) :: .long (lN a) :: rest)) := lv_lrem C.1 C.2.1 d (by rw [show (0 : Int64) = lN 0 from rfl, lN_inj (by omega) (by omega)]; omega) (by rw [pk_lRem ha hb.1 hb.2]; exact k)
theorem z_lshl (C : CallFix p m c cc nL s args Ts own) {n : Nat} {z : Int} (j : Nat) (hz : z = (j : Int)) (hj : j < 64) (d : decode cc pc = .ok (.lshl, 1)) (k : W p l e R s m args below meth c H locs cells slots Q (F0 m (pc + 1) ls (.long (lN (n <<< j)) :: rest))) : W p l e R s m args below meth c H locs cells slots Q (F0 m pc ls (.int (iZ z) :: .long (lN n) :: rest)) := lv_lshl C.1 C.2.1 d (lN_shl hz hj) k
theorem z_lushr (C : CallFix p m c cc nL s args Ts own) {n : Nat} {z : Int} (j : Nat) (hn : n < 18446744073709551616) (hz : z = (j : Int)) (hj : j < 64) (d : decode cc pc = .ok (.lushr, 1)) (k : W p l e R s m args below meth c H locs cells slots Q (F0 m (pc + 1) ls (.long (lN (n >>> j)) :: rest))) : W p l e R s m args below meth c H locs cells slots Q (F0 m pc ls (.int (iZ z) :: .long (lN n) :: rest)) := lv_lushr C.1 C.2.1 d (lN_shr hn hz hj) k
theorem z_i2l (C : CallFix p m c cc nL s args Ts own) {z : Int} (j : Nat) (hz : z = (j : Int)) (hj : j < 2147483648) (d : decode cc pc = .ok (.i2l, 1)) (k : W p l e R s m args below meth c H locs cells slots Q (F0 m (pc + 1) ls (.long (lN j) :: rest))) : W p l e R s m args below meth c H locs cells slots Q (F0 m pc ls (.int (iZ z) :: rest)) := lv_i2l C.1 C.2.1 d (by rw [hz, iZ_nI]; exact nI_l (by omega)) k
theorem i2l_any {z : Int} (hz : -2147483648 ≤ z ∧ z ≤ 2147483647) : (iZ z).toInt64 = lN (z % 18446744073709551616).toNat := by
  apply Int64.toInt_inj.mp
  have h1 : (iZ z).toInt64.toInt = z := by rw [Int32.toInt_toInt64, iZ_toInt hz]
  rw [h1]
  show z = (Int64.ofNat _).toInt
  rw [Int64.toInt_ofNat', show Int64.size = 18446744073709551616 from rfl, Int.bmod_def]
  omega
theorem z_i2lA (C : CallFix p m c cc nL s args Ts own) {z : Int} (hz : -2147483648 ≤ z ∧ z ≤ 2147483647) (d : decode cc pc = .ok (.i2l, 1)) (k : W p l e R s m args below meth c H locs cells slots Q (F0 m (pc + 1) ls (.long (lN (z % 18446744073709551616).toNat) :: rest))) : W p l e R s m args below meth c H locs cells slots Q (F0 m pc ls (.int (iZ z) :: rest)) := lv_i2l C.1 C.2.1 d (i2l_any hz) k
theorem z_l2i (C : CallFix p m c cc nL s args Ts own) {n : Nat} (d : decode cc pc = .ok (.l2i, 1)) (k : W p l e R s m args below meth c H locs cells slots Q (F0 m (pc + 1) ls (.int (iZ (n : Int)) :: rest))) : W p l e R s m args below meth c H locs cells slots Q (F0 m pc ls (.long (lN n) :: rest)) := lv_l2i C.1 C.2.1 d (by rw [iZ_nI]; exact lN_i n) k
-- branches
theorem z_if_eq (C : CallFix p m c cc nL s args Ts own) {z : Int} {off : Int} {tgt : Nat} (hz : -2147483648 ≤ z ∧ z ≤ 2147483647) (d : decode cc pc = .ok (.ifCond .eq off, 3)) (ht : (pc : Int) + off = (tgt : Int)) (kt : z = 0 → W p l e R s m args below meth c H locs cells slots Q (F0 m tgt ls rest)) (kf : ¬ z = 0 → W p l e R s m args below meth c H locs cells slots Q (F0 m (pc + 3) ls rest)) : W p l e R s m args below meth c H locs cells slots Q (F0 m pc ls (.int (iZ z) :: rest)) := lv_if_eq C.1 C.2.1 d ht (fun h => kt ((iZ_eq hz (by omega)).mp h)) (fun h => kf (fun g => h ((iZ_eq hz (by omega)).mpr g)))
theorem z_if_ne (C : CallFix p m c cc nL s args Ts own) {z : Int} {off : Int} {tgt : Nat} (hz : -2147483648 ≤ z ∧ z ≤ 2147483647) (d : decode cc pc = .ok (.ifCond .ne off, 3)) (ht : (pc : Int) + off = (tgt : Int)) (kt : ¬ z = 0 → W p l e R s m args below meth c H locs cells slots Q (F0 m tgt ls rest)) (kf : z = 0 → W p l e R s m args below meth c H locs cells slots Q (F0 m (pc + 3) ls rest)) : W p l e R s m args below meth c H locs cells slots Q (F0 m pc ls (.int (iZ z) :: rest)) := lv_if_ne C.1 C.2.1 d ht (fun h => kt (fun g => h ((iZ_eq hz (by omega)).mpr g))) (fun h => kf ((iZ_eq hz (by omega)).mp h))
theorem z_if_lt (C : CallFix p m c cc nL s args Ts own) {z : Int} {off : Int} {tgt : Nat} (hz : -2147483648 ≤ z ∧ z ≤ 2147483647) (d : decode cc pc = .ok (.ifCond .lt off, 3)) (ht : (pc : Int) + off = (tgt : Int)) (kt : z < 0 → W p l e R s m args below meth c H locs cells slots Q (F0 m tgt ls rest)) (kf : 0 ≤ z → W p l e R s m args below meth c H locs cells slots Q (F0 m (pc + 3) ls rest)) : W p l e R s m args below meth c H locs cells slots Q (F0 m pc ls (.int (iZ z) :: rest)) := lv_if_lt C.1 C.2.1 d ht (fun h => kt ((iZ_lt hz (by omega)).mp h)) (fun h => kf (by have := (not_congr (iZ_lt (b := 0) hz (by omega))).mp h; omega))
theorem z_if_ge (C : CallFix p m c cc nL s args Ts own) {z : Int} {off : Int} {tgt : Nat} (hz : -2147483648 ≤ z ∧ z ≤ 2147483647) (d : decode cc pc = .ok (.ifCond .ge off, 3)) (ht : (pc : Int) + off = (tgt : Int)) (kt : 0 ≤ z → W p l e R s m args below meth c H locs cells slots Q (F0 m tgt ls rest)) (kf : z < 0 → W p l e R s m args below meth c H locs cells slots Q (F0 m (pc + 3) ls rest)) : W p l e R s m args below meth c H locs cells slots Q (F0 m pc ls (.int (iZ z) :: rest)) := lv_if_ge C.1 C.2.1 d ht (fun h => kt ((iZ_le (by omega) hz).mp h)) (fun h => kf (by have := (not_congr (iZ_le (a := 0) (by omega) hz)).mp h; omega))
theorem z_if_gt (C : CallFix p m c cc nL s args Ts own) {z : Int} {off : Int} {tgt : Nat} (hz : -2147483648 ≤ z ∧ z ≤ 2147483647) (d : decode cc pc = .ok (.ifCond .gt off, 3)) (ht : (pc : Int) + off = (tgt : Int)) (kt : 0 < z → W p l e R s m args below meth c H locs cells slots Q (F0 m tgt ls rest)) (kf : z ≤ 0 → W p l e R s m args below meth c H locs cells slots Q (F0 m (pc + 3) ls rest)) : W p l e R s m args below meth c H locs cells slots Q (F0 m pc ls (.int (iZ z) :: rest)) := lv_if_gt C.1 C.2.1 d ht (fun h => kt ((iZ_lt (by omega) hz).mp h)) (fun h => kf (by have := (not_congr (iZ_lt (a := 0) (by omega) hz)).mp h; omega))
theorem z_if_le (C : CallFix p m c cc nL s args Ts own) {z : Int} {off : Int} {tgt : Nat} (hz : -2147483648 ≤ z ∧ z ≤ 2147483647) (d : decode cc pc = .ok (.ifCond .le off, 3)) (ht : (pc : Int) + off = (tgt : Int)) (kt : z ≤ 0 → W p l e R s m args below meth c H locs cells slots Q (F0 m tgt ls rest)) (kf : 0 < z → W p l e R s m args below meth c H locs cells slots Q (F0 m (pc + 3) ls rest)) : W p l e R s m args below meth c H locs cells slots Q (F0 m pc ls (.int (iZ z) :: rest)) := lv_if_le C.1 C.2.1 d ht (fun h => kt ((iZ_le hz (by omega)).mp h)) (fun h => kf (by have := (not_congr (iZ_le (b := 0) hz (by omega))).mp h; omega))
theorem z_ifB_eq (C : CallFix p m c cc nL s args Ts own) {b : Bool} {off : Int} {tgt : Nat} (d : decode cc pc = .ok (.ifCond .eq off, 3)) (ht : (pc : Int) + off = (tgt : Int)) (kt : b = false → W p l e R s m args below meth c H locs cells slots Q (F0 m tgt ls rest)) (kf : b = true → W p l e R s m args below meth c H locs cells slots Q (F0 m (pc + 3) ls rest)) : W p l e R s m args below meth c H locs cells slots Q (F0 m pc ls (.int (iZ (zB b)) :: rest)) := lv_if_eq C.1 C.2.1 d ht (fun h => kt (by cases b; rfl; exact absurd h (by decide))) (fun h => kf (by cases b; exact absurd rfl h; rfl))
theorem z_ifB_ne (C : CallFix p m c cc nL s args Ts own) {b : Bool} {off : Int} {tgt : Nat} (d : decode cc pc = .ok (.ifCond .ne off, 3)) (ht : (pc : Int) + off = (tgt : Int)) (kt : b = true → W p l e R s m args below meth c H locs cells slots Q (F0 m tgt ls rest)) (kf : b = false → W p l e R s m args below meth c H locs cells slots Q (F0 m (pc + 3) ls rest)) : W p l e R s m args below meth c H locs cells slots Q (F0 m pc ls (.int (iZ (zB b)) :: rest)) := lv_if_ne C.1 C.2.1 d ht (fun h => kt (by cases b; exact absurd rfl h; rfl)) (fun h => kf (by cases b with | false => rfl | true => exact absurd h (by decide)))
theorem z_icmp_eq (C : CallFix p m c cc nL s args Ts own) {a b : Int} {off : Int} {tgt : Nat} (ha : -2147483648 ≤ a ∧ a ≤ 2147483647) (hb : -2147483648 ≤ b ∧ b ≤ 2147483647) (d : decode cc pc = .ok (.if_icmp .eq off, 3)) (ht : (pc : Int) + off = (tgt : Int)) (kt : a = b → W p l e R s m args below meth c H locs cells slots Q (F0 m tgt ls rest)) (kf : ¬ a = b → W p l e R s m args below meth c H locs cells slots Q (F0 m (pc + 3) ls rest)) : W p l e R s m args below meth c H locs cells slots Q (F0 m pc ls (.int (iZ b) :: .int (iZ a) :: rest)) := lv_icmp_eq C.1 C.2.1 d ht (fun h => kt ((iZ_eq ha hb).mp h)) (fun h => kf (fun g => h ((iZ_eq ha hb).mpr g)))
theorem z_icmp_ne (C : CallFix p m c cc nL s args Ts own) {a b : Int} {off : Int} {tgt : Nat} (ha : -2147483648 ≤ a ∧ a ≤ 2147483647) (hb : -2147483648 ≤ b ∧ b ≤ 2147483647) (d : decode cc pc = .ok (.if_icmp .ne off, 3)) (ht : (pc : Int) + off = (tgt : Int)) (kt : ¬ a = b → W p l e R s m args below meth c H locs cells slots Q (F0 m tgt ls rest)) (kf : a = b → W p l e R s m args below meth c H locs cells slots Q (F0 m (pc + 3) ls rest)) : W p l e R s m args below meth c H locs cells slots Q (F0 m pc ls (.int (iZ b) :: .int (iZ a) :: rest)) := lv_icmp_ne C.1 C.2.1 d ht (fun h => kt (fun g => h ((iZ_eq ha hb).mpr g))) (fun h => kf ((iZ_eq ha hb).mp h))
theorem z_icmp_lt (C : CallFix p m c cc nL s args Ts own) {a b : Int} {off : Int} {tgt : Nat} (ha : -2147483648 ≤ a ∧ a ≤ 2147483647) (hb : -2147483648 ≤ b ∧ b ≤ 2147483647) (d : decode cc pc = .ok (.if_icmp .lt off, 3)) (ht : (pc : Int) + off = (tgt : Int)) (kt : a < b → W p l e R s m args below meth c H locs cells slots Q (F0 m tgt ls rest)) (kf : b ≤ a → W p l e R s m args below meth c H locs cells slots Q (F0 m (pc + 3) ls rest)) : W p l e R s m args below meth c H locs cells slots Q (F0 m pc ls (.int (iZ b) :: .int (iZ a) :: rest)) := lv_icmp_lt C.1 C.2.1 d ht (fun h => kt ((iZ_lt ha hb).mp h)) (fun h => kf (Int.not_lt.mp ((not_congr (iZ_lt ha hb)).mp h)))
theorem z_icmp_ge (C : CallFix p m c cc nL s args Ts own) {a b : Int} {off : Int} {tgt : Nat} (ha : -2147483648 ≤ a ∧ a ≤ 2147483647) (hb : -2147483648 ≤ b ∧ b ≤ 2147483647) (d : decode cc pc = .ok (.if_icmp .ge off, 3)) (ht : (pc : Int) + off = (tgt : Int)) (kt : b ≤ a → W p l e R s m args below meth c H locs cells slots Q (F0 m tgt ls rest)) (kf : a < b → W p l e R s m args below meth c H locs cells slots Q (F0 m (pc + 3) ls rest)) : W p l e R s m args below meth c H locs cells slots Q (F0 m pc ls (.int (iZ b) :: .int (iZ a) :: rest)) := lv_icmp_ge C.1 C.2.1 d ht (fun h => kt ((iZ_le hb ha).mp h)) (fun h => kf (Int.not_le.mp ((not_congr (iZ_le hb ha)).mp h)))
theorem z_icmp_gt (C : CallFix p m c cc nL s args Ts own) {a b : Int} {off : Int} {tgt : Nat} (ha : -2147483648 ≤ a ∧ a ≤ 2147483647) (hb : -2147483648 ≤ b ∧ b ≤ 2147483647) (d : decode cc pc = .ok (.if_icmp .gt off, 3)) (ht : (pc : Int) + off = (tgt : Int)) (kt : b < a → W p l e R s m args below meth c H locs cells slots Q (F0 m tgt ls rest)) (kf : a ≤ b → W p l e R s m args below meth c H locs cells slots Q (F0 m (pc + 3) ls rest)) : W p l e R s m args below meth c H locs cells slots Q (F0 m pc ls (.int (iZ b) :: .int (iZ a) :: rest)) := lv_icmp_gt C.1 C.2.1 d ht (fun h => kt ((iZ_lt hb ha).mp h)) (fun h => kf (Int.not_lt.mp ((not_congr (iZ_lt hb ha)).mp h)))
theorem z_icmp_le (C : CallFix p m c cc nL s args Ts own) {a b : Int} {off : Int} {tgt : Nat} (ha : -2147483648 ≤ a ∧ a ≤ 2147483647) (hb : -2147483648 ≤ b ∧ b ≤ 2147483647) (d : decode cc pc = .ok (.if_icmp .le off, 3)) (ht : (pc : Int) + off = (tgt : Int)) (kt : a ≤ b → W p l e R s m args below meth c H locs cells slots Q (F0 m tgt ls rest)) (kf : b < a → W p l e R s m args below meth c H locs cells slots Q (F0 m (pc + 3) ls rest)) : W p l e R s m args below meth c H locs cells slots Q (F0 m pc ls (.int (iZ b) :: .int (iZ a) :: rest)) := lv_icmp_le C.1 C.2.1 d ht (fun h => kt ((iZ_le ha hb).mp h)) (fun h => kf (Int.not_le.mp ((not_congr (iZ_le ha hb)).mp h)))
theorem lN_cmp0 {a b : Nat} (ha : a < 18446744073709551616) (hb : b < 18446744073709551616) : lg_cmp (lN a) (lN b) = 0 ↔ a = b := by
  rw [← lN_inj ha hb]
  unfold lg_cmp
  split
  · rename_i h
    refine ⟨fun h2 => absurd h2 (by decide), fun h2 => ?_⟩
    rw [h2] at h
    exact absurd h (Int64.lt_irrefl)
  · split
    · rename_i h
      exact ⟨fun _ => h, fun _ => rfl⟩
    · rename_i h
      exact ⟨fun h2 => absurd h2 (by decide), fun h2 => absurd h2 h⟩
theorem lN_cmp {a b : Nat} (ha : a < 9223372036854775808) (hb : b < 9223372036854775808) : lg_cmp (lN a) (lN b) = iZ (if b < a then 1 else if a = b then 0 else -1) := by
  unfold lg_cmp
  by_cases h : b < a
  · rw [if_pos ((lN_lt63 hb ha).mpr h), if_pos h]
    rfl
  · rw [if_neg (fun h2 => h ((lN_lt63 hb ha).mp h2)), if_neg h]
    by_cases h3 : a = b
    · rw [if_pos (by rw [h3]), if_pos h3]
      rfl
    · rw [if_neg (fun h2 => h3 ((lN_inj (by omega) (by omega)).mp h2)), if_neg h3]
      rfl
theorem z_lc_eq (C : CallFix p m c cc nL s args Ts own) {a b : Nat} {off : Int} {tgt : Nat} (ha : a < 18446744073709551616) (hb : b < 18446744073709551616) (d1 : decode cc pc = .ok (.lcmp, 1)) (d : decode cc (pc + 1) = .ok (.ifCond .eq off, 3)) (ht : ((pc + 1 : Nat) : Int) + off = (tgt : Int)) (kt : a = b → W p l e R s m args below meth c H locs cells slots Q (F0 m tgt ls rest)) (kf : ¬ a = b → W p l e R s m args below meth c H locs cells slots Q (F0 m (pc + 4) ls rest)) : W p l e R s m args below meth c H locs cells slots Q (F0 m pc ls (.long (lN b) :: .long (lN a) :: rest)) := by
  refine W.lcmp C.1 C.2.1 d1 ?_
  refine lv_if_eq C.1 C.2.1 d ht (fun h => kt ?_) (fun h => kf ?_)
  · have h2 := (lN_cmp0 ha hb).mp h
    exact h2
  · have h2 := (not_congr (lN_cmp0 ha hb)).mp h
    exact h2
theorem z_lc_ne (C : CallFix p m c cc nL s args Ts own) {a b : Nat} {off : Int} {tgt : Nat} (ha : a < 18446744073709551616) (hb : b < 18446744073709551616) (d1 : decode cc pc = .ok (.lcmp, 1)) (d : decode cc (pc + 1) = .ok (.ifCond .ne off, 3)) (ht : ((pc + 1 : Nat) : Int) + off = (tgt : Int)) (kt : ¬ a = b → W p l e R s m args below meth c H locs cells slots Q (F0 m tgt ls rest)) (kf : a = b → W p l e R s m args below meth c H locs cells slots Q (F0 m (pc + 4) ls rest)) : W p l e R s m args below meth c H locs cells slots Q (F0 m pc ls (.long (lN b) :: .long (lN a) :: rest)) := by
  refine W.lcmp C.1 C.2.1 d1 ?_
  refine lv_if_ne C.1 C.2.1 d ht (fun h => kt ?_) (fun h => kf ?_)
  · have h2 := (not_congr (lN_cmp0 ha hb)).mp h
    exact h2
  · have h2 := (lN_cmp0 ha hb).mp h
    exact h2
theorem z_lc_lt (C : CallFix p m c cc nL s args Ts own) {a b : Nat} {off : Int} {tgt : Nat} (ha : a < 9223372036854775808) (hb : b < 9223372036854775808) (d1 : decode cc pc = .ok (.lcmp, 1)) (d : decode cc (pc + 1) = .ok (.ifCond .lt off, 3)) (ht : ((pc + 1 : Nat) : Int) + off = (tgt : Int)) (kt : a < b → W p l e R s m args below meth c H locs cells slots Q (F0 m tgt ls rest)) (kf : b ≤ a → W p l e R s m args below meth c H locs cells slots Q (F0 m (pc + 4) ls rest)) : W p l e R s m args below meth c H locs cells slots Q (F0 m pc ls (.long (lN b) :: .long (lN a) :: rest)) := by
  refine W.lcmp C.1 C.2.1 d1 ?_
  have e : lg_cmp (lN a) (lN b) = iZ (if b < a then 1 else if a = b then 0 else -1) := lN_cmp ha hb
  rw [e]
  refine z_if_lt C (by split <;> first | omega | (split <;> omega)) d ht (fun h => kt ?_) (fun h => kf ?_)
  · split at h
    · omega
    · split at h <;> omega
  · split at h
    · omega
    · split at h <;> omega
theorem z_lc_ge (C : CallFix p m c cc nL s args Ts own) {a b : Nat} {off : Int} {tgt : Nat} (ha : a < 9223372036854775808) (hb : b < 9223372036854775808) (d1 : decode cc pc = .ok (.lcmp, 1)) (d : decode cc (pc + 1) = .ok (.ifCond .ge off, 3)) (ht : ((pc + 1 : Nat) : Int) + off = (tgt : Int)) (kt : b ≤ a → W p l e R s m args below meth c H locs cells slots Q (F0 m tgt ls rest)) (kf : a < b → W p l e R s m args below meth c H locs cells slots Q (F0 m (pc + 4) ls rest)) : W p l e R s m args below meth c H locs cells slots Q (F0 m pc ls (.long (lN b) :: .long (lN a) :: rest)) := by
  refine W.lcmp C.1 C.2.1 d1 ?_
  have e : lg_cmp (lN a) (lN b) = iZ (if b < a then 1 else if a = b then 0 else -1) := lN_cmp ha hb
  rw [e]
  refine z_if_ge C (by split <;> first | omega | (split <;> omega)) d ht (fun h => kt ?_) (fun h => kf ?_)
  · split at h
    · omega
    · split at h <;> omega
  · split at h
    · omega
    · split at h <;> omega
theorem z_lc_gt (C : CallFix p m c cc nL s args Ts own) {a b : Nat} {off : Int} {tgt : Nat} (ha : a < 9223372036854775808) (hb : b < 9223372036854775808) (d1 : decode cc pc = .ok (.lcmp, 1)) (d : decode cc (pc + 1) = .ok (.ifCond .gt off, 3)) (ht : ((pc + 1 : Nat) : Int) + off = (tgt : Int)) (kt : b < a → W p l e R s m args below meth c H locs cells slots Q (F0 m tgt ls rest)) (kf : a ≤ b → W p l e R s m args below meth c H locs cells slots Q (F0 m (pc + 4) ls rest)) : W p l e R s m args below meth c H locs cells slots Q (F0 m pc ls (.long (lN b) :: .long (lN a) :: rest)) := by
  refine W.lcmp C.1 C.2.1 d1 ?_
  have e : lg_cmp (lN a) (lN b) = iZ (if b < a then 1 else if a = b then 0 else -1) := lN_cmp ha hb
  rw [e]
  refine z_if_gt C (by split <;> first | omega | (split <;> omega)) d ht (fun h => kt ?_) (fun h => kf ?_)
  · split at h
    · omega
    · split at h <;> omega
  · split at h
    · omega
    · split at h <;> omega
theorem z_lc_le (C : CallFix p m c cc nL s args Ts own) {a b : Nat} {off : Int} {tgt : Nat} (ha : a < 9223372036854775808) (hb : b < 9223372036854775808) (d1 : decode cc pc = .ok (.lcmp, 1)) (d : decode cc (pc + 1) = .ok (.ifCond .le off, 3)) (ht : ((pc + 1 : Nat) : Int) + off = (tgt : Int)) (kt : a ≤ b → W p l e R s m args below meth c H locs cells slots Q (F0 m tgt ls rest)) (kf : b < a → W p l e R s m args below meth c H locs cells slots Q (F0 m (pc + 4) ls rest)) : W p l e R s m args below meth c H locs cells slots Q (F0 m pc ls (.long (lN b) :: .long (lN a) :: rest)) := by
  refine W.lcmp C.1 C.2.1 d1 ?_
  have e : lg_cmp (lN a) (lN b) = iZ (if b < a then 1 else if a = b then 0 else -1) := lN_cmp ha hb
  rw [e]
  refine z_if_le C (by split <;> first | omega | (split <;> omega)) d ht (fun h => kt ?_) (fun h => kf ?_)
  · split at h
    · omega
    · split at h <;> omega
  · split at h
    · omega
    · split at h <;> omega
-- ends: heap as it was
abbrev zQ (below : List Frame) (as : List Value) (s : State) (v : Value) : State → Prop := MQ below (fun _ st o t => o = .returned (some v) ∧ t.heap = st.heap) as.toArray s 0 0 (fun _ => False)
end ZR
/-- a pure static method: it answers v, and the heap stays; need: what its call takes of the locals' room -/
def zP (l : Launch) (y : MethodName) (fr need : Nat) (as : List Value) (v : Value) : Prop :=
  ∃ (bytes : ByteArray) (maxL lo : Nat) (ret : Option FieldType), zS y bytes maxL ret ∧ need = 8 + (maxL + 11) + lo ∧
    (y.cls ≠ "java/lang/invoke/MethodHandle" ∧ y.cls ≠ "java/lang/invoke/VarHandle" ∧ (parseMethodDescriptor y.desc).map (fun d => d.parameters.length) = some as.length) ∧
    Met l y (Cond.code y bytes maxL ret :: T0) { frames := fr, cells := 0, slots := 0, locals := lo } (fun a _ => a = as.toArray) (fun _ st o t => o = .returned (some v) ∧ t.heap = st.heap) 0 0 (fun _ => False)
theorem zP.intro {l : Launch} {y : MethodName} {fr need lo nA : Nat} {as : List Value} {v : Value} {cc : ByteArray} {maxL : Nat} {ret : Option FieldType} {own : String} (hz : zS y cc maxL ret) (hy : plainName y.cls = true) (ho : own = y.cls) (hn : need = 8 + (maxL + 11) + lo)
    (hd : y.cls ≠ "java/lang/invoke/MethodHandle" ∧ y.cls ≠ "java/lang/invoke/VarHandle" ∧ (parseMethodDescriptor y.desc).map (fun d => d.parameters.length) = some nA) (hA : as.length = nA) (hle : (lg_sl as).length ≤ maxL)
    (body : ∀ (p : Program) (e : Env) (s : State) (m : MethodId) (below : List Frame) (meth : Method) (c : Code) (ls : Array Slot), CallFix p m c cc maxL s as.toArray T0 own → meth.sig.returnType = ret → meth.locks = false → lv_has ls maxL (lv_args 0 as) →
      W p l e { frames := fr, cells := 0, slots := 0, locals := lo } s m as.toArray below meth c s.heap [] 0 0 (zQ below as s v) (F0 m 0 ls [])) : zP l y fr need as v := by
  subst hA
  refine ⟨cc, maxL, lo, ret, hz, hn, hd, ?_⟩
  refine Met.ofW (ws' := T0) hy rfl ?_
  intro p e s m args below meth c s₁ B hml hv
  subst hv
  have hts := atoms_spec (ws := Cond.code y cc maxL ret :: T0) B.pre
  have hown : s.vm.findClass own = some m.cls := by rw [ho]; exact findClass_of_methodNamed B.named
  rw [lg_entry_eq]
  exact body p e s m below meth c _ ⟨B.exec, B.bytes, hml, hown, fun w h => hts w (List.mem_cons_of_mem _ h)⟩ B.returns B.notSynchronized (lv_entry as hle)
abbrev zQv (below : List Frame) (as : List Value) (s : State) : State → Prop := MQ below (fun _ st o t => o = .returned none ∧ t.heap = st.heap) as.toArray s 0 0 (fun _ => False)
/-- a pure static method: it answers nothing, and the heap stays; need: what its call takes of the locals' room -/
def zPv (l : Launch) (y : MethodName) (fr need : Nat) (as : List Value) : Prop :=
  ∃ (bytes : ByteArray) (maxL lo : Nat) (ret : Option FieldType), zS y bytes maxL ret ∧ need = 8 + (maxL + 11) + lo ∧
    (y.cls ≠ "java/lang/invoke/MethodHandle" ∧ y.cls ≠ "java/lang/invoke/VarHandle" ∧ (parseMethodDescriptor y.desc).map (fun d => d.parameters.length) = some as.length) ∧
    Met l y (Cond.code y bytes maxL ret :: T0) { frames := fr, cells := 0, slots := 0, locals := lo } (fun a _ => a = as.toArray) (fun _ st o t => o = .returned none ∧ t.heap = st.heap) 0 0 (fun _ => False)
theorem zPv.intro {l : Launch} {y : MethodName} {fr need lo nA : Nat} {as : List Value} {cc : ByteArray} {maxL : Nat} {ret : Option FieldType} {own : String} (hz : zS y cc maxL ret) (hy : plainName y.cls = true) (ho : own = y.cls) (hn : need = 8 + (maxL + 11) + lo)
    (hd : y.cls ≠ "java/lang/invoke/MethodHandle" ∧ y.cls ≠ "java/lang/invoke/VarHandle" ∧ (parseMethodDescriptor y.desc).map (fun d => d.parameters.length) = some nA) (hA : as.length = nA) (hle : (lg_sl as).length ≤ maxL)
    (body : ∀ (p : Program) (e : Env) (s : State) (m : MethodId) (below : List Frame) (meth : Method) (c : Code) (ls : Array Slot), CallFix p m c cc maxL s as.toArray T0 own → meth.sig.returnType = ret → meth.locks = false → lv_has ls maxL (lv_args 0 as) →
      W p l e { frames := fr, cells := 0, slots := 0, locals := lo } s m as.toArray below meth c s.heap [] 0 0 (zQv below as s) (F0 m 0 ls [])) : zPv l y fr need as := by
  subst hA
  refine ⟨cc, maxL, lo, ret, hz, hn, hd, ?_⟩
  refine Met.ofW (ws' := T0) hy rfl ?_
  intro p e s m args below meth c s₁ B hml hv
  subst hv
  have hts := atoms_spec (ws := Cond.code y cc maxL ret :: T0) B.pre
  have hown : s.vm.findClass own = some m.cls := by rw [ho]; exact findClass_of_methodNamed B.named
  rw [lg_entry_eq]
  exact body p e s m below meth c _ ⟨B.exec, B.bytes, hml, hown, fun w h => hts w (List.mem_cons_of_mem _ h)⟩ B.returns B.notSynchronized (lv_entry as hle)
theorem T0_code {y : MethodName} {bytes : ByteArray} {maxL : Nat} {ret : Option FieldType} (h : Cond.code y bytes maxL ret ∈ lw_tbl) : Cond.code y bytes maxL ret ∈ T0 := T0_of h rfl
theorem zg {own : String} {idx : Nat} {y : MethodName} {bytes : ByteArray} {maxL : Nat} {ret : Option FieldType} (h1 : Cond.methodLink own idx y ∈ lw_tbl) (h : zS y bytes maxL ret) : GoodIn T0 (va_wsS own idx y (Cond.code y bytes maxL ret :: T0)) := by
  intro w hw
  have hm : w ∈ T0 := by
    rcases List.mem_append.mp hw with hw | hw
    · simp only [List.mem_cons, List.not_mem_nil, or_false] at hw
      rcases hw with rfl | rfl | rfl
      · exact T0_of h1 rfl
      · exact T0_of h.1 rfl
      · exact T0_of h.2.1 rfl
    · rcases List.mem_cons.mp hw with rfl | hw
      · exact T0_of h.2.2 rfl
      · exact hw
  exact ⟨hm, T0_good hm⟩
section ZC
variable {p : Program} {l : Launch} {e : Env} {R : Room} {s : State} {m : MethodId} {args : Array Value} {below : List Frame} {meth : Method} {c : Code} {H : Heap} {locs : List Loc} {cells slots : Nat} {Q : State → Prop}
variable {cc : ByteArray} {pc nL : Nat} {ls : Array Slot} {rest st : List Value} {Ts : List Cond} {own : String} {lv : List (Nat × Value)}
theorem z_iret {as : List Value} {v : Value} {r : Int32} (C : CallFix p m c cc nL s as.toArray Ts own) (hr : meth.sig.returnType = some .int) (hk : meth.locks = false) (d : decode cc pc = .ok (.ireturn, 1)) (hv : Value.int r = v) : W p l e R s m as.toArray below meth c s.heap [] 0 0 (zQ below as s v) (F0 m pc ls [.int r]) := by
  subst hv
  exact W.iret C.1 C.2.1 hr (fun t ht _ => ⟨rfl, ht⟩) (fun q h => by cases h) d hk
theorem z_zret {as : List Value} {v : Value} {r : Int32} {ty : FieldType} (C : CallFix p m c cc nL s as.toArray Ts own) (hr : meth.sig.returnType = some ty) (hk : meth.locks = false) (d : decode cc pc = .ok (.ireturn, 1)) (hn : narrow ty (.int r) = .int r) (hv : Value.int r = v) : W p l e R s m as.toArray below meth c s.heap [] 0 0 (zQ below as s v) (F0 m pc ls [.int r]) := by
  subst hv
  exact W.zret C.1 C.2.1 hr hn (fun t ht _ => ⟨rfl, ht⟩) (fun q h => by cases h) d hk
theorem z_lret {as : List Value} {v : Value} {r : Int64} (C : CallFix p m c cc nL s as.toArray Ts own) (hr : meth.sig.returnType = some .long) (hk : meth.locks = false) (d : decode cc pc = .ok (.lreturn, 1)) (hv : Value.long r = v) : W p l e R s m as.toArray below meth c s.heap [] 0 0 (zQ below as s v) (F0 m pc ls [.long r]) := by
  subst hv
  exact W.lret C.1 C.2.1 hr (fun t ht _ => ⟨rfl, ht⟩) (fun q h => by cases h) d hk
theorem z_nB (b : Bool) : narrow .boolean (.int (iZ (zB b))) = .int (iZ (zB b)) := by cases b <;> rfl
theorem z_ishr (C : CallFix p m c cc nL s args Ts own) {z y : Int} (n j : Nat) (hz : z = (n : Int)) (hn : n < 2147483648) (hy : y = (j : Int)) (hj : j < 32) (d : decode cc pc = .ok (.ishr, 1)) (k : W p l e R s m args below meth c H locs cells slots Q (F0 m (pc + 1) ls (.int (iZ ((n >>> j : Nat) : Int)) :: rest))) : W p l e R s m args below meth c H locs cells slots Q (F0 m pc ls (.int (iZ y) :: .int (iZ z) :: rest)) := by
  subst hz hy
  refine lv_ishr C.1 C.2.1 d ?_
  have h4 : ∀ j : Fin 32, (((nI j.val) &&& 31).toBitVec.smod 32).toNat = j.val := by decide +kernel
  rw [iZ_nI n, iZ_nI j, pk_shrN (by omega) _ j (h4 ⟨j, hj⟩), ← Nat.shiftRight_eq_div_pow, ← iZ_nI]
  exact k
theorem z_ishl1 (C : CallFix p m c cc nL s args Ts own) {y : Int} (j : Nat) (hy : y = (j : Int)) (hj : j < 31) (d : decode cc pc = .ok (.ishl, 1)) (k : W p l e R s m args below meth c H locs cells slots Q (F0 m (pc + 1) ls (.int (iZ ((1 <<< j : Nat) : Int)) :: rest))) : W p l e R s m args below meth c H locs cells slots Q (F0 m pc ls (.int (iZ y) :: .int (iZ 1) :: rest)) := by
  subst hy
  refine lv_ishl C.1 C.2.1 d ?_
  have h4 : ∀ j : Fin 31, iZ 1 <<< ((nI j.val) &&& 31) = nI (1 <<< j.val) := by decide +kernel
  rw [iZ_nI j, h4 ⟨j, hj⟩, ← iZ_nI]
  exact k
theorem z_iand1 (C : CallFix p m c cc nL s args Ts own) {z : Int} (n : Nat) (hz : z = (n : Int)) (hn : n < 2147483648) (d : decode cc pc = .ok (.iand, 1)) (k : W p l e R s m args below meth c H locs cells slots Q (F0 m (pc + 1) ls (.int (iZ ((n % 2 : Nat) : Int)) :: rest))) : W p l e R s m args below meth c H locs cells slots Q (F0 m pc ls (.int (iZ 1) :: .int (iZ z) :: rest)) := by
  subst hz
  refine lv_iand C.1 C.2.1 d ?_
  rw [iZ_nI n, pk_andN (by omega) 1 (by decide), ← iZ_nI]
  exact k
theorem z_tableIn (C : CallFix p m c cc nL s args Ts own) {dflt lo hi : Int} {offs : Array Int} {len : Nat} {z off : Int} {tgt : Nat} (d : decode cc pc = .ok (.tableswitch dflt lo hi offs, len)) (hz : -2147483648 ≤ z ∧ z ≤ 2147483647) (h1 : lo ≤ z) (h2 : z ≤ hi) (ho : offs[(z - lo).toNat]? = some off) (ht : (pc : Int) + off = (tgt : Int)) (k : W p l e R s m args below meth c H locs cells slots Q (F0 m tgt ls rest)) : W p l e R s m args below meth c H locs cells slots Q (F0 m pc ls (.int (iZ z) :: rest)) := lv_tableIn C.1 C.2.1 d (by rw [iZ_toInt hz]; omega) (by rw [iZ_toInt hz]; omega) (by rw [iZ_toInt hz]; exact ho) ht k
theorem z_tableOut (C : CallFix p m c cc nL s args Ts own) {dflt lo hi : Int} {offs : Array Int} {len : Nat} {z : Int} {tgt : Nat} (d : decode cc pc = .ok (.tableswitch dflt lo hi offs, len)) (hz : -2147483648 ≤ z ∧ z ≤ 2147483647) (h : z < lo ∨ hi < z) (ht : (pc : Int) + dflt = (tgt : Int)) (k : W p l e R s m args below meth c H locs cells slots Q (F0 m tgt ls rest)) : W p l e R s m args below meth c H locs cells slots Q (F0 m pc ls (.int (iZ z) :: rest)) := lv_tableOut C.1 C.2.1 d (by rw [iZ_toInt hz]; exact h) ht k
/-- a call of a pure static method -/
theorem z_call (C : CallFix p m c cc nL s args T0 own) {y : MethodName} {fr need idx : Nat} {as : List Value} {v : Value} (hM : zP l y fr need as v) (hG : Cond.methodLink own idx y ∈ lw_tbl) (hR : fr + 1 ≤ R.frames ∧ need ≤ R.locals) (hf : cells ≤ R.cells ∧ slots ≤ R.slots) (hl : lv_has ls nL lv) (hcat : (rest.map fun v => v.category).sum ≤ 8) (hst : st = as.reverse ++ rest) (d : decode cc pc = .ok (.invokestatic idx, 3))
    (k : W p l e R s m args below meth c H locs cells slots Q (F0 m (pc + 3) ls (v :: rest))) : W p l e R s m args below meth c H locs cells slots Q (F0 m pc ls st) := by
  obtain ⟨bytes, maxL, lo, ret, hz, hn, hd, hM⟩ := hM
  have cw := va_cwS (R := R) (bytes := bytes) (maxL := maxL) (ret := ret) (ws' := T0) (rm := { frames := fr, cells := 0, slots := 0, locals := lo }) as.length C.2.2.2.2 (zg hG hz) rfl rfl rfl hd ⟨hR.1, by rw [hn] at hR; exact hR.2⟩
  have hr := va_runS (p := p) (l := l) (e := e) (below := below) (meth := meth) (c := c) (H := H) (locs := locs) (cells := cells) (slots := slots) (g := F0 m pc ls st) (rest := rest) C hM cw ⟨fun a U g mk q => q, fun U hU hW => rfl⟩ rfl rfl hl.1 hst (lv_room hcat) d ⟨by simpa using hf.1, by simpa using hf.2⟩
  intro T hT X
  obtain ⟨v2, st₀, t, T', L, h0, X', hL, e1, e2, ⟨hv, hh⟩, st2⟩ := hr T hT X
  cases hv
  have hL0 : L = [] := by
    cases L with
    | nil => rfl
    | cons q L => exact (hL q List.mem_cons_self).elim
  subst hL0
  rw [List.append_nil] at X'
  obtain ⟨t2, a1, b1⟩ := k T' (by rw [e1, hh, h0]) X'
  exact ⟨t2, st2 t2 a1, b1⟩
/-- .. that answers nothing: a call of a pure static method -/
theorem z_callv (C : CallFix p m c cc nL s args T0 own) {y : MethodName} {fr need idx : Nat} {as : List Value} (hM : zPv l y fr need as) (hG : Cond.methodLink own idx y ∈ lw_tbl) (hR : fr + 1 ≤ R.frames ∧ need ≤ R.locals) (hf : cells ≤ R.cells ∧ slots ≤ R.slots) (hl : lv_has ls nL lv) (hcat : (rest.map fun v => v.category).sum ≤ 8) (hst : st = as.reverse ++ rest) (d : decode cc pc = .ok (.invokestatic idx, 3))
    (k : W p l e R s m args below meth c H locs cells slots Q (F0 m (pc + 3) ls rest)) : W p l e R s m args below meth c H locs cells slots Q (F0 m pc ls st) := by
  obtain ⟨bytes, maxL, lo, ret, hz, hn, hd, hM⟩ := hM
  have cw := va_cwS (R := R) (bytes := bytes) (maxL := maxL) (ret := ret) (ws' := T0) (rm := { frames := fr, cells := 0, slots := 0, locals := lo }) as.length C.2.2.2.2 (zg hG hz) rfl rfl rfl hd ⟨hR.1, by rw [hn] at hR; exact hR.2⟩
  have hr := va_runS (p := p) (l := l) (e := e) (below := below) (meth := meth) (c := c) (H := H) (locs := locs) (cells := cells) (slots := slots) (g := F0 m pc ls st) (rest := rest) C hM cw ⟨fun a U g mk q => q, fun U hU hW => rfl⟩ rfl rfl hl.1 hst (lv_room hcat) d ⟨by simpa using hf.1, by simpa using hf.2⟩
  intro T hT X
  obtain ⟨v2, st₀, t, T', L, h0, X', hL, e1, e2, ⟨hv, hh⟩, st2⟩ := hr T hT X
  cases hv
  have hL0 : L = [] := by
    cases L with
    | nil => rfl
    | cons q L => exact (hL q List.mem_cons_self).elim
  subst hL0
  rw [List.append_nil] at X'
  obtain ⟨t2, a1, b1⟩ := k T' (by rw [e1, hh, h0]) X'
  exact ⟨t2, st2 t2 a1, b1⟩
theorem z_vret {as : List Value} (C : CallFix p m c cc nL s as.toArray Ts own) (hr : meth.sig.returnType = none) (hk : meth.locks = false) (d : decode cc pc = .ok (.return_, 1)) : W p l e R s m as.toArray below meth c s.heap [] 0 0 (zQv below as s) (F0 m pc ls []) := W.vret C.1 C.2.1 hr (fun t ht _ => ⟨rfl, ht⟩) (fun q h => by cases h) d hk
end ZC
