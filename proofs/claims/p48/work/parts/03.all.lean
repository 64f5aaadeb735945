/-! ===== numbers: iZ of whole numbers, lN of natural ones ===== -/
section ZA
def iZ (z : Int) : Int32 := Int32.ofInt z
def zB (b : Bool) : Int := if b = true then 1 else 0
theorem iZ_toInt {z : Int} (h : -2147483648 ≤ z ∧ z ≤ 2147483647) : (iZ z).toInt = z := Int32.toInt_ofInt_of_le (by omega) (by omega)
theorem iZ_of (x : Int32) : ∃ z : Int, (-2147483648 ≤ z ∧ z ≤ 2147483647) ∧ x = iZ z := by
  refine ⟨x.toInt, ⟨?_, ?_⟩, (Int32.ofInt_toInt x).symm⟩
  · have h := x.minValue_le_toInt
    have h2 : Int32.minValue.toInt = -2147483648 := by decide
    omega
  · have h := x.toInt_le
    have h2 : Int32.maxValue.toInt = 2147483647 := by decide
    omega
theorem iZ_add (a b : Int) : iZ a + iZ b = iZ (a + b) := (Int32.ofInt_add a b).symm
theorem iZ_sub (a b : Int) : iZ a - iZ b = iZ (a - b) := (Int32.ofInt_sub a b).symm
theorem iZ_mul (a b : Int) : iZ a * iZ b = iZ (a * b) := (Int32.ofInt_mul a b).symm
theorem iZ_neg (a : Int) : -iZ a = iZ (-a) := (Int32.ofInt_neg a).symm
theorem iZ_le {a b : Int} (ha : -2147483648 ≤ a ∧ a ≤ 2147483647) (hb : -2147483648 ≤ b ∧ b ≤ 2147483647) : iZ a ≤ iZ b ↔ a ≤ b := by
  rw [Int32.le_iff_toInt_le, iZ_toInt ha, iZ_toInt hb]
theorem iZ_lt {a b : Int} (ha : -2147483648 ≤ a ∧ a ≤ 2147483647) (hb : -2147483648 ≤ b ∧ b ≤ 2147483647) : iZ a < iZ b ↔ a < b := by
  rw [Int32.lt_iff_toInt_lt, iZ_toInt ha, iZ_toInt hb]
theorem iZ_eq {a b : Int} (ha : -2147483648 ≤ a ∧ a ≤ 2147483647) (hb : -2147483648 ≤ b ∧ b ≤ 2147483647) : iZ a = iZ b ↔ a = b := by
  rw [← Int32.toInt_inj, iZ_toInt ha, iZ_toInt hb]
theorem iZ_nI (n : Nat) : iZ (n : Int) = nI n := Int32.ofInt_eq_ofNat
theorem iZ_0 : (0 : Int32) = iZ 0 := by decide
theorem iZ_div {a b : Int} (ha : 0 ≤ a ∧ a ≤ 2147483647) (hb : 0 < b ∧ b ≤ 2147483647) : iZ a / iZ b = iZ (a / b) := by
  obtain ⟨n, rfl⟩ := Int.eq_ofNat_of_zero_le ha.1
  obtain ⟨k, rfl⟩ := Int.eq_ofNat_of_zero_le (Int.le_of_lt hb.1)
  rw [iZ_nI, iZ_nI, pk_div (by omega) (by omega) (by omega), ← iZ_nI, Int.natCast_ediv]
theorem iZ_rem {a b : Int} (ha : 0 ≤ a ∧ a ≤ 2147483647) (hb : 0 < b ∧ b ≤ 2147483647) : iZ a - iZ a / iZ b * iZ b = iZ (a % b) := by
  rw [iZ_div ha hb, iZ_mul, iZ_sub, Int.emod_def, Int.mul_comm b]
theorem iZ_clamp {z : Int} (h : 0 ≤ z ∧ z ≤ 2147483647) : (iZ z).toNatClampNeg = z.toNat := Int32.toNatClampNeg_ofInt_of_le (by omega) (by omega)
theorem iZ_in {z : Int} {n : Nat} (h : 0 ≤ z ∧ z < n) (hn : n < 2147483648) : vp_in (iZ z) n := by
  rw [vp_in_iff, iZ_toInt (by omega)]
  exact h
theorem lN_bv (n : Nat) : (lN n).toBitVec = BitVec.ofNat 64 n := rfl
theorem lN_xor (a b : Nat) : lN a ^^^ lN b = lN (a ^^^ b) := by
  apply Int64.toBitVec.inj
  rw [Int64.toBitVec_xor, lN_bv, lN_bv, lN_bv]
  apply BitVec.eq_of_getLsbD_eq
  intro i hi
  simp [BitVec.getLsbD_ofNat, Nat.testBit_xor, hi]
theorem lN_and (a b : Nat) : lN a &&& lN b = lN (a &&& b) := by
  apply Int64.toBitVec.inj
  rw [Int64.toBitVec_and, lN_bv, lN_bv, lN_bv]
  apply BitVec.eq_of_getLsbD_eq
  intro i hi
  simp [BitVec.getLsbD_ofNat, Nat.testBit_and, hi]
theorem lN_or (a b : Nat) : lN a ||| lN b = lN (a ||| b) := by
  apply Int64.toBitVec.inj
  rw [Int64.toBitVec_or, lN_bv, lN_bv, lN_bv]
  apply BitVec.eq_of_getLsbD_eq
  intro i hi
  simp [BitVec.getLsbD_ofNat, Nat.testBit_or, hi]
theorem lN_inj {a b : Nat} (ha : a < 18446744073709551616) (hb : b < 18446744073709551616) : lN a = lN b ↔ a = b := by
  refine ⟨fun h => ?_, fun h => by rw [h]⟩
  have h2 := congrArg (fun x : Int64 => x.toBitVec.toNat) h
  simp only [lN_bv, BitVec.toNat_ofNat] at h2
  omega
theorem lN_shl {n k : Nat} {z : Int} (hz : z = (k : Int)) (hk : k < 64) : lN n <<< ((iZ z).toInt64 &&& 63) = lN (n <<< k) := by
  subst hz
  have e : ((iZ (k : Int)).toInt64 &&& 63) = Int64.ofNat k := by
    rw [show iZ (k : Int) = nI k from iZ_nI k, show (nI k).toInt64 = lN k from nI_l (by omega)]
    rw [show (63 : Int64) = lN 63 from rfl, lN_and, show (63 : Nat) = 2 ^ 6 - 1 from rfl, Nat.and_two_pow_sub_one_eq_mod, Nat.mod_eq_of_lt (by omega)]
    rfl
  rw [e]
  apply Int64.toBitVec.inj
  rw [Int64.toBitVec_shiftLeft, lN_bv, lN_bv]
  have e2 : (((Int64.ofNat k).toBitVec.smod 64).toNat) = k := by
    have h3 : (Int64.ofNat k).toBitVec = BitVec.ofNat 64 k := rfl
    rw [h3]
    have h4 : ∀ j : Fin 64, ((BitVec.ofNat 64 j.val).smod 64).toNat = j.val := by decide +kernel
    exact h4 ⟨k, hk⟩
  rw [BitVec.shiftLeft_eq', e2]
  apply BitVec.eq_of_getLsbD_eq
  intro i hi
  simp only [BitVec.getLsbD_shiftLeft, BitVec.getLsbD_ofNat, Nat.testBit_shiftLeft, hi]
  by_cases h : i < k
  · simp [h]; omega
  · have h5 : k ≤ i := by omega
    simp [h, h5]; intro _; omega
theorem lN_shr {n k : Nat} {z : Int} (hn : n < 18446744073709551616) (hz : z = (k : Int)) (hk : k < 64) : ((lN n).toUInt64 >>> ((iZ z).toInt64.toUInt64 &&& Int64.toUInt64 63)).toInt64 = lN (n >>> k) := by
  subst hz
  have e : ((iZ (k : Int)).toInt64.toUInt64 &&& Int64.toUInt64 63) = UInt64.ofNat k := by
    rw [show iZ (k : Int) = nI k from iZ_nI k, show (nI k).toInt64 = lN k from nI_l (by omega)]
    have h4 : ∀ j : Fin 64, ((lN j.val).toUInt64 &&& Int64.toUInt64 63) = UInt64.ofNat j.val := by decide +kernel
    exact h4 ⟨k, hk⟩
  rw [e]
  apply Int64.toBitVec.inj
  show ((lN n).toUInt64 >>> UInt64.ofNat k).toBitVec = BitVec.ofNat 64 (n >>> k)
  apply BitVec.eq_of_toNat_eq
  have h5 : (lN n).toUInt64.toNat = n := by
    show (BitVec.ofNat 64 n).toNat = n
    rw [BitVec.toNat_ofNat]; omega
  have h6 : (UInt64.ofNat k).toNat = k := by
    show (BitVec.ofNat 64 k).toNat = k
    rw [BitVec.toNat_ofNat]; omega
  have h7 : ((lN n).toUInt64 >>> UInt64.ofNat k).toNat = n >>> k := by
    rw [UInt64.toNat_shiftRight, h5, h6, Nat.mod_eq_of_lt hk]
  have h8 : n >>> k ≤ n := Nat.shiftRight_le n k
  rw [BitVec.toNat_ofNat, Nat.mod_eq_of_lt (by omega)]
  exact h7
theorem lN_lt63 {a b : Nat} (ha : a < 9223372036854775808) (hb : b < 9223372036854775808) : lN a < lN b ↔ a < b := pk_lLT (by omega) (by omega)
end ZA
/-! ===== rows over such numbers ===== -/
section ZR
variable {p : Program} {l : Launch} {e : Env} {R : Room} {s : State} {m : MethodId} {args : Array Value} {below : List Frame} {meth : Method} {c : Code} {H : Heap} {locs : List Loc} {cells slots : Nat} {Q : State → Prop}
variable {cc : ByteArray} {pc nL : Nat} {ls : Array Slot} {rest : List Value} {Ts : List Cond} {own : String}
theorem z_iconst (C : CallFix p m c cc nL s args Ts own) {n : Int} (d : decode cc pc = .ok (.iconst n, 1)) (k : W p l e R s m args below meth c H locs cells slots Q (F0 m (pc + 1) ls (.int (iZ n) :: rest))) : W p l e R s m args below meth c H locs cells slots Q (F0 m pc ls rest) := lv_iconst C.1 C.2.1 d rfl k
theorem z_bipush (C : CallFix p m c cc nL s args Ts own) {n : Int} (d : decode cc pc = .ok (.bipush n, 2)) (hv : (Int8.ofInt n).toInt32 = iZ n) (k : W p l e R s m args below meth c H locs cells slots Q (F0 m (pc + 2) ls (.int (iZ n) :: rest))) : W p l e R s m args below meth c H locs cells slots Q (F0 m pc ls rest) := lv_bipush C.1 C.2.1 d hv k
theorem z_sipush (C : CallFix p m c cc nL s args Ts own) {n : Int} (d : decode cc pc = .ok (.sipush n, 3)) (hv : (Int16.ofInt n).toInt32 = iZ n) (k : W p l e R s m args below meth c H locs cells slots Q (F0 m (pc + 3) ls (.int (iZ n) :: rest))) : W p l e R s m args below meth c H locs cells slots Q (F0 m pc ls rest) := lv_sipush C.1 C.2.1 d hv k
theorem z_lconst (C : CallFix p m c cc nL s args Ts own) {n : Fin 2} {k0 : Nat} (d : decode cc pc = .ok (.lconst n, 1)) (hk : (n : Nat) = k0) (k : W p l e R s m args below meth c H locs cells slots Q (F0 m (pc + 1) ls (.long (lN k0) :: rest))) : W p l e R s m args below meth c H locs cells slots Q (F0 m pc ls rest) := lv_lconst C.1 C.2.1 d (by rw [hk]; rfl) k
theorem z_ldc2 (C : CallFix p m c cc nL s args Ts own) {index : Nat} {v : Int64} (n : Nat) (hm : Jvm.Cond.constantLong own index v ∈ Ts) (hn : v = lN n) (d : decode cc pc = .ok (.ldc2_w index, 3)) (k : W p l e R s m args below meth c H locs cells slots Q (F0 m (pc + 3) ls (.long (lN n) :: rest))) : W p l e R s m args below meth c H locs cells slots Q (F0 m pc ls rest) := lv_ldc2 C.1 C.2.1 C.2.2.2.1 (C.2.2.2.2 _ hm) d (by rw [hn]; exact k)
theorem z_iadd (C : CallFix p m c cc nL s args Ts own) {a b : Int} (d : decode cc pc = .ok (.iadd, 1)) (k : W p l e R s m args below meth c H locs cells slots Q (F0 m (pc + 1) ls (.int (iZ (a + b)) :: rest))) : W p l e R s m args below meth c H locs cells slots Q (F0 m pc ls (.int (iZ b) :: .int (iZ a) :: rest)) := lv_iadd C.1 C.2.1 d (by rw [iZ_add]; exact k)
theorem z_isub (C : CallFix p m c cc nL s args Ts own) {a b : Int} (d : decode cc pc = .ok (.isub, 1)) (k : W p l e R s m args below meth c H locs cells slots Q (F0 m (pc + 1) ls (.int (iZ (a - b)) :: rest))) : W p l e R s m args below meth c H locs cells slots Q (F0 m pc ls (.int (iZ b) :: .int (iZ a) :: rest)) := lv_isub C.1 C.2.1 d (by rw [iZ_sub]; exact k)
theorem z_imul (C : CallFix p m c cc nL s args Ts own) {a b : Int} (d : decode cc pc = .ok (.imul, 1)) (k : W p l e R s m args below meth c H locs cells slots Q (F0 m (pc + 1) ls (.int (iZ (a * b)) :: rest))) : W p l e R s m args below meth c H locs cells slots Q (F0 m pc ls (.int (iZ b) :: .int (iZ a) :: rest)) := lv_imul C.1 C.2.1 d (by rw [iZ_mul]; exact k)
theorem z_ineg (C : CallFix p m c cc nL s args Ts own) {a : Int} (d : decode cc pc = .ok (.ineg, 1)) (k : W p l e R s m args below meth c H locs cells slots Q (F0 m (pc + 1) ls (.int (iZ (-a)) :: rest))) : W p l e R s m args below meth c H locs cells slots Q (F0 m pc ls (.int (iZ a) :: rest)) := lv_ineg C.1 C.2.1 d (by rw [iZ_neg]; exact k)
theorem z_idiv (C : CallFix p m c cc nL s args Ts own) {a b : Int} (ha : 0 ≤ a ∧ a ≤ 2147483647) (hb : 0 < b ∧ b ≤ 2147483647) (d : decode cc pc = .ok (.idiv, 1)) (k : W p l e R s m args below meth c H locs cells slots Q (F0 m (pc + 1) ls (.int (iZ (a / b)) :: rest))) : W p l e R s m args below meth c H locs cells slots Q (F0 m pc ls (.int (iZ b) :: .int (iZ a) :: rest)) := lv_idiv C.1 C.2.1 d (by rw [iZ_0, iZ_eq (by omega) (by omega)]; omega) (by rw [iZ_div ha hb]; exact k)
theorem z_irem (C : CallFix p m c cc nL s args Ts own) {a b : Int} (ha : 0 ≤ a ∧ a ≤ 2147483647) (hb : 0 < b ∧ b ≤ 2147483647) (d : decode cc pc = .ok (.irem, 1)) (k : W p l e R s m args below meth c H locs cells slots Q (F0 m (pc + 1) ls (.int (iZ (a % b)) :: rest))) : W p l e R s m args below meth c H locs cells slots Q (F0 m pc ls (.int (iZ b) :: .int (iZ a) :: rest)) := lv_irem C.1 C.2.1 d (by rw [iZ_0, iZ_eq (by omega) (by omega)]; omega) (by rw [iZ_rem ha hb]; exact k)
theorem z_iinc (C : CallFix p m c cc nL s args Ts own) {i j : Nat} {n a : Int} {lv lv' : List (Nat × Value)} (d : decode cc pc = .ok (.iinc i n, 3)) (h : lv_has ls nL lv) (hk : lv[j]? = some (i, .int (iZ a))) (hn : i < nL) (hl : (i, Value.int (iZ (a + n))) :: lv.filter (fun q => !(q.1 == i) && !(q.1 + 1 == i && q.2.category == 2)) = lv') (k : ∀ ls, lv_has ls nL lv' → W p l e R s m args below meth c H locs cells slots Q (F0 m (pc + 3) ls rest)) : W p l e R s m args below meth c H locs cells slots Q (F0 m pc ls rest) := lv_iinc C.1 C.2.1 d h hk (iZ_add a n) hn hl k
theorem z_lxor (C : CallFix p m c cc nL s args Ts own) {a b : Nat} (d : decode cc pc = .ok (.lxor, 1)) (k : W p l e R s m args below meth c H locs cells slots Q (F0 m (pc + 1) ls (.long (lN (a ^^^ b)) :: rest))) : W p l e R s m args below meth c H locs cells slots Q (F0 m pc ls (.long (lN b) :: .long (lN a) :: rest)) := lv_lxor C.1 C.2.1 d (by rw [lN_xor]; exact k)
theorem z_land (C : CallFix p m c cc nL s args Ts own) {a b : Nat} (d : decode cc pc = .ok (.land, 1)) (k : W p l e R s m args below meth c H locs cells slots Q (F0 m (pc + 1) ls (.long (lN (a &&& b)) :: rest))) : W p l e R s m args below meth c H locs cells slots Q (F0 m pc ls (.long (lN b) :: .long (lN a) :: rest)) := lv_land C.1 C.2.1 d (by rw [lN_and]; exact k)
theorem z_lor (C : CallFix p m c cc nL s args Ts own) {a b : Nat} (d : decode cc pc = .ok (.lor, 1)) (k : W p l e R s m args below meth c H locs cells slots Q (F0 m (pc + 1) ls (.long (lN (a ||| b)) :: rest))) : W p l e R s m args below meth c H locs cells slots Q (F0 m pc ls (.long (lN b) :: .long (lN a) :: rest)) := lv_lor C.1 C.2.1 d (by rw [lN_or]; exact k)
theorem z_ladd (C : CallFix p m c cc nL s args Ts own) {a b : Nat} (d : decode cc pc = .ok (.ladd, 1)) (k : W p l e R s m args below meth c H locs cells slots Q (F0 m (pc + 1) ls (.long (lN (a + b)) :: rest))) : W p l e R s m args below meth c H locs cells slots Q (F0 m pc ls (.long (lN b) :: .long (lN a) :: rest)) := lv_ladd C.1 C.2.1 d (by rw [lN_add]; exact k)
theorem z_lmul (C : CallFix p m c cc nL s args Ts own) {a b : Nat} (d : decode cc pc = .ok (.lmul, 1)) (k : W p l e R s m args below meth c H locs cells slots Q (F0 m (pc + 1) ls (.long (lN (a * b)) :: rest))) : W p l e R s m args below meth c H locs cells slots Q (F0 m pc ls (.long (lN b) :: .long (lN a) :: rest)) := lv_lmul C.1 C.2.1 d (by rw [lN_mul]; exact k)
theorem z_ldiv (C : CallFix p m c cc nL s args Ts own) {a b : Nat} (ha : a < 9223372036854775808) (hb : 0 < b ∧ b < 9223372036854775808) (d : decode cc pc = .ok (.ldiv, 1)) (k : W p l e R s m args below meth c H locs cells slots Q (F0 m (pc + 1) ls (.long (lN (a / b)) :: rest))) : W p l e R s m args below meth c H locs cells slots Q (F0 m pc ls (.long (lN b) :: .long (lN a) :: rest)) := lv_ldiv C.1 C.2.1 d (by rw [show (0 : Int64) = lN 0 from rfl, lN_inj (by omega) (by omega)]; omega) (by rw [pk_lDiv ha hb.1 hb.2]; exact k)
theorem z_lrem (C : CallFix p m c cc nL s args Ts own) {a b : Nat} (ha : a < 9223372036854775808) (hb : 0 < b ∧ b < 9223372036854775808) (d : decode cc pc = .ok (.lrem, 1)) (k : W p l e R s m args below meth c H locs cells slots Q (F0 m (pc + 1) ls (.long (lN (a % b)) :: rest))) : W p l e R s m args below meth c H locs cells slots Q (F0 m pc ls (.long (lN b) :: .long (lN a) :: rest)) := lv_lrem C.1 C.2.1 d (by rw [show (0 : Int64) = lN 0 from rfl, lN_inj (by omega) (by omega)]; omega) (by rw [pk_lRem ha hb.1 hb.2]; exact k)
theorem z_lshl (C : CallFix p m c cc nL s args Ts own) {n : Nat} {z : Int} (j : Nat) (hz : z = (j : Int)) (hj : j < 64) (d : decode cc pc = .ok (.lshl, 1)) (k : W p l e R s m args below meth c H locs cells slots Q (F0 m (pc + 1) ls (.long (lN (n <<< j)) :: rest))) : W p l e R s m args below meth c H locs cells slots Q (F0 m pc ls (.int (iZ z) :: .long (lN n) :: rest)) := lv_lshl C.1 C.2.1 d (lN_shl hz hj) k
theorem z_lushr (C : CallFix p m c cc nL s args Ts own) {n : Nat} {z : Int} (j : Nat) (hn : n < 18446744073709551616) (hz : z = (j : Int)) (hj : j < 64) (d : decode cc pc = .ok (.lushr, 1)) (k : W p l e R s m args below meth c H locs cells slots Q (F0 m (pc + 1) ls (.long (lN (n >>> j)) :: rest))) : W p l e R s m args below meth c H locs cells slots Q (F0 m pc ls (.int (iZ z) :: .long (lN n) :: rest)) := lv_lushr C.1 C.2.1 d (lN_shr hn hz hj) k
theorem z_i2l (C : CallFix p m c cc nL s args Ts own) {z : Int} (j : Nat) (hz : z = (j : Int)) (hj : j < 2147483648) (d : decode cc pc = .ok (.i2l, 1)) (k : W p l e R s m args below meth c H locs cells slots Q (F0 m (pc + 1) ls (.long (lN j) :: rest))) : W p l e R s m args below meth c H locs cells slots Q (F0 m pc ls (.int (iZ z) :: rest)) := lv_i2l C.1 C.2.1 d (by rw [hz, iZ_nI]; exact nI_l (by omega)) k
theorem i2l_any {z : Int} (hz : -2147483648 ≤ z ∧ z ≤ 2147483647) : (iZ z).toInt64 = lN (z % 18446744073709551616).toNat := by
  apply Int64.toInt_inj.mp
  have h1 : (iZ z).toInt64.toInt = z := by rw [Int32.toInt_toInt64, iZ_toInt hz]
  rw [h1]
  show z = (Int64.ofNat _).toInt
  rw [Int64.toInt_ofNat', show Int64.size = 18446744073709551616 from rfl, Int.bmod_def]
  omega
theorem z_i2lA (C : CallFix p m c cc nL s args Ts own) {z : Int} (hz : -2147483648 ≤ z ∧ z ≤ 2147483647) (d : decode cc pc = .ok (.i2l, 1)) (k : W p l e R s m args below meth c H locs cells slots Q (F0 m (pc + 1) ls (.long (lN (z % 18446744073709551616).toNat) :: rest))) : W p l e R s m args below meth c H locs cells slots Q (F0 m pc ls (.int (iZ z) :: rest)) := lv_i2l C.1 C.2.1 d (i2l_any hz) k
theorem z_l2i (C : CallFix p m c cc nL s args Ts own) {n : Nat} (d : decode cc pc = .ok (.l2i, 1)) (k : W p l e R s m args below meth c H locs cells slots Q (F0 m (pc + 1) ls (.int (iZ (n : Int)) :: rest))) : W p l e R s m args below meth c H locs cells slots Q (F0 m pc ls (.long (lN n) :: rest)) := lv_l2i C.1 C.2.1 d (by rw [iZ_nI]; exact lN_i n) k
-- branches
theorem z_if_eq (C : CallFix p m c cc nL s args Ts own) {z : Int} {off : Int} {tgt : Nat} (hz : -2147483648 ≤ z ∧ z ≤ 2147483647) (d : decode cc pc = .ok (.ifCond .eq off, 3)) (ht : (pc : Int) + off = (tgt : Int)) (kt : z = 0 → W p l e R s m args below meth c H locs cells slots Q (F0 m tgt ls rest)) (kf : ¬ z = 0 → W p l e R s m args below meth c H locs cells slots Q (F0 m (pc + 3) ls rest)) : W p l e R s m args below meth c H locs cells slots Q (F0 m pc ls (.int (iZ z) :: rest)) := lv_if_eq C.1 C.2.1 d ht (fun h => kt ((iZ_eq hz (by omega)).mp h)) (fun h => kf (fun g => h ((iZ_eq hz (by omega)).mpr g)))
theorem z_if_ne (C : CallFix p m c cc nL s args Ts own) {z : Int} {off : Int} {tgt : Nat} (hz : -2147483648 ≤ z ∧ z ≤ 2147483647) (d : decode cc pc = .ok (.ifCond .ne off, 3)) (ht : (pc : Int) + off = (tgt : Int)) (kt : ¬ z = 0 → W p l e R s m args below meth c H locs cells slots Q (F0 m tgt ls rest)) (kf : z = 0 → W p l e R s m args below meth c H locs cells slots Q (F0 m (pc + 3) ls rest)) : W p l e R s m args below meth c H locs cells slots Q (F0 m pc ls (.int (iZ z) :: rest)) := lv_if_ne C.1 C.2.1 d ht (fun h => kt (fun g => h ((iZ_eq hz (by omega)).mpr g))) (fun h => kf ((iZ_eq hz (by omega)).mp h))
theorem z_if_lt (C : CallFix p m c cc nL s args Ts own) {z : Int} {off : Int} {tgt : Nat} (hz : -2147483648 ≤ z ∧ z ≤ 2147483647) (d : decode cc pc = .ok (.ifCond .lt off, 3)) (ht : (pc : Int) + off = (tgt : Int)) (kt : z < 0 → W p l e R s m args below meth c H locs cells slots Q (F0 m tgt ls rest)) (kf : 0 ≤ z → W p l e R s m args below meth c H locs cells slots Q (F0 m (pc + 3) ls rest)) : W p l e R s m args below meth c H locs cells slots Q (F0 m pc ls (.int (iZ z) :: rest)) := lv_if_lt C.1 C.2.1 d ht (fun h => kt ((iZ_lt hz (by omega)).mp h)) (fun h => kf (by have := (not_congr (iZ_lt (b := 0) hz (by omega))).mp h; omega))
theorem z_if_ge (C : CallFix p m c cc nL s args Ts own) {z : Int} {off : Int} {tgt : Nat} (hz : -2147483648 ≤ z ∧ z ≤ 2147483647) (d : decode cc pc = .ok (.ifCond .ge off, 3)) (ht : (pc : Int) + off = (tgt : Int)) (kt : 0 ≤ z → W p l e R s m args below meth c H locs cells slots Q (F0 m tgt ls rest)) (kf : z < 0 → W p l e R s m args below meth c H locs cells slots Q (F0 m (pc + 3) ls rest)) : W p l e R s m args below meth c H locs cells slots Q (F0 m pc ls (.int (iZ z) :: rest)) := lv_if_ge C.1 C.2.1 d ht (fun h => kt ((iZ_le (by omega) hz).mp h)) (fun h => kf (by have := (not_congr (iZ_le (a := 0) (by omega) hz)).mp h; omega))
theorem z_if_gt (C : CallFix p m c cc nL s args Ts own) {z : Int} {off : Int} {tgt : Nat} (hz : -2147483648 ≤ z ∧ z ≤ 2147483647) (d : decode cc pc = .ok (.ifCond .gt off, 3)) (ht : (pc : Int) + off = (tgt : Int)) (kt : 0 < z → W p l e R s m args below meth c H locs cells slots Q (F0 m tgt ls rest)) (kf : z ≤ 0 → W p l e R s m args below meth c H locs cells slots Q (F0 m (pc + 3) ls rest)) : W p l e R s m args below meth c H locs cells slots Q (F0 m pc ls (.int (iZ z) :: rest)) := lv_if_gt C.1 C.2.1 d ht (fun h => kt ((iZ_lt (by omega) hz).mp h)) (fun h => kf (by have := (not_congr (iZ_lt (a := 0) (by omega) hz)).mp h; omega))
theorem z_if_le (C : CallFix p m c cc nL s args Ts own) {z : Int} {off : Int} {tgt : Nat} (hz : -2147483648 ≤ z ∧ z ≤ 2147483647) (d : decode cc pc = .ok (.ifCond .le off, 3)) (ht : (pc : Int) + off = (tgt : Int)) (kt : z ≤ 0 → W p l e R s m args below meth c H locs cells slots Q (F0 m tgt ls rest)) (kf : 0 < z → W p l e R s m args below meth c H locs cells slots Q (F0 m (pc + 3) ls rest)) : W p l e R s m args below meth c H locs cells slots Q (F0 m pc ls (.int (iZ z) :: rest)) := lv_if_le C.1 C.2.1 d ht (fun h => kt ((iZ_le hz (by omega)).mp h)) (fun h => kf (by have := (not_congr (iZ_le (b := 0) hz (by omega))).mp h; omega))
theorem z_ifB_eq (C : CallFix p m c cc nL s args Ts own) {b : Bool} {off : Int} {tgt : Nat} (d : decode cc pc = .ok (.ifCond .eq off, 3)) (ht : (pc : Int) + off = (tgt : Int)) (kt : b = false → W p l e R s m args below meth c H locs cells slots Q (F0 m tgt ls rest)) (kf : b = true → W p l e R s m args below meth c H locs cells slots Q (F0 m (pc + 3) ls rest)) : W p l e R s m args below meth c H locs cells slots Q (F0 m pc ls (.int (iZ (zB b)) :: rest)) := lv_if_eq C.1 C.2.1 d ht (fun h => kt (by cases b; rfl; exact absurd h (by decide))) (fun h => kf (by cases b; exact absurd rfl h; rfl))
theorem z_ifB_ne (C : CallFix p m c cc nL s args Ts own) {b : Bool} {off : Int} {tgt : Nat} (d : decode cc pc = .ok (.ifCond .ne off, 3)) (ht : (pc : Int) + off = (tgt : Int)) (kt : b = true → W p l e R s m args below meth c H locs cells slots Q (F0 m tgt ls rest)) (kf : b = false → W p l e R s m args below meth c H locs cells slots Q (F0 m (pc + 3) ls rest)) : W p l e R s m args below meth c H locs cells slots Q (F0 m pc ls (.int (iZ (zB b)) :: rest)) := lv_if_ne C.1 C.2.1 d ht (fun h => kt (by cases b; exact absurd rfl h; rfl)) (fun h => kf (by cases b with | false => rfl | true => exact absurd h (by decide)))
theorem z_icmp_eq (C : CallFix p m c cc nL s args Ts own) {a b : Int} {off : Int} {tgt : Nat} (ha : -2147483648 ≤ a ∧ a ≤ 2147483647) (hb : -2147483648 ≤ b ∧ b ≤ 2147483647) (d : decode cc pc = .ok (.if_icmp .eq off, 3)) (ht : (pc : Int) + off = (tgt : Int)) (kt : a = b → W p l e R s m args below meth c H locs cells slots Q (F0 m tgt ls rest)) (kf : ¬ a = b → W p l e R s m args below meth c H locs cells slots Q (F0 m (pc + 3) ls rest)) : W p l e R s m args below meth c H locs cells slots Q (F0 m pc ls (.int (iZ b) :: .int (iZ a) :: rest)) := lv_icmp_eq C.1 C.2.1 d ht (fun h => kt ((iZ_eq ha hb).mp h)) (fun h => kf (fun g => h ((iZ_eq ha hb).mpr g)))
theorem z_icmp_ne (C : CallFix p m c cc nL s args Ts own) {a b : Int} {off : Int} {tgt : Nat} (ha : -2147483648 ≤ a ∧ a ≤ 2147483647) (hb : -2147483648 ≤ b ∧ b ≤ 2147483647) (d : decode cc pc = .ok (.if_icmp .ne off, 3)) (ht : (pc : Int) + off = (tgt : Int)) (kt : ¬ a = b → W p l e R s m args below meth c H locs cells slots Q (F0 m tgt ls rest)) (kf : a = b → W p l e R s m args below meth c H locs cells slots Q (F0 m (pc + 3) ls rest)) : W p l e R s m args below meth c H locs cells slots Q (F0 m pc ls (.int (iZ b) :: .int (iZ a) :: rest)) := lv_icmp_ne C.1 C.2.1 d ht (fun h => kt (fun g => h ((iZ_eq ha hb).mpr g))) (fun h => kf ((iZ_eq ha hb).mp h))
theorem z_icmp_lt (C : CallFix p m c cc nL s args Ts own) {a b : Int} {off : Int} {tgt : Nat} (ha : -2147483648 ≤ a ∧ a ≤ 2147483647) (hb : -2147483648 ≤ b ∧ b ≤ 2147483647) (d : decode cc pc = .ok (.if_icmp .lt off, 3)) (ht : (pc : Int) + off = (tgt : Int)) (kt : a < b → W p l e R s m args below meth c H locs cells slots Q (F0 m tgt ls rest)) (kf : b ≤ a → W p l e R s m args below meth c H locs cells slots Q (F0 m (pc + 3) ls rest)) : W p l e R s m args below meth c H locs cells slots Q (F0 m pc ls (.int (iZ b) :: .int (iZ a) :: rest)) := lv_icmp_lt C.1 C.2.1 d ht (fun h => kt ((iZ_lt ha hb).mp h)) (fun h => kf (Int.not_lt.mp ((not_congr (iZ_lt ha hb)).mp h)))
theorem z_icmp_ge (C : CallFix p m c cc nL s args Ts own) {a b : Int} {off : Int} {tgt : Nat} (ha : -2147483648 ≤ a ∧ a ≤ 2147483647) (hb : -2147483648 ≤ b ∧ b ≤ 2147483647) (d : decode cc pc = .ok (.if_icmp .ge off, 3)) (ht : (pc : Int) + off = (tgt : Int)) (kt : b ≤ a → W p l e R s m args below meth c H locs cells slots Q (F0 m tgt ls rest)) (kf : a < b → W p l e R s m args below meth c H locs cells slots Q (F0 m (pc + 3) ls rest)) : W p l e R s m args below meth c H locs cells slots Q (F0 m pc ls (.int (iZ b) :: .int (iZ a) :: rest)) := lv_icmp_ge C.1 C.2.1 d ht (fun h => kt ((iZ_le hb ha).mp h)) (fun h => kf (Int.not_le.mp ((not_congr (iZ_le hb ha)).mp h)))
theorem z_icmp_gt (C : CallFix p m c cc nL s args Ts own) {a b : Int} {off : Int} {tgt : Nat} (ha : -2147483648 ≤ a ∧ a ≤ 2147483647) (hb : -2147483648 ≤ b ∧ b ≤ 2147483647) (d : decode cc pc = .ok (.if_icmp .gt off, 3)) (ht : (pc : Int) + off = (tgt : Int)) (kt : b < a → W p l e R s m args below meth c H locs cells slots Q (F0 m tgt ls rest)) (kf : a ≤ b → W p l e R s m args below meth c H locs cells slots Q (F0 m (pc + 3) ls rest)) : W p l e R s m args below meth c H locs cells slots Q (F0 m pc ls (.int (iZ b) :: .int (iZ a) :: rest)) := lv_icmp_gt C.1 C.2.1 d ht (fun h => kt ((iZ_lt hb ha).mp h)) (fun h => kf (Int.not_lt.mp ((not_congr (iZ_lt hb ha)).mp h)))
theorem z_icmp_le (C : CallFix p m c cc nL s args Ts own) {a b : Int} {off : Int} {tgt : Nat} (ha : -2147483648 ≤ a ∧ a ≤ 2147483647) (hb : -2147483648 ≤ b ∧ b ≤ 2147483647) (d : decode cc pc = .ok (.if_icmp .le off, 3)) (ht : (pc : Int) + off = (tgt : Int)) (kt : a ≤ b → W p l e R s m args below meth c H locs cells slots Q (F0 m tgt ls rest)) (kf : b < a → W p l e R s m args below meth c H locs cells slots Q (F0 m (pc + 3) ls rest)) : W p l e R s m args below meth c H locs cells slots Q (F0 m pc ls (.int (iZ b) :: .int (iZ a) :: rest)) := lv_icmp_le C.1 C.2.1 d ht (fun h => kt ((iZ_le ha hb).mp h)) (fun h => kf (Int.not_le.mp ((not_congr (iZ_le ha hb)).mp h)))
theorem lN_cmp0 {a b : Nat} (ha : a < 18446744073709551616) (hb : b < 18446744073709551616) : lg_cmp (lN a) (lN b) = 0 ↔ a = b := by
  rw [← lN_inj ha hb]
  unfold lg_cmp
  split
  · rename_i h
    refine ⟨fun h2 => absurd h2 (by decide), fun h2 => ?_⟩
    rw [h2] at h
    exact absurd h (Int64.lt_irrefl)
  · split
    · rename_i h
      exact ⟨fun _ => h, fun _ => rfl⟩
    · rename_i h
      exact ⟨fun h2 => absurd h2 (by decide), fun h2 => absurd h2 h⟩
theorem lN_cmp {a b : Nat} (ha : a < 9223372036854775808) (hb : b < 9223372036854775808) : lg_cmp (lN a) (lN b) = iZ (if b < a then 1 else if a = b then 0 else -1) := by
  unfold lg_cmp
  by_cases h : b < a
  · rw [if_pos ((lN_lt63 hb ha).mpr h), if_pos h]
    rfl
  · rw [if_neg (fun h2 => h ((lN_lt63 hb ha).mp h2)), if_neg h]
    by_cases h3 : a = b
    · rw [if_pos (by rw [h3]), if_pos h3]
      rfl
    · rw [if_neg (fun h2 => h3 ((lN_inj (by omega) (by omega)).mp h2)), if_neg h3]
      rfl
theorem z_lc_eq (C : CallFix p m c cc nL s args Ts own) {a b : Nat} {off : Int} {tgt : Nat} (ha : a < 18446744073709551616) (hb : b < 18446744073709551616) (d1 : decode cc pc = .ok (.lcmp, 1)) (d : decode cc (pc + 1) = .ok (.ifCond .eq off, 3)) (ht : ((pc + 1 : Nat) : Int) + off = (tgt : Int)) (kt : a = b → W p l e R s m args below meth c H locs cells slots Q (F0 m tgt ls rest)) (kf : ¬ a = b → W p l e R s m args below meth c H locs cells slots Q (F0 m (pc + 4) ls rest)) : W p l e R s m args below meth c H locs cells slots Q (F0 m pc ls (.long (lN b) :: .long (lN a) :: rest)) := by
  refine W.lcmp C.1 C.2.1 d1 ?_
  refine lv_if_eq C.1 C.2.1 d ht (fun h => kt ?_) (fun h => kf ?_)
  · have h2 := (lN_cmp0 ha hb).mp h
    exact h2
  · have h2 := (not_congr (lN_cmp0 ha hb)).mp h
    exact h2
theorem z_lc_ne (C : CallFix p m c cc nL s args Ts own) {a b : Nat} {off : Int} {tgt : Nat} (ha : a < 18446744073709551616) (hb : b < 18446744073709551616) (d1 : decode cc pc = .ok (.lcmp, 1)) (d : decode cc (pc + 1) = .ok (.ifCond .ne off, 3)) (ht : ((pc + 1 : Nat) : Int) + off = (tgt : Int)) (kt : ¬ a = b → W p l e R s m args below meth c H locs cells slots Q (F0 m tgt ls rest)) (kf : a = b → W p l e R s m args below meth c H locs cells slots Q (F0 m (pc + 4) ls rest)) : W p l e R s m args below meth c H locs cells slots Q (F0 m pc ls (.long (lN b) :: .long (lN a) :: rest)) := by
  refine W.lcmp C.1 C.2.1 d1 ?_
  refine lv_if_ne C.1 C.2.1 d ht (fun h => kt ?_) (fun h => kf ?_)
  · have h2 := (not_congr (lN_cmp0 ha hb)).mp h
    exact h2
  · have h2 := (lN_cmp0 ha hb).mp h
    exact h2
theorem z_lc_lt (C : CallFix p m c cc nL s args Ts own) {a b : Nat} {off : Int} {tgt : Nat} (ha : a < 9223372036854775808) (hb : b < 9223372036854775808) (d1 : decode cc pc = .ok (.lcmp, 1)) (d : decode cc (pc + 1) = .ok (.ifCond .lt off, 3)) (ht : ((pc + 1 : Nat) : Int) + off = (tgt : Int)) (kt : a < b → W p l e R s m args below meth c H locs cells slots Q (F0 m tgt ls rest)) (kf : b ≤ a → W p l e R s m args below meth c H locs cells slots Q (F0 m (pc + 4) ls rest)) : W p l e R s m args below meth c H locs cells slots Q (F0 m pc ls (.long (lN b) :: .long (lN a) :: rest)) := by
  refine W.lcmp C.1 C.2.1 d1 ?_
  have e : lg_cmp (lN a) (lN b) = iZ (if b < a then 1 else if a = b then 0 else -1) := lN_cmp ha hb
  rw [e]
  refine z_if_lt C (by split <;> first | omega | (split <;> omega)) d ht (fun h => kt ?_) (fun h => kf ?_)
  · split at h
    · omega
    · split at h <;> omega
  · split at h
    · omega
    · split at h <;> omega
theorem z_lc_ge (C : CallFix p m c cc nL s args Ts own) {a b : Nat} {off : Int} {tgt : Nat} (ha : a < 9223372036854775808) (hb : b < 9223372036854775808) (d1 : decode cc pc = .ok (.lcmp, 1)) (d : decode cc (pc + 1) = .ok (.ifCond .ge off, 3)) (ht : ((pc + 1 : Nat) : Int) + off = (tgt : Int)) (kt : b ≤ a → W p l e R s m args below meth c H locs cells slots Q (F0 m tgt ls rest)) (kf : a < b → W p l e R s m args below meth c H locs cells slots Q (F0 m (pc + 4) ls rest)) : W p l e R s m args below meth c H locs cells slots Q (F0 m pc ls (.long (lN b) :: .long (lN a) :: rest)) := by
  refine W.lcmp C.1 C.2.1 d1 ?_
  have e : lg_cmp (lN a) (lN b) = iZ (if b < a then 1 else if a = b then 0 else -1) := lN_cmp ha hb
  rw [e]
  refine z_if_ge C (by split <;> first | omega | (split <;> omega)) d ht (fun h => kt ?_) (fun h => kf ?_)
  · split at h
    · omega
    · split at h <;> omega
  · split at h
    · omega
    · split at h <;> omega
theorem z_lc_gt (C : CallFix p m c cc nL s args Ts own) {a b : Nat} {off : Int} {tgt : Nat} (ha : a < 9223372036854775808) (hb : b < 9223372036854775808) (d1 : decode cc pc = .ok (.lcmp, 1)) (d : decode cc (pc + 1) = .ok (.ifCond .gt off, 3)) (ht : ((pc + 1 : Nat) : Int) + off = (tgt : Int)) (kt : b < a → W p l e R s m args below meth c H locs cells slots Q (F0 m tgt ls rest)) (kf : a ≤ b → W p l e R s m args below meth c H locs cells slots Q (F0 m (pc + 4) ls rest)) : W p l e R s m args below meth c H locs cells slots Q (F0 m pc ls (.long (lN b) :: .long (lN a) :: rest)) := by
  refine W.lcmp C.1 C.2.1 d1 ?_
  have e : lg_cmp (lN a) (lN b) = iZ (if b < a then 1 else if a = b then 0 else -1) := lN_cmp ha hb
  rw [e]
  refine z_if_gt C (by split <;> first | omega | (split <;> omega)) d ht (fun h => kt ?_) (fun h => kf ?_)
  · split at h
    · omega
    · split at h <;> omega
  · split at h
    · omega
    · split at h <;> omega
theorem z_lc_le (C : CallFix p m c cc nL s args Ts own) {a b : Nat} {off : Int} {tgt : Nat} (ha : a < 9223372036854775808) (hb : b < 9223372036854775808) (d1 : decode cc pc = .ok (.lcmp, 1)) (d : decode cc (pc + 1) = .ok (.ifCond .le off, 3)) (ht : ((pc + 1 : Nat) : Int) + off = (tgt : Int)) (kt : a ≤ b → W p l e R s m args below meth c H locs cells slots Q (F0 m tgt ls rest)) (kf : b < a → W p l e R s m args below meth c H locs cells slots Q (F0 m (pc + 4) ls rest)) : W p l e R s m args below meth c H locs cells slots Q (F0 m pc ls (.long (lN b) :: .long (lN a) :: rest)) := by
  refine W.lcmp C.1 C.2.1 d1 ?_
  have e : lg_cmp (lN a) (lN b) = iZ (if b < a then 1 else if a = b then 0 else -1) := lN_cmp ha hb
  rw [e]
  refine z_if_le C (by split <;> first | omega | (split <;> omega)) d ht (fun h => kt ?_) (fun h => kf ?_)
  · split at h
    · omega
    · split at h <;> omega
  · split at h
    · omega
    · split at h <;> omega
-- ends: heap as it was
abbrev zQ (below : List Frame) (as : List Value) (s : State) (v : Value) : State → Prop := MQ below (fun _ st o t => o = .returned (some v) ∧ t.heap = st.heap) as.toArray s 0 0 (fun _ => False)
end ZR
/-- a pure static method: it answers v, and the heap stays; need: what its call takes of the locals' room -/
def zP (l : Launch) (y : MethodName) (fr need : Nat) (as : List Value) (v : Value) : Prop :=
  ∃ (bytes : ByteArray) (maxL lo : Nat) (ret : Option FieldType), zS y bytes maxL ret ∧ need = 8 + (maxL + 11) + lo ∧
    (y.cls ≠ "java/lang/invoke/MethodHandle" ∧ y.cls ≠ "java/lang/invoke/VarHandle" ∧ (parseMethodDescriptor y.desc).map (fun d => d.parameters.length) = some as.length) ∧
    Met l y (Cond.code y bytes maxL ret :: T0) { frames := fr, cells := 0, slots := 0, locals := lo } (fun a _ => a = as.toArray) (fun _ st o t => o = .returned (some v) ∧ t.heap = st.heap) 0 0 (fun _ => False)
theorem zP.intro {l : Launch} {y : MethodName} {fr need lo nA : Nat} {as : List Value} {v : Value} {cc : ByteArray} {maxL : Nat} {ret : Option FieldType} {own : String} (hz : zS y cc maxL ret) (hy : plainName y.cls = true) (ho : own = y.cls) (hn : need = 8 + (maxL + 11) + lo)
    (hd : y.cls ≠ "java/lang/invoke/MethodHandle" ∧ y.cls ≠ "java/lang/invoke/VarHandle" ∧ (parseMethodDescriptor y.desc).map (fun d => d.parameters.length) = some nA) (hA : as.length = nA) (hle : (lg_sl as).length ≤ maxL)
    (body : ∀ (p : Program) (e : Env) (s : State) (m : MethodId) (below : List Frame) (meth : Method) (c : Code) (ls : Array Slot), CallFix p m c cc maxL s as.toArray T0 own → meth.sig.returnType = ret → meth.locks = false → lv_has ls maxL (lv_args 0 as) →
      W p l e { frames := fr, cells := 0, slots := 0, locals := lo } s m as.toArray below meth c s.heap [] 0 0 (zQ below as s v) (F0 m 0 ls [])) : zP l y fr need as v := by
  subst hA
  refine ⟨cc, maxL, lo, ret, hz, hn, hd, ?_⟩
  refine Met.ofW (ws' := T0) hy rfl ?_
  intro p e s m args below meth c s₁ B hml hv
  subst hv
  have hts := atoms_spec (ws := Cond.code y cc maxL ret :: T0) B.pre
  have hown : s.vm.findClass own = some m.cls := by rw [ho]; exact findClass_of_methodNamed B.named
  rw [lg_entry_eq]
  exact body p e s m below meth c _ ⟨B.exec, B.bytes, hml, hown, fun w h => hts w (List.mem_cons_of_mem _ h)⟩ B.returns B.notSynchronized (lv_entry as hle)
abbrev zQv (below : List Frame) (as : List Value) (s : State) : State → Prop := MQ below (fun _ st o t => o = .returned none ∧ t.heap = st.heap) as.toArray s 0 0 (fun _ => False)
/-- a pure static method: it answers nothing, and the heap stays; need: what its call takes of the locals' room -/
def zPv (l : Launch) (y : MethodName) (fr need : Nat) (as : List Value) : Prop :=
  ∃ (bytes : ByteArray) (maxL lo : Nat) (ret : Option FieldType), zS y bytes maxL ret ∧ need = 8 + (maxL + 11) + lo ∧
    (y.cls ≠ "java/lang/invoke/MethodHandle" ∧ y.cls ≠ "java/lang/invoke/VarHandle" ∧ (parseMethodDescriptor y.desc).map (fun d => d.parameters.length) = some as.length) ∧
    Met l y (Cond.code y bytes maxL ret :: T0) { frames := fr, cells := 0, slots := 0, locals := lo } (fun a _ => a = as.toArray) (fun _ st o t => o = .returned none ∧ t.heap = st.heap) 0 0 (fun _ => False)
theorem zPv.intro {l : Launch} {y : MethodName} {fr need lo nA : Nat} {as : List Value} {cc : ByteArray} {maxL : Nat} {ret : Option FieldType} {own : String} (hz : zS y cc maxL ret) (hy : plainName y.cls = true) (ho : own = y.cls) (hn : need = 8 + (maxL + 11) + lo)
    (hd : y.cls ≠ "java/lang/invoke/MethodHandle" ∧ y.cls ≠ "java/lang/invoke/VarHandle" ∧ (parseMethodDescriptor y.desc).map (fun d => d.parameters.length) = some nA) (hA : as.length = nA) (hle : (lg_sl as).length ≤ maxL)
    (body : ∀ (p : Program) (e : Env) (s : State) (m : MethodId) (below : List Frame) (meth : Method) (c : Code) (ls : Array Slot), CallFix p m c cc maxL s as.toArray T0 own → meth.sig.returnType = ret → meth.locks = false → lv_has ls maxL (lv_args 0 as) →
      W p l e { frames := fr, cells := 0, slots := 0, locals := lo } s m as.toArray below meth c s.heap [] 0 0 (zQv below as s) (F0 m 0 ls [])) : zPv l y fr need as := by
  subst hA
  refine ⟨cc, maxL, lo, ret, hz, hn, hd, ?_⟩
  refine Met.ofW (ws' := T0) hy rfl ?_
  intro p e s m args below meth c s₁ B hml hv
  subst hv
  have hts := atoms_spec (ws := Cond.code y cc maxL ret :: T0) B.pre
  have hown : s.vm.findClass own = some m.cls := by rw [ho]; exact findClass_of_methodNamed B.named
  rw [lg_entry_eq]
  exact body p e s m below meth c _ ⟨B.exec, B.bytes, hml, hown, fun w h => hts w (List.mem_cons_of_mem _ h)⟩ B.returns B.notSynchronized (lv_entry as hle)
theorem T0_code {y : MethodName} {bytes : ByteArray} {maxL : Nat} {ret : Option FieldType} (h : Cond.code y bytes maxL ret ∈ lw_tbl) : Cond.code y bytes maxL ret ∈ T0 := T0_of h rfl
theorem zg {own : String} {idx : Nat} {y : MethodName} {bytes : ByteArray} {maxL : Nat} {ret : Option FieldType} (h1 : Cond.methodLink own idx y ∈ lw_tbl) (h : zS y bytes maxL ret) : GoodIn T0 (va_wsS own idx y (Cond.code y bytes maxL ret :: T0)) := by
  intro w hw
  have hm : w ∈ T0 := by
    rcases List.mem_append.mp hw with hw | hw
    · simp only [List.mem_cons, List.not_mem_nil, or_false] at hw
      rcases hw with rfl | rfl | rfl
      · exact T0_of h1 rfl
      · exact T0_of h.1 rfl
      · exact T0_of h.2.1 rfl
    · rcases List.mem_cons.mp hw with rfl | hw
      · exact T0_of h.2.2 rfl
      · exact hw
  exact ⟨hm, T0_good hm⟩
section ZC
variable {p : Program} {l : Launch} {e : Env} {R : Room} {s : State} {m : MethodId} {args : Array Value} {below : List Frame} {meth : Method} {c : Code} {H : Heap} {locs : List Loc} {cells slots : Nat} {Q : State → Prop}
variable {cc : ByteArray} {pc nL : Nat} {ls : Array Slot} {rest st : List Value} {Ts : List Cond} {own : String} {lv : List (Nat × Value)}
theorem z_iret {as : List Value} {v : Value} {r : Int32} (C : CallFix p m c cc nL s as.toArray Ts own) (hr : meth.sig.returnType = some .int) (hk : meth.locks = false) (d : decode cc pc = .ok (.ireturn, 1)) (hv : Value.int r = v) : W p l e R s m as.toArray below meth c s.heap [] 0 0 (zQ below as s v) (F0 m pc ls [.int r]) := by
  subst hv
  exact W.iret C.1 C.2.1 hr (fun t ht _ => ⟨rfl, ht⟩) (fun q h => by cases h) d hk
theorem z_zret {as : List Value} {v : Value} {r : Int32} {ty : FieldType} (C : CallFix p m c cc nL s as.toArray Ts own) (hr : meth.sig.returnType = some ty) (hk : meth.locks = false) (d : decode cc pc = .ok (.ireturn, 1)) (hn : narrow ty (.int r) = .int r) (hv : Value.int r = v) : W p l e R s m as.toArray below meth c s.heap [] 0 0 (zQ below as s v) (F0 m pc ls [.int r]) := by
  subst hv
  exact W.zret C.1 C.2.1 hr hn (fun t ht _ => ⟨rfl, ht⟩) (fun q h => by cases h) d hk
theorem z_lret {as : List Value} {v : Value} {r : Int64} (C : CallFix p m c cc nL s as.toArray Ts own) (hr : meth.sig.returnType = some .long) (hk : meth.locks = false) (d : decode cc pc = .ok (.lreturn, 1)) (hv : Value.long r = v) : W p l e R s m as.toArray below meth c s.heap [] 0 0 (zQ below as s v) (F0 m pc ls [.long r]) := by
  subst hv
  exact W.lret C.1 C.2.1 hr (fun t ht _ => ⟨rfl, ht⟩) (fun q h => by cases h) d hk
theorem z_nB (b : Bool) : narrow .boolean (.int (iZ (zB b))) = .int (iZ (zB b)) := by cases b <;> rfl
theorem z_ishr (C : CallFix p m c cc nL s args Ts own) {z y : Int} (n j : Nat) (hz : z = (n : Int)) (hn : n < 2147483648) (hy : y = (j : Int)) (hj : j < 32) (d : decode cc pc = .ok (.ishr, 1)) (k : W p l e R s m args below meth c H locs cells slots Q (F0 m (pc + 1) ls (.int (iZ ((n >>> j : Nat) : Int)) :: rest))) : W p l e R s m args below meth c H locs cells slots Q (F0 m pc ls (.int (iZ y) :: .int (iZ z) :: rest)) := by
  subst hz hy
  refine lv_ishr C.1 C.2.1 d ?_
  have h4 : ∀ j : Fin 32, (((nI j.val) &&& 31).toBitVec.smod 32).toNat = j.val := by decide +kernel
  rw [iZ_nI n, iZ_nI j, pk_shrN (by omega) _ j (h4 ⟨j, hj⟩), ← Nat.shiftRight_eq_div_pow, ← iZ_nI]
  exact k
theorem z_ishl1 (C : CallFix p m c cc nL s args Ts own) {y : Int} (j : Nat) (hy : y = (j : Int)) (hj : j < 31) (d : decode cc pc = .ok (.ishl, 1)) (k : W p l e R s m args below meth c H locs cells slots Q (F0 m (pc + 1) ls (.int (iZ ((1 <<< j : Nat) : Int)) :: rest))) : W p l e R s m args below meth c H locs cells slots Q (F0 m pc ls (.int (iZ y) :: .int (iZ 1) :: rest)) := by
  subst hy
  refine lv_ishl C.1 C.2.1 d ?_
  have h4 : ∀ j : Fin 31, iZ 1 <<< ((nI j.val) &&& 31) = nI (1 <<< j.val) := by decide +kernel
  rw [iZ_nI j, h4 ⟨j, hj⟩, ← iZ_nI]
  exact k
theorem z_iand1 (C : CallFix p m c cc nL s args Ts own) {z : Int} (n : Nat) (hz : z = (n : Int)) (hn : n < 2147483648) (d : decode cc pc = .ok (.iand, 1)) (k : W p l e R s m args below meth c H locs cells slots Q (F0 m (pc + 1) ls (.int (iZ ((n % 2 : Nat) : Int)) :: rest))) : W p l e R s m args below meth c H locs cells slots Q (F0 m pc ls (.int (iZ 1) :: .int (iZ z) :: rest)) := by
  subst hz
  refine lv_iand C.1 C.2.1 d ?_
  rw [iZ_nI n, pk_andN (by omega) 1 (by decide), ← iZ_nI]
  exact k
theorem z_tableIn (C : CallFix p m c cc nL s args Ts own) {dflt lo hi : Int} {offs : Array Int} {len : Nat} {z off : Int} {tgt : Nat} (d : decode cc pc = .ok (.tableswitch dflt lo hi offs, len)) (hz : -2147483648 ≤ z ∧ z ≤ 2147483647) (h1 : lo ≤ z) (h2 : z ≤ hi) (ho : offs[(z - lo).toNat]? = some off) (ht : (pc : Int) + off = (tgt : Int)) (k : W p l e R s m args below meth c H locs cells slots Q (F0 m tgt ls rest)) : W p l e R s m args below meth c H locs cells slots Q (F0 m pc ls (.int (iZ z) :: rest)) := lv_tableIn C.1 C.2.1 d (by rw [iZ_toInt hz]; omega) (by rw [iZ_toInt hz]; omega) (by rw [iZ_toInt hz]; exact ho) ht k
theorem z_tableOut (C : CallFix p m c cc nL s args Ts own) {dflt lo hi : Int} {offs : Array Int} {len : Nat} {z : Int} {tgt : Nat} (d : decode cc pc = .ok (.tableswitch dflt lo hi offs, len)) (hz : -2147483648 ≤ z ∧ z ≤ 2147483647) (h : z < lo ∨ hi < z) (ht : (pc : Int) + dflt = (tgt : Int)) (k : W p l e R s m args below meth c H locs cells slots Q (F0 m tgt ls rest)) : W p l e R s m args below meth c H locs cells slots Q (F0 m pc ls (.int (iZ z) :: rest)) := lv_tableOut C.1 C.2.1 d (by rw [iZ_toInt hz]; exact h) ht k
/-- a call of a pure static method -/
theorem z_call (C : CallFix p m c cc nL s args T0 own) {y : MethodName} {fr need idx : Nat} {as : List Value} {v : Value} (hM : zP l y fr need as v) (hG : Cond.methodLink own idx y ∈ lw_tbl) (hR : fr + 1 ≤ R.frames ∧ need ≤ R.locals) (hf : cells ≤ R.cells ∧ slots ≤ R.slots) (hl : lv_has ls nL lv) (hcat : (rest.map fun v => v.category).sum ≤ 8) (hst : st = as.reverse ++ rest) (d : decode cc pc = .ok (.invokestatic idx, 3))
    (k : W p l e R s m args below meth c H locs cells slots Q (F0 m (pc + 3) ls (v :: rest))) : W p l e R s m args below meth c H locs cells slots Q (F0 m pc ls st) := by
  obtain ⟨bytes, maxL, lo, ret, hz, hn, hd, hM⟩ := hM
  have cw := va_cwS (R := R) (bytes := bytes) (maxL := maxL) (ret := ret) (ws' := T0) (rm := { frames := fr, cells := 0, slots := 0, locals := lo }) as.length C.2.2.2.2 (zg hG hz) rfl rfl rfl hd ⟨hR.1, by rw [hn] at hR; exact hR.2⟩
  have hr := va_runS (p := p) (l := l) (e := e) (below := below) (meth := meth) (c := c) (H := H) (locs := locs) (cells := cells) (slots := slots) (g := F0 m pc ls st) (rest := rest) C hM cw ⟨fun a U g mk q => q, fun U hU hW => rfl⟩ rfl rfl hl.1 hst (lv_room hcat) d ⟨by simpa using hf.1, by simpa using hf.2⟩
  intro T hT X
  obtain ⟨v2, st₀, t, T', L, h0, X', hL, e1, e2, ⟨hv, hh⟩, st2⟩ := hr T hT X
  cases hv
  have hL0 : L = [] := by
    cases L with
    | nil => rfl
    | cons q L => exact (hL q List.mem_cons_self).elim
  subst hL0
  rw [List.append_nil] at X'
  obtain ⟨t2, a1, b1⟩ := k T' (by rw [e1, hh, h0]) X'
  exact ⟨t2, st2 t2 a1, b1⟩
/-- .. that answers nothing: a call of a pure static method -/
theorem z_callv (C : CallFix p m c cc nL s args T0 own) {y : MethodName} {fr need idx : Nat} {as : List Value} (hM : zPv l y fr need as) (hG : Cond.methodLink own idx y ∈ lw_tbl) (hR : fr + 1 ≤ R.frames ∧ need ≤ R.locals) (hf : cells ≤ R.cells ∧ slots ≤ R.slots) (hl : lv_has ls nL lv) (hcat : (rest.map fun v => v.category).sum ≤ 8) (hst : st = as.reverse ++ rest) (d : decode cc pc = .ok (.invokestatic idx, 3))
    (k : W p l e R s m args below meth c H locs cells slots Q (F0 m (pc + 3) ls rest)) : W p l e R s m args below meth c H locs cells slots Q (F0 m pc ls st) := by
  obtain ⟨bytes, maxL, lo, ret, hz, hn, hd, hM⟩ := hM
  have cw := va_cwS (R := R) (bytes := bytes) (maxL := maxL) (ret := ret) (ws' := T0) (rm := { frames := fr, cells := 0, slots := 0, locals := lo }) as.length C.2.2.2.2 (zg hG hz) rfl rfl rfl hd ⟨hR.1, by rw [hn] at hR; exact hR.2⟩
  have hr := va_runS (p := p) (l := l) (e := e) (below := below) (meth := meth) (c := c) (H := H) (locs := locs) (cells := cells) (slots := slots) (g := F0 m pc ls st) (rest := rest) C hM cw ⟨fun a U g mk q => q, fun U hU hW => rfl⟩ rfl rfl hl.1 hst (lv_room hcat) d ⟨by simpa using hf.1, by simpa using hf.2⟩
  intro T hT X
  obtain ⟨v2, st₀, t, T', L, h0, X', hL, e1, e2, ⟨hv, hh⟩, st2⟩ := hr T hT X
  cases hv
  have hL0 : L = [] := by
    cases L with
    | nil => rfl
    | cons q L => exact (hL q List.mem_cons_self).elim
  subst hL0
  rw [List.append_nil] at X'
  obtain ⟨t2, a1, b1⟩ := k T' (by rw [e1, hh, h0]) X'
  exact ⟨t2, st2 t2 a1, b1⟩
theorem z_vret {as : List Value} (C : CallFix p m c cc nL s as.toArray Ts own) (hr : meth.sig.returnType = none) (hk : meth.locks = false) (d : decode cc pc = .ok (.return_, 1)) : W p l e R s m as.toArray below meth c s.heap [] 0 0 (zQv below as s) (F0 m pc ls []) := W.vret C.1 C.2.1 hr (fun t ht _ => ⟨rfl, ht⟩) (fun q h => by cases h) d hk
end ZC
/-! ===== polys as numbers: what the methods answer ===== -/
section MA
theorem zB_f {b : Bool} (h : b = false) : (0 : Int) = zB b := by rw [h]; rfl
theorem zB_t {b : Bool} (h : b = true) : (1 : Int) = zB b := by rw [h]; rfl
theorem zB_rng (b : Bool) : 0 ≤ zB b ∧ zB b ≤ 1 := by cases b <;> decide
/-- the digit at a place, of an int -/
def tb (n : Nat) (z : Int) : Bool := decide (0 ≤ z) && (decide (z < 64) && n.testBit z.toNat)
theorem tb_neg {n : Nat} {z : Int} (h : z < 0) : tb n z = false := by
  have : ¬ 0 ≤ z := by omega
  simp [tb, this]
theorem tb_ge {n : Nat} {z : Int} (h : 64 ≤ z) : tb n z = false := by
  have : ¬ z < 64 := by omega
  simp [tb, this]
theorem tb_in {n : Nat} {z : Int} (h0 : 0 ≤ z) (h : z < 64) : tb n z = n.testBit z.toNat := by simp [tb, h0, h]
theorem tb_k {n k : Nat} {z : Int} (hz : z = (k : Int)) (h : k < 64) : tb n z = n.testBit k := by
  rw [tb_in (by omega) (by omega)]
  congr 1
  omega
theorem tb0 (b k : Nat) : tb (b >>> k) 0 = b.testBit k := by
  rw [tb_in (by decide) (by decide), Nat.testBit_shiftRight]
  rfl
theorem tb_0 (n : Nat) : tb n 0 = n.testBit 0 := by
  rw [tb_in (by decide) (by decide)]
  rfl
theorem bit_and (n k : Nat) : ((n >>> k) &&& 1 = 1) ↔ n.testBit k = true := by
  rw [Nat.testBit_eq_decide_div_mod_eq, Nat.shiftRight_eq_div_pow, Nat.and_one_is_mod]
  simp
theorem bit_and0 (n k : Nat) : (¬ (n >>> k) &&& 1 = 1) ↔ n.testBit k = false := by
  rw [not_congr (bit_and n k)]
  simp
/-- DEGREE -/
def tp (n : Nat) : Int := if n = 0 then -1 else (Nat.log2 n : Int)
theorem tp_0 : tp 0 = -1 := rfl
theorem tp_pos {n : Nat} (h : n ≠ 0) : tp n = (Nat.log2 n : Int) := if_neg h
theorem tp_ge (n : Nat) : -1 ≤ tp n := by
  unfold tp
  split <;> omega
theorem shr_0 {n k : Nat} : n >>> k = 0 ↔ n < 2 ^ k := by
  rw [Nat.shiftRight_eq_div_pow, Nat.div_eq_zero_iff]
  have : 2 ^ k ≠ 0 := by exact Nat.ne_of_gt (Nat.two_pow_pos k)
  simp [this]
theorem tp_lt {n k : Nat} : tp n < (k : Int) ↔ n < 2 ^ k := by
  unfold tp
  split
  · rename_i h
    subst h
    exact ⟨fun _ => Nat.two_pow_pos k, fun _ => by omega⟩
  · rename_i h
    rw [← Nat.log2_lt h]
    omega
theorem tp_shr {n k : Nat} : n >>> k = 0 ↔ tp n < (k : Int) := by rw [shr_0, tp_lt]
theorem tp_rng {n : Nat} (h : n < 18446744073709551616) : -1 ≤ tp n ∧ tp n ≤ 63 := by
  have h1 := (tp_lt (n := n) (k := 64)).mpr (by omega)
  exact ⟨tp_ge n, by omega⟩
theorem tp_le {n k : Nat} : tp n ≤ (k : Int) ↔ n < 2 ^ (k + 1) := by
  rw [← tp_lt]
  omega
theorem tp_at {n : Nat} {k : Nat} (h1 : n >>> k ≠ 0) (h2 : n >>> (k + 1) = 0) : tp n = (k : Int) := by
  have a := mt tp_shr.mpr h1
  have b := tp_shr.mp h2
  omega
theorem tp_neg {n : Nat} : tp n < 0 ↔ n = 0 := by
  have h := tp_lt (n := n) (k := 0)
  simp at h
  exact h
theorem tp_top {n k : Nat} (h : tp n = (k : Int)) : n.testBit k = true := by
  have h0 : n ≠ 0 := fun h0 => by rw [h0, tp_0] at h; omega
  rw [tp_pos h0] at h
  have h2 : n.log2 = k := by omega
  rw [← h2]
  exact Nat.testBit_log2 h0
theorem tp_hi {n k : Nat} (h : tp n < (k : Int)) : n.testBit k = false := Nat.testBit_lt_two_pow (tp_lt.mp h)
theorem xor64 {a b : Nat} (ha : a < 18446744073709551616) (hb : b < 18446744073709551616) : a ^^^ b < 18446744073709551616 := Nat.xor_lt_two_pow (n := 64) ha hb
theorem or64 {a b : Nat} (ha : a < 18446744073709551616) (hb : b < 18446744073709551616) : a ||| b < 18446744073709551616 := Nat.or_lt_two_pow (n := 64) ha hb
theorem lN_mod (n : Nat) : lN (n % 18446744073709551616) = lN n := by
  apply Int64.toBitVec.inj
  rw [lN_bv, lN_bv]
  apply BitVec.eq_of_toNat_eq
  rw [BitVec.toNat_ofNat, BitVec.toNat_ofNat]
  omega
theorem shl64 {b j : Nat} (h : tp b + (j : Int) < 64) (hj : j < 64) : b <<< j < 18446744073709551616 := by
  rcases Nat.eq_zero_or_pos b with h0 | h0
  · rw [h0, Nat.zero_shiftLeft]
    omega
  · have h1 : tp b = ((tp b).toNat : Int) := by
      have := mt tp_neg.mp (by omega : ¬ b = 0)
      omega
    have h2 : b < 2 ^ ((tp b).toNat + 1) := tp_le.mp (by omega)
    rw [Nat.shiftLeft_eq]
    have h3 : b * 2 ^ j < 2 ^ ((tp b).toNat + 1) * 2 ^ j := Nat.mul_lt_mul_of_pos_right h2 (Nat.two_pow_pos j)
    rw [← Nat.pow_add] at h3
    have h4 : 2 ^ ((tp b).toNat + 1 + j) ≤ 2 ^ 64 := Nat.pow_le_pow_right (by omega) (by omega)
    omega
/-- LOW, from the place k on, f places -/
def bpF (n : Nat) : Nat → Nat → Int
  | 0, _ => -1
  | f + 1, k => if n.testBit k = true then (k : Int) else bpF n f (k + 1)
def bp (n : Nat) : Int := bpF n 64 0
theorem bpF_t {n f k : Nat} (h : n.testBit k = true) : bpF n (f + 1) k = k := by rw [bpF, if_pos h]
theorem bpF_f {n f k : Nat} (h : n.testBit k = false) : bpF n (f + 1) k = bpF n f (k + 1) := by rw [bpF, if_neg (by rw [h]; decide)]
theorem bpF_rng (n : Nat) : ∀ (f k : Nat), -1 ≤ bpF n f k ∧ bpF n f k < (f + k : Nat) + 1 := by
  intro f
  induction f with
  | zero => intro k; rw [bpF]; omega
  | succ f ih =>
    intro k
    rw [bpF]
    split
    · omega
    · have := ih (k + 1)
      omega
theorem bp_rng (n : Nat) : -1 ≤ bp n ∧ bp n ≤ 64 := by
  have := bpF_rng n 64 0
  unfold bp
  omega
/-- PRODUCT, the first k places of the second one -/
def pmF (a b : Nat) : Nat → Nat
  | 0 => 0
  | k + 1 => if b.testBit k = true then pmF a b k ^^^ (a <<< k) else pmF a b k
def pm (a b : Nat) : Nat := pmF a b 64 % 18446744073709551616
theorem pm_lt (a b : Nat) : pm a b < 18446744073709551616 := Nat.mod_lt _ (by omega)
theorem pmF_t {a b k : Nat} (h : b.testBit k = true) : pmF a b (k + 1) = pmF a b k ^^^ (a <<< k) := by rw [pmF, if_pos h]
theorem pmF_f {a b k : Nat} (h : b.testBit k = false) : pmF a b (k + 1) = pmF a b k := by rw [pmF, if_neg (by rw [h]; decide)]
theorem pmF_top {a b k : Nat} (h : b >>> k = 0) : ∀ f : Nat, pmF a b (k + f) = pmF a b k := by
  intro f
  induction f with
  | zero => rfl
  | succ f ih =>
    rw [← Nat.add_assoc, pmF_f, ih]
    have h1 := tp_shr.mp h
    exact tp_hi (by omega)
theorem pmF_64 {a b k : Nat} (h : b >>> k = 0) (hk : k ≤ 64) : pmF a b k = pmF a b 64 := by
  have := pmF_top (a := a) h (64 - k)
  rw [show k + (64 - k) = 64 by omega] at this
  exact this.symm
/-- the division's row: b of the degree d, j places to go; what is left, and the quotient -/
def qoF (b d : Nat) : Nat → Nat → Nat → Nat × Nat
  | 0, x, q => (x, q)
  | j + 1, x, q => if x.testBit (d + j) = true then qoF b d j (x ^^^ (b <<< j)) (q ||| (1 <<< j)) else qoF b d j x q
def qo (a b : Nat) : Nat := if b = 0 then 0 else (qoF b (tp b).toNat (tp a + 1 - tp b).toNat a 0).2
def rm (a b : Nat) : Nat := a ^^^ pm (qo a b) b
theorem qoF_t {b d j x q : Nat} (h : x.testBit (d + j) = true) : qoF b d (j + 1) x q = qoF b d j (x ^^^ (b <<< j)) (q ||| (1 <<< j)) := by rw [qoF, if_pos h]
theorem qoF_f {b d j x q : Nat} (h : x.testBit (d + j) = false) : qoF b d (j + 1) x q = qoF b d j x q := by rw [qoF, if_neg (by rw [h]; decide)]
theorem one_shl64 {j : Nat} (h : j < 64) : 1 <<< j < 18446744073709551616 := by
  rw [Nat.shiftLeft_eq, Nat.one_mul]
  have : 2 ^ j ≤ 2 ^ 63 := Nat.pow_le_pow_right (by omega) (by omega)
  omega
theorem qoF_lt {b d : Nat} : ∀ (j x q : Nat), j ≤ 64 → q < 18446744073709551616 → (qoF b d j x q).2 < 18446744073709551616 := by
  intro j
  induction j with
  | zero => intro x q _ h; exact h
  | succ j ih =>
    intro x q hj hq
    rw [qoF]
    split
    · exact ih _ _ (by omega) (or64 hq (one_shl64 (by omega)))
    · exact ih _ _ (by omega) hq
theorem qo_lt {a b : Nat} (ha : a < 18446744073709551616) : qo a b < 18446744073709551616 := by
  unfold qo
  split
  · omega
  · rename_i h
    have h1 := mt tp_neg.mp h
    have h2 := tp_rng ha
    exact qoF_lt _ _ _ (by omega) (by omega)
theorem rm_lt {a b : Nat} (ha : a < 18446744073709551616) : rm a b < 18446744073709551616 := xor64 ha (pm_lt _ _)
end MA
section MB
/-- EUCLID: f steps at most; a and b the last two of the first row, x and y those of another one -/
def euF : Nat → Nat → Nat → Nat → Nat → Nat
  | 0, _, _, x, _ => x
  | f + 1, a, b, x, y => if b = 0 then x else euF f b (rm a b) y (x ^^^ pm (qo a b) y)
def eu (a b x y : Nat) : Nat := euF 65 a b x y
theorem euF_0 {f a x y : Nat} : euF f a 0 x y = x := by
  cases f with
  | zero => rfl
  | succ f => rw [euF, if_pos rfl]
theorem euF_s {f a b x y : Nat} (h : ¬ b = 0) : euF (f + 1) a b x y = euF f b (rm a b) y (x ^^^ pm (qo a b) y) := by rw [euF, if_neg h]
theorem euF_lt : ∀ (f a b x y : Nat), x < 18446744073709551616 → y < 18446744073709551616 → euF f a b x y < 18446744073709551616 := by
  intro f
  induction f with
  | zero => intro a b x y hx _; exact hx
  | succ f ih =>
    intro a b x y hx hy
    rw [euF]
    split
    · exact hx
    · exact ih _ _ _ _ hy (xor64 hx (pm_lt _ _))
theorem eu_lt {a b x y : Nat} (hx : x < 18446744073709551616) (hy : y < 18446744073709551616) : eu a b x y < 18446744073709551616 := euF_lt _ _ _ _ _ hx hy
def dv (n : Nat) : Nat := (n >>> 1) &&& 6148914691236517205
theorem dv_lt (n : Nat) : dv n < 18446744073709551616 := by
  have : dv n ≤ 6148914691236517205 := Nat.and_le_right
  omega
/-- what stands at even places, at half of them -/
def ehF (n : Nat) : Nat → Nat
  | 0 => 0
  | k + 1 => if n.testBit (2 * k) = true then ehF n k ||| (1 <<< k) else ehF n k
def eh (n : Nat) : Nat := ehF n 32
theorem ehF_t {n k : Nat} (h : n.testBit (2 * k) = true) : ehF n (k + 1) = ehF n k ||| (1 <<< k) := by rw [ehF, if_pos h]
theorem ehF_f {n k : Nat} (h : n.testBit (2 * k) = false) : ehF n (k + 1) = ehF n k := by rw [ehF, if_neg (by rw [h]; decide)]
theorem ehF_lt (n : Nat) : ∀ k : Nat, ehF n k < 2 ^ k := by
  intro k
  induction k with
  | zero => exact Nat.one_pos
  | succ k ih =>
    have h1 : ehF n k < 2 ^ (k + 1) := by rw [Nat.pow_succ]; omega
    rw [ehF]
    split
    · refine Nat.or_lt_two_pow h1 ?_
      rw [Nat.shiftLeft_eq, Nat.one_mul, Nat.pow_succ]
      have := Nat.two_pow_pos k
      omega
    · exact h1
theorem eh_lt (n : Nat) : eh n < 4294967296 := ehF_lt n 32
/-- TURNED -/
def tuF (n : Nat) (t : Int) : Nat → Nat
  | 0 => 0
  | k + 1 => if n.testBit k = true then tuF n t k ||| (1 <<< (t - (k : Int)).toNat) else tuF n t k
def tu (n : Nat) : Nat := tuF n (tp n) (tp n + 1).toNat
theorem tuF_t {n k : Nat} {t : Int} (h : n.testBit k = true) : tuF n t (k + 1) = tuF n t k ||| (1 <<< (t - (k : Int)).toNat) := by rw [tuF, if_pos h]
theorem tuF_f {n k : Nat} {t : Int} (h : n.testBit k = false) : tuF n t (k + 1) = tuF n t k := by rw [tuF, if_neg (by rw [h]; decide)]
theorem tuF_lt {n : Nat} {t : Int} (ht : t ≤ 63) : ∀ k : Nat, tuF n t k < 18446744073709551616 := by
  intro k
  induction k with
  | zero => rw [tuF]; omega
  | succ k ih =>
    rw [tuF]
    split
    · exact or64 ih (one_shl64 (by omega))
    · exact ih
theorem tu_lt {n : Nat} (h : n < 18446744073709551616) : tu n < 18446744073709551616 := tuF_lt (tp_rng h).2 _
/-- MOVED: j places to go -/
def mvF (n : Nat) : Nat → Nat → Nat
  | 0, s => s
  | j + 1, s => mvF n j (((s <<< 1) ^^^ s) ^^^ ((n >>> j) &&& 1))
def mv (n : Nat) : Nat := mvF n (tp n + 1).toNat 0 % 18446744073709551616
theorem mv_lt (n : Nat) : mv n < 18446744073709551616 := Nat.mod_lt _ (by omega)
/-- the REST of a power: j bits of t to go -/
def pwF (t x m : Nat) : Nat → Nat → Nat
  | 0, p => p
  | j + 1, p => pwF t x m j (if t.testBit j = true then rm (pm (rm (pm p p) m) x) m else rm (pm p p) m)
def pw (a t m : Nat) : Nat := pwF t (rm a m) m 8 1
theorem pwF_t {t x m j p : Nat} (h : t.testBit j = true) : pwF t x m (j + 1) p = pwF t x m j (rm (pm (rm (pm p p) m) x) m) := by rw [pwF, if_pos h]
theorem pwF_f {t x m j p : Nat} (h : t.testBit j = false) : pwF t x m (j + 1) p = pwF t x m j (rm (pm p p) m) := by rw [pwF, if_neg (by rw [h]; decide)]
theorem pwF_lt {t x m : Nat} : ∀ (j p : Nat), p < 18446744073709551616 → pwF t x m j p < 18446744073709551616 := by
  intro j
  induction j with
  | zero => intro p h; exact h
  | succ j ih =>
    intro p h
    rw [pwF]
    split
    · exact ih _ (rm_lt (pm_lt _ _))
    · exact ih _ (rm_lt (pm_lt _ _))
theorem pw_lt {a t m : Nat} : pw a t m < 18446744073709551616 := pwF_lt _ _ (by omega)
theorem bitN (n k : Nat) : (n >>> k) % 2 = 1 ↔ n.testBit k = true := by rw [← Nat.and_one_is_mod, bit_and]
theorem bitN0 (n k : Nat) : ¬ (n >>> k) % 2 = 1 ↔ n.testBit k = false := by rw [← Nat.and_one_is_mod, bit_and0]
def jo (a b : Nat) (h : Int) : Nat := if h = 0 then a ^^^ b else if h = 1 then a &&& b else if h = 2 then a ||| b else a &&& (b ^^^ 18446744073709551615)
theorem jo_lt {a b : Nat} {h : Int} (ha : a < 18446744073709551616) (hb : b < 18446744073709551616) : jo a b h < 18446744073709551616 := by
  unfold jo
  split
  · exact xor64 ha hb
  · split
    · exact Nat.lt_of_le_of_lt Nat.and_le_left ha
    · split
      · exact or64 ha hb
      · exact Nat.lt_of_le_of_lt Nat.and_le_left ha
end MB
theorem tp_rngE (n : Nat) (h : n < 18446744073709551616) : -1 ≤ tp n ∧ tp n ≤ 63 := tp_rng h
theorem eu_ltE (a b x y : Nat) (hx : x < 18446744073709551616) (hy : y < 18446744073709551616) : eu a b x y < 18446744073709551616 := eu_lt hx hy
section MC
theorem shl_xor (a b k : Nat) : (a ^^^ b) <<< k = (a <<< k) ^^^ (b <<< k) := by
  apply Nat.eq_of_testBit_eq
  intro i
  simp only [Nat.testBit_xor, Nat.testBit_shiftLeft]
  by_cases h : k ≤ i <;> simp [h]
theorem x4 (a b c d : Nat) : (a ^^^ b) ^^^ (c ^^^ d) = (a ^^^ c) ^^^ (b ^^^ d) := by
  rw [Nat.xor_assoc, Nat.xor_assoc, ← Nat.xor_assoc b c d, ← Nat.xor_assoc c b d, Nat.xor_comm b c]
theorem one_bit {i : Nat} (h : ¬ i = 0) : Nat.testBit 1 i = false := by
  cases hc : Nat.testBit 1 i with
  | false => rfl
  | true => exact absurd (Nat.testBit_one_eq_true_iff_self_eq_zero.mp hc) h
theorem pmF_xl (a a' b : Nat) : ∀ n : Nat, pmF (a ^^^ a') b n = pmF a b n ^^^ pmF a' b n := by
  intro n
  induction n with
  | zero => simp [pmF]
  | succ n ih =>
    cases h : b.testBit n with
    | true => rw [pmF_t h, pmF_t h, pmF_t h, ih, shl_xor, x4]
    | false => rw [pmF_f h, pmF_f h, pmF_f h, ih]
theorem pmF_sl (a b k : Nat) : ∀ n : Nat, pmF (a <<< k) b n = (pmF a b n) <<< k := by
  intro n
  induction n with
  | zero => exact (Nat.zero_shiftLeft k).symm
  | succ n ih =>
    cases h : b.testBit n with
    | true => rw [pmF_t h, pmF_t h, ih, shl_xor, ← Nat.shiftLeft_add, ← Nat.shiftLeft_add, Nat.add_comm]
    | false => rw [pmF_f h, pmF_f h, ih]
theorem pmF_0l (b : Nat) : ∀ n : Nat, pmF 0 b n = 0 := by
  intro n
  induction n with
  | zero => rfl
  | succ n ih =>
    cases h : b.testBit n with
    | true => rw [pmF_t h, ih, Nat.zero_shiftLeft]; rfl
    | false => rw [pmF_f h, ih]
theorem pmF_low (a b : Nat) : ∀ n : Nat, pmF a b (n + 1) = (if b.testBit 0 = true then a else 0) ^^^ ((pmF a (b >>> 1) n) <<< 1) := by
  intro n
  induction n with
  | zero =>
    cases h : b.testBit 0 with
    | true => rw [pmF_t h]; simp [pmF]
    | false => rw [pmF_f h]; simp [pmF]
  | succ n ih =>
    have e : (b >>> 1).testBit n = b.testBit (n + 1) := by rw [Nat.testBit_shiftRight, Nat.add_comm]
    cases h : b.testBit (n + 1) with
    | true => rw [pmF_t h, ih, pmF_t (e.trans h), shl_xor, ← Nat.xor_assoc, ← Nat.shiftLeft_add]
    | false => rw [pmF_f h, ih, pmF_f (e.trans h)]
theorem pmF_congr {a b b' : Nat} : ∀ n : Nat, (∀ i, i < n → b.testBit i = b'.testBit i) → pmF a b n = pmF a b' n := by
  intro n
  induction n with
  | zero => intro _; rfl
  | succ n ih =>
    intro h
    have h1 := ih (fun i hi => h i (by omega))
    have h2 := h n (by omega)
    cases h3 : b.testBit n with
    | true => rw [pmF_t h3, pmF_t (h2.symm.trans h3), h1]
    | false => rw [pmF_f h3, pmF_f (h2.symm.trans h3), h1]
theorem pmF_1l {b : Nat} : ∀ n : Nat, b < 2 ^ n → pmF 1 b n = b := by
  intro n
  induction n generalizing b with
  | zero => intro h; simp only [Nat.pow_zero] at h; rw [pmF]; omega
  | succ n ih =>
    intro h
    have h1 : b >>> 1 < 2 ^ n := by rw [Nat.shiftRight_eq_div_pow]; rw [Nat.pow_succ] at h; omega
    rw [pmF_low, ih h1]
    apply Nat.eq_of_testBit_eq
    intro i
    cases i with
    | zero => cases h0 : b.testBit 0 <;> simp [h0, Nat.testBit_xor, Nat.testBit_shiftLeft]
    | succ i => cases h0 : b.testBit 0 <;> simp [Nat.testBit_xor, Nat.testBit_shiftLeft, Nat.testBit_shiftRight, Nat.add_comm, one_bit (Nat.succ_ne_zero i)]
theorem split1 (a : Nat) : a = ((a >>> 1) <<< 1) ^^^ (if a.testBit 0 = true then 1 else 0) := by
  apply Nat.eq_of_testBit_eq
  intro i
  cases i with
  | zero => cases h0 : a.testBit 0 <;> simp [h0, Nat.testBit_xor, Nat.testBit_shiftLeft]
  | succ i => cases h0 : a.testBit 0 <;> simp [Nat.testBit_xor, Nat.testBit_shiftLeft, Nat.testBit_shiftRight, Nat.add_comm, one_bit (Nat.succ_ne_zero i)]
theorem pmF_comm : ∀ (n m a b : Nat), a < 2 ^ n → b < 2 ^ m → pmF a b m = pmF b a n := by
  intro n
  induction n with
  | zero =>
    intro m a b h _
    have : a = 0 := by simp only [Nat.pow_zero] at h; omega
    subst this
    rw [pmF_0l]
    rfl
  | succ n ih =>
    intro m a b ha hb
    have h1 : a >>> 1 < 2 ^ n := by rw [Nat.shiftRight_eq_div_pow]; rw [Nat.pow_succ] at ha; omega
    rw [pmF_low, ← ih m (a >>> 1) b h1 hb]
    conv => lhs; rw [split1 a]
    rw [pmF_xl, pmF_sl, Nat.xor_comm]
    congr 1
    cases h0 : a.testBit 0 with
    | true => rw [if_pos rfl, if_pos rfl, pmF_1l m hb]
    | false => rw [if_neg (by decide), if_neg (by decide), pmF_0l]
theorem lt2_of {x n : Nat} (h : ∀ i, n ≤ i → x.testBit i = false) : x < 2 ^ n := Nat.lt_pow_two_of_testBit x (fun i hi => h i hi)
theorem tp_down {x n : Nat} (h : tp x < ((n + 1 : Nat) : Int)) (h0 : x.testBit n = false) : tp x < (n : Int) := by
  rw [tp_lt]
  refine lt2_of (fun i hi => ?_)
  rcases Nat.eq_or_lt_of_le hi with e | e
  · rw [← e]; exact h0
  · exact tp_hi (by omega)
theorem pmF_bit {a b : Nat} : ∀ n : Nat, ∀ d : Nat, a < 2 ^ d → pmF a b n < 2 ^ (d + n) := by
  intro n
  induction n with
  | zero => intro d _; rw [pmF]; exact Nat.two_pow_pos _
  | succ n ih =>
    intro d h
    have h1 : pmF a b n < 2 ^ (d + (n + 1)) := Nat.lt_of_lt_of_le (ih d h) (Nat.pow_le_pow_right (by omega) (by omega))
    rw [pmF]
    split
    · refine Nat.xor_lt_two_pow h1 ?_
      rw [Nat.shiftLeft_eq]
      have h2 : a * 2 ^ n < 2 ^ d * 2 ^ n := Nat.mul_lt_mul_of_pos_right h (Nat.two_pow_pos n)
      rw [← Nat.pow_add] at h2
      exact Nat.lt_of_lt_of_le h2 (Nat.pow_le_pow_right (by omega) (by omega))
    · exact h1
/-- what a row of the division does: the rest is of a lesser degree, and it is the first one less the quotient's product -/
theorem qoF_spec {b d : Nat} (hd : tp b = (d : Int)) : ∀ (j x q : Nat), tp x < ((d + j : Nat) : Int) → (∀ i, i < j → q.testBit i = false) →
    tp (qoF b d j x q).1 < (d : Int) ∧ ∃ r, r < 2 ^ j ∧ (qoF b d j x q).2 = q ^^^ r ∧ (qoF b d j x q).1 = x ^^^ pmF b r j := by
  intro j
  induction j with
  | zero =>
    intro x q hx _
    exact ⟨hx, 0, Nat.one_pos, by simp [qoF], by simp [qoF, pmF]⟩
  | succ j ih =>
    intro x q hx hq
    cases h : x.testBit (d + j) with
    | true =>
      have e1 : tp (x ^^^ (b <<< j)) < ((d + j : Nat) : Int) := by
        rw [tp_lt]
        refine lt2_of (fun i hi => ?_)
        rw [Nat.testBit_xor, Nat.testBit_shiftLeft]
        rcases Nat.eq_or_lt_of_le hi with e | e
        · subst e
          rw [h, show d + j - j = d by omega, tp_top hd]
          simp
        · have h1 : x.testBit i = false := tp_hi (by omega)
          have h2 : b.testBit (i - j) = false := tp_hi (by rw [hd]; omega)
          simp [h1, h2]
      have e2 : ∀ i, i < j → (q ||| (1 <<< j)).testBit i = false := by
        intro i hi
        rw [Nat.testBit_or, Nat.testBit_shiftLeft, hq i (by omega)]
        have : ¬ i ≥ j := by omega
        simp [this]
      obtain ⟨a1, r, a2, a3, a4⟩ := ih (x ^^^ (b <<< j)) (q ||| (1 <<< j)) e1 e2
      rw [qoF_t h]
      have hr : r.testBit j = false := Nat.testBit_lt_two_pow a2
      have eq1 : q ||| (1 <<< j) = q ^^^ (1 <<< j) := by
        apply Nat.eq_of_testBit_eq
        intro i
        rw [Nat.testBit_or, Nat.testBit_xor, Nat.testBit_shiftLeft]
        by_cases hi : i = j
        · subst hi
          rw [hq i (by omega)]
          simp
        · by_cases hi2 : j ≤ i
          · have : (1 : Nat).testBit (i - j) = false := one_bit (by omega)
            simp [this]
          · simp [hi2]
      refine ⟨a1, r ^^^ (1 <<< j), ?_, ?_, ?_⟩
      · refine Nat.xor_lt_two_pow (by rw [Nat.pow_succ]; omega) ?_
        rw [Nat.shiftLeft_eq, Nat.one_mul, Nat.pow_succ]
        have := Nat.two_pow_pos j
        omega
      · rw [a3, eq1, Nat.xor_assoc, Nat.xor_comm (1 <<< j) r]
      · have h3 : (r ^^^ (1 <<< j)).testBit j = true := by
          rw [Nat.testBit_xor, hr, Nat.testBit_shiftLeft]
          simp
        rw [pmF_t h3, a4, Nat.xor_assoc, Nat.xor_comm (b <<< j)]
        congr 2
        refine (pmF_congr j (fun i hi => ?_)).symm
        rw [Nat.testBit_xor, Nat.testBit_shiftLeft]
        have : ¬ i ≥ j := by omega
        simp [this]
    | false =>
      obtain ⟨a1, r, a2, a3, a4⟩ := ih x q (tp_down (by rw [show d + (j + 1) = d + j + 1 by omega] at hx; exact hx) h) (fun i hi => hq i (by omega))
      rw [qoF_f h]
      refine ⟨a1, r, by rw [Nat.pow_succ]; omega, a3, ?_⟩
      rw [pmF_f (Nat.testBit_lt_two_pow a2)]
      exact a4
theorem lt64_tp {a : Nat} (h : a < 18446744073709551616) : a < 2 ^ 64 := h
/-- quotient and rest: a is their sum; q·b hangs on no order -/
theorem qo_spec {a b : Nat} (ha : a < 18446744073709551616) (hb : b < 18446744073709551616) (h0 : ¬ b = 0) : tp (rm a b) < tp b ∧ qo a b < 2 ^ (tp a + 1 - tp b).toNat ∧ rm a b = a ^^^ pmF b (qo a b) (tp a + 1 - tp b).toNat := by
  have hbr := tp_rng hb
  have har := tp_rng ha
  have hb1 := mt tp_neg.mp h0
  have hd : tp b = ((tp b).toNat : Int) := by omega
  obtain ⟨a1, r, a2, a3, a4⟩ := qoF_spec hd (tp a + 1 - tp b).toNat a 0 (by omega) (fun i _ => Nat.zero_testBit i)
  have e0 : qo a b = r := by
    rw [qo, if_neg h0, a3, Nat.zero_xor]
  have e1 : rm a b = (qoF b (tp b).toNat (tp a + 1 - tp b).toNat a 0).1 := by
    rw [rm, e0, a4, pm]
    have hbb : b < 2 ^ 64 := hb
    have e2 : pmF r b 64 = pmF b r (tp a + 1 - tp b).toNat := pmF_comm _ _ _ _ a2 hbb
    rw [e2]
    congr 1
    refine Nat.mod_eq_of_lt ?_
    have e3 : pmF b r (tp a + 1 - tp b).toNat < 2 ^ 64 := by
      rcases Nat.eq_zero_or_pos r with hr | hr
      · subst hr
        have : ∀ n : Nat, pmF b 0 n = 0 := by
          intro n
          induction n with
          | zero => rfl
          | succ n ih => rw [pmF_f (Nat.zero_testBit n), ih]
        rw [this]
        exact Nat.two_pow_pos _
      · by_cases hj : (tp a + 1 - tp b).toNat = 0
        · rw [hj, Nat.pow_zero] at a2
          omega
        · have h6 := pmF_bit (a := b) (b := r) (tp a + 1 - tp b).toNat ((tp b).toNat + 1) (tp_le.mp (by omega))
          have h7 : (tp b).toNat + 1 + (tp a + 1 - tp b).toNat ≤ 65 := by omega
          -- the row's own rest is below 2 ^ 64, and so is a
          have h8 : (qoF b (tp b).toNat (tp a + 1 - tp b).toNat a 0).1 < 2 ^ 64 := by
            rw [← tp_lt]
            omega
          have h9 : pmF b r (tp a + 1 - tp b).toNat = a ^^^ (qoF b (tp b).toNat (tp a + 1 - tp b).toNat a 0).1 := by
            rw [a4, ← Nat.xor_assoc, Nat.xor_self, Nat.zero_xor]
          rw [h9]
          exact Nat.xor_lt_two_pow ha h8
    exact e3
  refine ⟨by rw [e1]; omega, by rw [e0]; exact a2, ?_⟩
  rw [e1, e0]
  exact a4
theorem rm_tp {a b : Nat} (ha : a < 18446744073709551616) (hb : b < 18446744073709551616) (h0 : ¬ b = 0) : tp (rm a b) < tp b := (qo_spec ha hb h0).1
end MC
section MD
/-- WEIGHT of the first k places -/
def wt (n : Nat) : Nat → Int
  | 0 => 0
  | k + 1 => wt n k + zB (n.testBit k)
theorem wt_rng (n : Nat) : ∀ k : Nat, 0 ≤ wt n k ∧ wt n k ≤ (k : Int) := by
  intro k
  induction k with
  | zero => rw [wt]; omega
  | succ k ih =>
    have := zB_rng (n.testBit k)
    rw [wt]
    omega
theorem wt_rngE (n : Nat) : 0 ≤ wt n 33 ∧ wt n 33 ≤ 33 := wt_rng n 33
theorem bp33 (n : Nat) : -1 ≤ bpF n 33 0 ∧ bpF n 33 0 ≤ 33 := by
  have := bpF_rng n 33 0
  omega
/-- the model's DERIVED, k odd places read -/
def mdF (n : Nat) : Nat → Nat
  | 0 => 0
  | k + 1 => if n.testBit (2 * k + 1) = true then mdF n k ||| (1 <<< (2 * k)) else mdF n k
theorem mdF_t {n k : Nat} (h : n.testBit (2 * k + 1) = true) : mdF n (k + 1) = mdF n k ||| (1 <<< (2 * k)) := by rw [mdF, if_pos h]
theorem mdF_f {n k : Nat} (h : n.testBit (2 * k + 1) = false) : mdF n (k + 1) = mdF n k := by rw [mdF, if_neg (by rw [h]; decide)]
theorem mdF_lt (n : Nat) : mdF n 16 < 18446744073709551616 := by
  have h : ∀ k : Nat, k ≤ 31 → mdF n k < 18446744073709551616 := by
    intro k
    induction k with
    | zero => intro _; rw [mdF]; omega
    | succ k ih =>
      intro hk
      rw [mdF]
      split
      · exact or64 (ih (by omega)) (one_shl64 (by omega))
      · exact ih (by omega)
  exact h 16 (by omega)
theorem ehF17_lt (n : Nat) : ehF n 17 < 18446744073709551616 := Nat.lt_of_lt_of_le (ehF_lt n 17) (by decide)
-- IRREDUCIBLE
def irE (n : Nat) : Nat := 1 <<< (tp n / 2 + 1).toNat
def irF (n : Nat) : Nat → Nat → Bool
  | 0, _ => true
  | f + 1, p => if rm n p = 0 then false else irF n f (p + 1)
def ir (n : Nat) : Bool := if tp n < 1 then false else irF n (irE n - 2) 2
theorem irF_t {n f p : Nat} (h : rm n p = 0) : irF n (f + 1) p = false := by rw [irF, if_pos h]
theorem irF_f {n f p : Nat} (h : ¬ rm n p = 0) : irF n (f + 1) p = irF n f (p + 1) := by rw [irF, if_neg h]
theorem irE_eq {n : Nat} (h : 1 ≤ tp n) : irE n = 2 ^ (tp n / 2 + 1).toNat := by rw [irE, Nat.shiftLeft_eq, Nat.one_mul]
theorem irE_rng {n : Nat} (h : 1 ≤ tp n) (h2 : tp n ≤ 63) : 2 ≤ irE n ∧ irE n ≤ 4294967296 := by
  rw [irE_eq h]
  have h3 : 2 ^ 1 ≤ 2 ^ (tp n / 2 + 1).toNat := Nat.pow_le_pow_right (by omega) (by omega)
  have h4 : 2 ^ (tp n / 2 + 1).toNat ≤ 2 ^ 32 := Nat.pow_le_pow_right (by omega) (by omega)
  omega
theorem irE_tp {n p : Nat} (h : 1 ≤ tp n) : 2 * tp p ≤ tp n ↔ p < irE n := by
  rw [irE_eq h, ← tp_lt]
  omega
def cbF : Nat → Nat → Int → Int
  | 0, _, c => c
  | f + 1, p, c => cbF f (p + 1) (c + zB (ir p))
def cb (s e : Nat) : Int := cbF (e - s) s 0
theorem cbF_rng : ∀ (f p : Nat) (c : Int), c ≤ cbF f p c ∧ cbF f p c ≤ c + (f : Int) := by
  intro f
  induction f with
  | zero => intro p c; rw [cbF]; omega
  | succ f ih =>
    intro p c
    have h1 := ih (p + 1) (c + zB (ir p))
    have h2 := zB_rng (ir p)
    rw [cbF]
    omega
theorem cb_rngE (s e : Nat) : 0 ≤ cb s e ∧ cb s e ≤ (e : Int) := by
  have := cbF_rng (e - s) s 0
  unfold cb
  omega
/-- the irreducible one with a rank: f numbers to look at, from p on; a of them seen -/
def wrF (r : Int) : Nat → Nat → Int → Nat
  | 0, _, _ => 0
  | f + 1, p, a => if ir p = true then (if a = r then p else wrF r f (p + 1) (a + 1)) else wrF r f (p + 1) a
def wr (d : Nat) (r : Int) : Nat := wrF r (2 ^ (d + 1) - 2 ^ d) (2 ^ d) 0
theorem wrF_n {r : Int} {f p : Nat} {a : Int} (h : ir p = false) : wrF r (f + 1) p a = wrF r f (p + 1) a := by rw [wrF, if_neg (by rw [h]; decide)]
theorem wrF_e {r : Int} {f p : Nat} {a : Int} (h : ir p = true) (h2 : a = r) : wrF r (f + 1) p a = p := by rw [wrF, if_pos h, if_pos h2]
theorem wrF_s {r : Int} {f p : Nat} {a : Int} (h : ir p = true) (h2 : ¬ a = r) : wrF r (f + 1) p a = wrF r f (p + 1) (a + 1) := by rw [wrF, if_pos h, if_neg h2]
theorem wrF_lt {r : Int} : ∀ (f p : Nat) (a : Int), wrF r f p a < p + f + 1 := by
  intro f
  induction f with
  | zero => intro p a; rw [wrF]; omega
  | succ f ih =>
    intro p a
    have h1 := ih (p + 1) (a + 1)
    have h2 := ih (p + 1) a
    rw [wrF]
    split
    · split <;> omega
    · omega
theorem pow_s (d : Nat) : 2 ^ (d + 1) = 2 * 2 ^ d := by rw [Nat.pow_succ, Nat.mul_comm]
theorem pow_8 {d : Nat} (h : d ≤ 8) : 1 ≤ 2 ^ d ∧ 2 ^ d ≤ 256 := ⟨Nat.two_pow_pos d, Nat.pow_le_pow_right (n := 2) (by omega) h⟩
theorem wr_ltE (d : Nat) (r : Int) (h : d ≤ 8) : wr d r < 513 := by
  have h1 := wrF_lt (r := r) (2 ^ (d + 1) - 2 ^ d) (2 ^ d) 0
  have h2 := pow_8 h
  have h3 := pow_s d
  unfold wr
  omega
def taF : Nat → Nat → Nat → Nat
  | 0, _, x => x
  | f + 1, p, x => taF f (p + 1) (if ir p = true then pm x p else x)
def ta (x d : Nat) : Nat := taF (2 ^ (d + 1) - 2 ^ d) (2 ^ d) x
theorem taF_t {f p x : Nat} (h : ir p = true) : taF (f + 1) p x = taF f (p + 1) (pm x p) := by rw [taF, if_pos h]
theorem taF_f {f p x : Nat} (h : ir p = false) : taF (f + 1) p x = taF f (p + 1) x := by rw [taF, if_neg (by rw [h]; decide)]
theorem taF_lt : ∀ (f p x : Nat), x < 18446744073709551616 → taF f p x < 18446744073709551616 := by
  intro f
  induction f with
  | zero => intro p x h; exact h
  | succ f ih =>
    intro p x h
    rw [taF]
    refine ih _ _ ?_
    split
    · exact pm_lt _ _
    · exact h
theorem ta_ltE (x d : Nat) (h : x < 18446744073709551616) : ta x d < 18446744073709551616 := taF_lt _ _ _ h
/-- f degrees to go, from d on -/
def pdF (n : Int) : Nat → Nat → Nat → Nat
  | 0, _, x => x
  | f + 1, d, x => pdF n f (d + 1) (if n % (d : Int) = 0 then ta x d else x)
def pd (n : Int) : Nat := pdF n n.toNat 1 1
theorem pdF_t {n : Int} {f d x : Nat} (h : n % (d : Int) = 0) : pdF n (f + 1) d x = pdF n f (d + 1) (ta x d) := by rw [pdF, if_pos h]
theorem pdF_f {n : Int} {f d x : Nat} (h : ¬ n % (d : Int) = 0) : pdF n (f + 1) d x = pdF n f (d + 1) x := by rw [pdF, if_neg h]
theorem pdF_lt {n : Int} : ∀ (f d x : Nat), x < 18446744073709551616 → pdF n f d x < 18446744073709551616 := by
  intro f
  induction f with
  | zero => intro d x h; exact h
  | succ f ih =>
    intro d x h
    rw [pdF]
    refine ih _ _ ?_
    split
    · exact ta_ltE _ _ h
    · exact h
theorem pd_ltE (n : Int) : pd n < 18446744073709551616 := pdF_lt _ _ _ (by omega)
-- PERIOD: f tries to go, from e on
def peF (m : Nat) : Nat → Int → Nat → Int
  | 0, _, _ => -1
  | f + 1, e, x => if rm (x <<< 1) m = 1 then e else peF m f (e + 1) (rm (x <<< 1) m)
def pe (m : Nat) : Int := peF m 255 1 1
theorem peF_t {m f x : Nat} {e : Int} (h : rm (x <<< 1) m = 1) : peF m (f + 1) e x = e := by rw [peF, if_pos h]
theorem peF_f {m f x : Nat} {e : Int} (h : ¬ rm (x <<< 1) m = 1) : peF m (f + 1) e x = peF m f (e + 1) (rm (x <<< 1) m) := by rw [peF, if_neg h]
theorem peF_rng {m : Nat} : ∀ (f : Nat) (e : Int) (x : Nat), 0 ≤ e → -1 ≤ peF m f e x ∧ peF m f e x ≤ e + (f : Int) := by
  intro f
  induction f with
  | zero => intro e x h; rw [peF]; omega
  | succ f ih =>
    intro e x h
    have := ih (e + 1) (rm (x <<< 1) m) (by omega)
    rw [peF]
    split <;> omega
theorem pe_rngE (m : Nat) : -1 ≤ pe m ∧ pe m ≤ 256 := peF_rng 255 1 1 (by omega)
theorem shl1_lt {x : Nat} (h : x < 9223372036854775808) : x <<< 1 < 18446744073709551616 := by rw [Nat.shiftLeft_eq]; omega
-- the formula
def sg (d : Int) : Int := if d = 1 then 1 else if d = 2 then -1 else if d = 3 then -1 else if d = 4 then 0 else if d = 5 then -1 else if d = 6 then 1 else if d = 7 then -1 else 0
theorem sg_rngE (d : Int) : -1 ≤ sg d ∧ sg d ≤ 1 := by
  unfold sg
  repeat' split
  all_goals omega
def foF (n : Int) : Nat → Int
  | 0 => 0
  | d + 1 => if n % ((d + 1 : Nat) : Int) = 0 then foF n d + sg ((d + 1 : Nat) : Int) * ((1 <<< (n / ((d + 1 : Nat) : Int)).toNat : Nat) : Int) else foF n d
def fo (n : Int) : Int := foF n n.toNat / n
theorem fo_rngE (n : Int) (h : 1 ≤ n ∧ n ≤ 8) : (0 ≤ foF n n.toNat ∧ foF n n.toNat ≤ 2147483647) ∧ 0 ≤ fo n ∧ fo n ≤ 40 := by
  have hc : n = 1 ∨ n = 2 ∨ n = 3 ∨ n = 4 ∨ n = 5 ∨ n = 6 ∨ n = 7 ∨ n = 8 := by omega
  rcases hc with rfl | rfl | rfl | rfl | rfl | rfl | rfl | rfl <;> decide +kernel
end MD
section ME
def eux (a : Nat) (z : Int) : Nat := if z = 0 then a else if z = 1 then 1 else 0
def euy (b : Nat) (z : Int) : Nat := if z = 0 then b else if z = 1 then 0 else 1
theorem eux_lt {a : Nat} {z : Int} (h : a < 18446744073709551616) : eux a z < 18446744073709551616 := by
  unfold eux
  repeat' split
  all_goals omega
theorem euy_lt {a : Nat} {z : Int} (h : a < 18446744073709551616) : euy a z < 18446744073709551616 := by
  unfold euy
  repeat' split
  all_goals omega
theorem tp_pow (n : Nat) (h : 0 ≤ tp n) : 2 ^ (tp n).toNat ≤ n := by
  have h1 := mt tp_lt.mpr (by omega : ¬ tp n < ((tp n).toNat : Int))
  omega
theorem ir_tp {n : Nat} (h : ir n = true) : 1 ≤ tp n := by
  unfold ir at h
  split at h
  · exact absurd h (by decide)
  · omega
def rk (n : Nat) : Int := if ir n = true then cb (2 ^ (tp n).toNat) n else -1
theorem rk_rngE (n : Nat) : -1 ≤ rk n ∧ rk n ≤ (n : Int) := by
  unfold rk
  split
  · have := cb_rngE (2 ^ (tp n).toNat) n
    omega
  · omega
end ME
section MF
theorem tp33 {n : Nat} : n < 8589934592 ↔ tp n ≤ 32 := by
  have h := tp_le (n := n) (k := 32)
  constructor
  · intro h1
    exact h.mpr h1
  · intro h1
    exact h.mp h1
theorem tp_mono {a b : Nat} (h : a ≤ b) : tp a ≤ tp b := by
  rcases Nat.eq_zero_or_pos b with h0 | h0
  · have : a = 0 := by omega
    rw [this, h0]
    exact Int.le_refl _
  · have h1 : ¬ tp b < 0 := mt tp_neg.mp (by omega)
    have h2 : tp b ≤ ((tp b).toNat : Int) := by omega
    have h3 := tp_le.mp h2
    have h4 := (tp_le (n := a) (k := (tp b).toNat)).mpr (by omega)
    omega
theorem tp_xor {a b : Nat} {K : Int} (ha : tp a ≤ K) (hb : tp b ≤ K) : tp (a ^^^ b) ≤ K := by
  by_cases h : K < 0
  · have h1 := tp_neg.mp (by omega : tp a < 0)
    have h2 := tp_neg.mp (by omega : tp b < 0)
    subst h1 h2
    exact ha
  · have e : K = (K.toNat : Int) := by omega
    rw [e] at ha hb ⊢
    rw [tp_le] at ha hb ⊢
    exact Nat.xor_lt_two_pow ha hb
theorem pmF_bit2 {a b : Nat} : ∀ n : Nat, ∀ d : Nat, a < 2 ^ d → pmF a b (n + 1) < 2 ^ (d + n) := by
  intro n
  induction n with
  | zero =>
    intro d h
    have h0 : (0 : Nat) < 2 ^ d := Nat.two_pow_pos d
    cases hb : b.testBit 0 with
    | true =>
      rw [pmF_t hb, pmF]
      simp
      exact h
    | false =>
      rw [pmF_f hb, pmF]
      exact h0
  | succ n ih =>
    intro d h
    have h1 : pmF a b (n + 1) < 2 ^ (d + (n + 1)) := Nat.lt_of_lt_of_le (ih d h) (Nat.pow_le_pow_right (by omega) (by omega))
    cases hb : b.testBit (n + 1) with
    | true =>
      rw [pmF_t hb]
      refine Nat.xor_lt_two_pow h1 ?_
      rw [Nat.shiftLeft_eq]
      have h2 : a * 2 ^ (n + 1) < 2 ^ d * 2 ^ (n + 1) := Nat.mul_lt_mul_of_pos_right h (Nat.two_pow_pos _)
      rw [← Nat.pow_add] at h2
      exact h2
    | false =>
      rw [pmF_f hb]
      exact h1
theorem pmF_0r (a : Nat) : ∀ n : Nat, pmF a 0 n = 0 := by
  intro n
  induction n with
  | zero => rfl
  | succ n ih => rw [pmF_f (Nat.zero_testBit n), ih]
theorem pm_0l (b : Nat) : pm 0 b = 0 := by rw [pm, pmF_0l]
theorem pm_0r (a : Nat) : pm a 0 = 0 := by rw [pm, pmF_0r]
theorem pm_tp {a b : Nat} (hb : b < 18446744073709551616) (ha0 : a ≠ 0) (hb0 : b ≠ 0) : tp (pm a b) ≤ tp a + tp b := by
  have h1 : ¬ tp a < 0 := mt tp_neg.mp ha0
  have h2 : ¬ tp b < 0 := mt tp_neg.mp hb0
  have h3 := tp_rng hb
  have e1 : pmF a b ((tp b).toNat + 1) = pmF a b 64 := pmF_64 (tp_shr.mpr (by omega)) (by omega)
  have h4 : pmF a b ((tp b).toNat + 1) < 2 ^ ((tp a).toNat + 1 + (tp b).toNat) := pmF_bit2 _ _ (tp_le.mp (by omega))
  have h5 : pm a b ≤ pmF a b 64 := Nat.mod_le _ _
  have h6 := tp_mono h5
  have h7 := (tp_lt (n := pmF a b 64) (k := (tp a).toNat + 1 + (tp b).toNat)).mpr (by rw [← e1]; exact h4)
  omega
theorem pm33 {a b : Nat} (hb : b < 8589934592) (h : tp a + tp b ≤ 32) : pm a b < 8589934592 := by
  by_cases ha0 : a = 0
  · rw [ha0, pm_0l]; omega
  · by_cases hb0 : b = 0
    · rw [hb0, pm_0r]; omega
    · have := pm_tp (a := a) (b := b) (by omega) ha0 hb0
      exact tp33.mpr (by omega)
theorem rm_tpa {a b : Nat} (ha : a < 18446744073709551616) (hb : b < 18446744073709551616) (h0 : ¬ b = 0) : tp (rm a b) ≤ tp a := by
  obtain ⟨h1, h2, h3⟩ := qo_spec ha hb h0
  by_cases h : tp a < tp b
  · have e : (tp a + 1 - tp b).toNat = 0 := by omega
    rw [e, pmF, Nat.xor_zero] at h3
    rw [h3]
    exact Int.le_refl _
  · omega
theorem rm33 {a b : Nat} (ha : a < 8589934592) (hb : b < 8589934592) (h0 : ¬ b = 0) : rm a b < 8589934592 := by
  have h1 := rm_tpa (a := a) (b := b) (by omega) (by omega) h0
  have h2 := tp33.mp ha
  exact tp33.mpr (by omega)
theorem qo_tp {a b : Nat} (ha : a < 18446744073709551616) (hb : b < 18446744073709551616) (h0 : ¬ b = 0) (hq : qo a b ≠ 0) : tp (qo a b) + tp b ≤ tp a := by
  obtain ⟨h1, h2, h3⟩ := qo_spec ha hb h0
  have h4 : ¬ tp b < 0 := mt tp_neg.mp h0
  by_cases h : (tp a + 1 - tp b).toNat = 0
  · rw [h, Nat.pow_zero] at h2
    exact absurd (by omega) hq
  · have h5 := tp_lt.mpr h2
    omega
theorem qo33 {a b : Nat} (ha : a < 8589934592) (hb : b < 8589934592) : qo a b < 8589934592 := by
  by_cases h0 : b = 0
  · rw [qo, if_pos h0]; omega
  · by_cases hq : qo a b = 0
    · omega
    · have h1 := qo_tp (a := a) (b := b) (by omega) (by omega) h0 hq
      have h2 := tp33.mp ha
      have h4 : ¬ tp b < 0 := mt tp_neg.mp h0
      exact tp33.mpr (by omega)
theorem euF_tp {K : Int} : ∀ (f a b x y : Nat), a < 18446744073709551616 → b < 18446744073709551616 → y < 18446744073709551616 → (y ≠ 0 → tp y + tp a ≤ K ∧ tp y ≤ K) → (x ≠ 0 → tp x + tp b ≤ K ∧ tp x ≤ K) → x < 18446744073709551616 → -1 ≤ K → tp (euF f a b x y) ≤ K := by
  intro f
  induction f with
  | zero =>
    intro a b x y ha hb hy h1 h2 hx hK
    rw [euF]
    by_cases h : x = 0
    · rw [h, tp_0]; exact hK
    · exact (h2 h).2
  | succ f ih =>
    intro a b x y ha hb hy h1 h2 hx hK
    by_cases h0 : b = 0
    · subst h0
      rw [euF_0]
      by_cases h : x = 0
      · rw [h, tp_0]; exact hK
      · exact (h2 h).2
    · rw [euF_s h0]
      have hb0 : ¬ tp b < 0 := mt tp_neg.mp h0
      have hra := rm_tpa ha hb h0
      refine ih b (rm a b) y (x ^^^ pm (qo a b) y) hb (rm_lt ha) (xor64 hx (pm_lt _ _)) (fun hne => ?_) (fun hne => ?_) hy hK
      · have e1 : tp (pm (qo a b) y) ≤ K - tp b := by
          by_cases hq : qo a b = 0
          · rw [hq, pm_0l, tp_0]
            by_cases hx0 : x = 0
            · exfalso
              apply hne
              rw [hx0, hq, pm_0l]
              rfl
            · have := h2 hx0
              have := tp_neg (n := x)
              omega
          · by_cases hy0 : y = 0
            · rw [hy0, pm_0r, tp_0]
              by_cases hx0 : x = 0
              · exfalso
                apply hne
                rw [hx0, hy0, pm_0r]
                rfl
              · have := h2 hx0
                have := tp_neg (n := x)
                omega
            · have g1 := pm_tp hy hq hy0
              have g2 := qo_tp ha hb h0 hq
              have g3 := h1 hy0
              omega
        have e2 : tp x ≤ K - tp b := by
          by_cases hx0 : x = 0
          · rw [hx0, tp_0]
            have := tp_ge (pm (qo a b) y)
            omega
          · have := h2 hx0
            omega
        have e3 := tp_xor e2 e1
        omega
      · have g3 := h1 hne
        omega
theorem euF_g33 : ∀ (f a b : Nat), a < 8589934592 → b < 8589934592 → euF f a b a b < 8589934592 := by
  intro f
  induction f with
  | zero => intro a b ha _; exact ha
  | succ f ih =>
    intro a b ha hb
    by_cases h0 : b = 0
    · subst h0
      rw [euF_0]
      exact ha
    · rw [euF_s h0]
      exact ih b (rm a b) hb (rm33 ha hb h0)
theorem eu33 {a b : Nat} (z : Int) (ha : a < 8589934592) (hb : b < 8589934592) : eu a b (eux a z) (euy b z) < 8589934592 := by
  have h1 := tp33.mp ha
  have h2 := tp33.mp hb
  by_cases hz : z = 0
  · rw [eux, euy, if_pos hz, if_pos hz]
    exact euF_g33 _ _ _ ha hb
  · refine tp33.mpr ?_
    have hx : eux a z < 18446744073709551616 := eux_lt (by omega)
    have hy : euy b z < 18446744073709551616 := euy_lt (by omega)
    refine euF_tp 65 a b (eux a z) (euy b z) (by omega) (by omega) hy (fun h => ?_) (fun h => ?_) hx (by decide)
    · have e : euy b z = 1 := by
        unfold euy at h ⊢
        rw [if_neg hz] at h ⊢
        split
        · rename_i h9
          rw [if_pos h9] at h
          exact absurd rfl h
        · rfl
      rw [e]
      have : tp 1 = 0 := rfl
      omega
    · have e : eux a z = 1 := by
        unfold eux at h ⊢
        rw [if_neg hz] at h ⊢
        split
        · rfl
        · rename_i h9
          rw [if_neg h9] at h
          exact absurd rfl h
      rw [e]
      have : tp 1 = 0 := rfl
      omega
theorem eu33g {a b : Nat} (ha : a < 8589934592) (hb : b < 8589934592) : eu a b a b < 8589934592 := eu33 0 ha hb
theorem eu33f {a b : Nat} (ha : a < 8589934592) (hb : b < 8589934592) : eu a b 1 0 < 8589934592 := eu33 1 ha hb
theorem eu33s {a b : Nat} (ha : a < 8589934592) (hb : b < 8589934592) : eu a b 0 1 < 8589934592 := eu33 2 ha hb
theorem dv33 {n : Nat} (h : n < 8589934592) : dv n < 8589934592 := by
  have h1 : dv n ≤ n >>> 1 := Nat.and_le_left
  have h2 : n >>> 1 ≤ n := Nat.shiftRight_le n 1
  omega
theorem eh33 (n : Nat) : eh n < 8589934592 := by
  have := eh_lt n
  omega
theorem one_shl33 {j : Nat} (h : j ≤ 32) : 1 <<< j < 8589934592 := by
  rw [Nat.shiftLeft_eq, Nat.one_mul]
  have : 2 ^ j ≤ 2 ^ 32 := Nat.pow_le_pow_right (by omega) h
  omega
theorem or33 {a b : Nat} (ha : a < 8589934592) (hb : b < 8589934592) : a ||| b < 8589934592 := Nat.or_lt_two_pow (n := 33) ha hb
theorem xor33 {a b : Nat} (ha : a < 8589934592) (hb : b < 8589934592) : a ^^^ b < 8589934592 := Nat.xor_lt_two_pow (n := 33) ha hb
theorem and33 {a : Nat} (b : Nat) (ha : a < 8589934592) : a &&& b < 8589934592 := Nat.lt_of_le_of_lt Nat.and_le_left ha
theorem jo33 {a b : Nat} {h : Int} (ha : a < 8589934592) (hb : b < 8589934592) : jo a b h < 8589934592 := by
  unfold jo
  split
  · exact xor33 ha hb
  · split
    · exact and33 _ ha
    · split
      · exact or33 ha hb
      · exact and33 _ ha
theorem tuF33 {n : Nat} {t : Int} (ht : t ≤ 32) : ∀ k : Nat, tuF n t k < 8589934592 := by
  intro k
  induction k with
  | zero => rw [tuF]; omega
  | succ k ih =>
    rw [tuF]
    split
    · exact or33 ih (one_shl33 (by omega))
    · exact ih
theorem tu33 {n : Nat} (h : n < 8589934592) : tu n < 8589934592 := tuF33 (tp33.mp h) _
theorem mvF_lt {n : Nat} : ∀ (j i s : Nat), s < 2 ^ i → mvF n j s < 2 ^ (i + j) := by
  intro j
  induction j with
  | zero => intro i s h; exact h
  | succ j ih =>
    intro i s h
    rw [mvF, show i + (j + 1) = (i + 1) + j by omega]
    refine ih (i + 1) _ ?_
    have h1 : 2 ^ (i + 1) = 2 * 2 ^ i := pow_s i
    have h2 : (n >>> j) &&& 1 ≤ 1 := Nat.and_le_right
    have h3 := Nat.two_pow_pos i
    refine Nat.xor_lt_two_pow (Nat.xor_lt_two_pow ?_ (by omega)) (by omega)
    rw [Nat.shiftLeft_eq]
    omega
theorem mv33 {n : Nat} (h : n < 8589934592) : mv n < 8589934592 := by
  have h1 := tp33.mp h
  have h2 := tp_ge n
  have h3 := mvF_lt (n := n) (tp n + 1).toNat 0 0 Nat.one_pos
  have h4 : 2 ^ (0 + (tp n + 1).toNat) ≤ 2 ^ 33 := Nat.pow_le_pow_right (by omega) (by omega)
  have h5 : mv n ≤ mvF n (tp n + 1).toNat 0 := Nat.mod_le _ _
  omega
theorem pwF33 {t x m : Nat} (hm : m < 8589934592) (h0 : ¬ m = 0) (ht : tp m ≤ 32) : ∀ (j p : Nat), p < 8589934592 → pwF t x m j p < 8589934592 := by
  intro j
  induction j with
  | zero => intro p h; exact h
  | succ j ih =>
    intro p _
    have r33 : ∀ a : Nat, a < 18446744073709551616 → rm a m < 8589934592 := by
      intro a ha
      have := rm_tp (a := a) (b := m) ha (by omega) h0
      exact tp33.mpr (by omega)
    rw [pwF]
    refine ih _ ?_
    split
    · exact r33 _ (pm_lt _ _)
    · exact r33 _ (pm_lt _ _)
theorem pw33 {a t m : Nat} (hm : m < 8589934592) (h0 : ¬ m = 0) : pw a t m < 8589934592 := pwF33 hm h0 (tp33.mp hm) _ _ (by omega)
theorem shl33 {b j : Nat} (h : tp b + (j : Int) ≤ 32) (hj : j ≤ 32) : b <<< j < 8589934592 := by
  rcases Nat.eq_zero_or_pos b with h0 | h0
  · rw [h0, Nat.zero_shiftLeft]
    omega
  · have h1 : ¬ tp b < 0 := mt tp_neg.mp (by omega)
    have h2 : b < 2 ^ ((tp b).toNat + 1) := tp_le.mp (by omega)
    rw [Nat.shiftLeft_eq]
    have h3 : b * 2 ^ j < 2 ^ ((tp b).toNat + 1) * 2 ^ j := Nat.mul_lt_mul_of_pos_right h2 (Nat.two_pow_pos j)
    rw [← Nat.pow_add] at h3
    have h4 : 2 ^ ((tp b).toNat + 1 + j) ≤ 2 ^ 33 := Nat.pow_le_pow_right (by omega) (by omega)
    omega
theorem shr33 {a j : Nat} (h : a < 8589934592) : a >>> j < 8589934592 := Nat.lt_of_le_of_lt (Nat.shiftRight_le _ _) h
theorem pd33 {n : Int} (h : 1 ≤ n ∧ n ≤ 5) : pd n < 8589934592 := by
  have hc : n = 1 ∨ n = 2 ∨ n = 3 ∨ n = 4 ∨ n = 5 := by omega
  rcases hc with rfl | rfl | rfl | rfl | rfl <;> decide +kernel
end MF
section MG
def mx (a b : Nat) : Nat := if b ≤ a then a else b
def mn (a b : Nat) : Nat := if a ≤ b then a else b
theorem mx33 {a b : Nat} (ha : a < 8589934592) (hb : b < 8589934592) : mx a b < 8589934592 := by
  unfold mx
  split <;> assumption
theorem mn33 {a b : Nat} (ha : a < 8589934592) (hb : b < 8589934592) : mn a b < 8589934592 := by
  unfold mn
  split <;> assumption
/-- Long.bitCount, as it reckons -/
def bc1 (n : Nat) : Nat := n - ((n >>> 1) &&& 6148914691236517205)
def bc2 (n : Nat) : Nat := (n &&& 3689348814741910323) + ((n >>> 2) &&& 3689348814741910323)
def bc3 (n : Nat) : Nat := (n + (n >>> 4)) &&& 1085102592571150095
def bcs (k n : Nat) : Nat := n + (n >>> k)
def bc (n : Nat) : Int := ((bcs 32 (bcs 16 (bcs 8 (bc3 (bc2 (bc1 n))))) % 128 : Nat) : Int)
theorem bc_rngE (n : Nat) : 0 ≤ bc n ∧ bc n ≤ 127 := by
  unfold bc
  omega
def dg (x : Nat) (q : Int) (b : Bool) : Nat := if b = true then x ||| (1 <<< q.toNat) else x &&& ((1 <<< q.toNat) ^^^ 18446744073709551615)
def wT (a b : Nat) : Option Nat := if ¬ a = 0 ∧ ¬ b = 0 ∧ 32 < tp a + tp b then none else some (pm a b)
def wS (x : Nat) (z : Int) : Option Nat := if ¬ x = 0 ∧ 32 < tp x + z then none else some (if 0 ≤ z then x <<< z.toNat else x >>> (-z).toNat)
def wQ (a b : Nat) : Option Nat := if b = 0 then none else some (qo a b)
def wM (a b : Nat) : Option Nat := if b = 0 then none else some (rm a b)
def wE (x : Nat) : Option Nat := if dv x = 0 then some (eh x) else none
def wP (a m : Nat) (t : Int) : Option Nat := if 1 ≤ tp m ∧ tp m ≤ 12 then some (pw a t.toNat m) else none
def wN (d r : Int) : Option Nat := if wr d.toNat r = 0 then none else some (wr d.toNat r)
theorem wT_0 {a b : Nat} (h : a = 0 ∨ b = 0 ∨ tp a + tp b ≤ 32) : wT a b = some (pm a b) := by
  rw [wT, if_neg]
  rintro ⟨h1, h2, h3⟩
  rcases h with h | h | h
  · exact h1 h
  · exact h2 h
  · omega
theorem pm33b {a b : Nat} (ha : a < 8589934592) (hb : b < 8589934592) (h : a = 0 ∨ b = 0 ∨ tp a + tp b ≤ 32) : pm a b < 8589934592 := by
  rcases h with h | h | h
  · rw [h, pm_0l]; omega
  · rw [h, pm_0r]; omega
  · exact pm33 hb h
/-- an answer, or refused -/
def qR (w : Option Int) : Int := match w with
  | some x => x
  | none => -9
def qF (re : Int32) (w : Option Int) : Int32 := match w with
  | some _ => re
  | none => re + iZ 1
def wI (x : Nat) : Option Int := if 12 < tp x then none else some (zB (ir x))
def wK (x : Nat) : Option Int := if 8 < tp x then none else some (rk x)
def wD (x : Nat) : Option Int := if 1 ≤ tp x ∧ tp x ≤ 8 ∧ x.testBit 0 = true then some (pe x) else none
def od (a b : Nat) : Int := if a < b then -1 else if b < a then 1 else 0
theorem od_rngE (a b : Nat) : -1 ≤ od a b ∧ od a b ≤ 1 := by
  unfold od
  repeat' split
  all_goals omega
def fdS (c : Nat → Nat) (x : Nat) (b : Bool) (k : Nat) (f : Int) : Int := if c k = x ∧ (if b = true then f < (k : Int) else (k : Int) < f) then (k : Int) else f
def fdF (c : Nat → Nat) (x : Nat) (b : Bool) (z : Int) : Nat → Int
  | 0 => z
  | k + 1 => fdS c x b k (fdF c x b z k)
theorem fdF_rng (c : Nat → Nat) (x : Nat) (b : Bool) (z : Int) (hz : 0 ≤ z ∧ z ≤ 5) : ∀ k : Nat, k ≤ 6 → 0 ≤ fdF c x b z k ∧ fdF c x b z k ≤ 5 := by
  intro k
  induction k with
  | zero => intro _; exact hz
  | succ k ih =>
    intro hk
    have := ih (by omega)
    rw [fdF, fdS]
    by_cases h : c k = x ∧ (if b = true then fdF c x b z k < (k : Int) else (k : Int) < fdF c x b z k)
    · rw [if_pos h]
      omega
    · rw [if_neg h]
      exact this
theorem fd_rngE (c : Nat → Nat) (b : Bool) (z : Int) (hz : 0 ≤ z ∧ z ≤ 5) : 0 ≤ fdF c (c z.toNat) b z 6 ∧ fdF c (c z.toNat) b z 6 ≤ 5 := fdF_rng c _ b z hz 6 (by omega)
def czF (c : Nat → Nat) : Nat → Int
  | 0 => 0
  | k + 1 => if c k = 0 then czF c k + 1 else czF c k
theorem czF_rng (c : Nat → Nat) : ∀ k : Nat, 0 ≤ czF c k ∧ czF c k ≤ (k : Int) := by
  intro k
  induction k with
  | zero => rw [czF]; omega
  | succ k ih =>
    rw [czF]
    split <;> omega
def awF (c : Nat → Nat) : Nat → Int
  | 0 => 0
  | k + 1 => awF c k + bc (c k)
theorem awF_rng (c : Nat → Nat) : ∀ k : Nat, 0 ≤ awF c k ∧ awF c k ≤ 127 * (k : Int) := by
  intro k
  induction k with
  | zero => rw [awF]; omega
  | succ k ih =>
    have := bc_rngE (c k)
    rw [awF]
    omega
def hs3 (c : Nat → Nat) (ac re kn : Int32) (z : Int) : Int32 := if z = 0 then ac else if z = 1 then re else if z = 2 then kn else if z = 3 then iZ (czF c 6) else iZ (awF c 6)
def sdF (c : Nat → Nat) : Nat → Bool
  | 0 => true
  | k + 1 => sdF c k && decide (tp (c k) ≤ 32 ∧ bp (c k) ≤ tp (c k))
def so (c : Nat → Nat) : Bool := sdF c 6 && decide (eu (c 0) (c 1) (c 0) (c 1) = pm (c 0) (eu (c 0) (c 1) 1 0) ^^^ pm (c 1) (eu (c 0) (c 1) 0 1))
theorem sdF_f {c : Nat → Nat} {k : Nat} (h : sdF c k = false) : ∀ f : Nat, sdF c (k + f) = false := by
  intro f
  induction f with
  | zero => exact h
  | succ f ih =>
    rw [← Nat.add_assoc, sdF, ih]
    rfl
end MG
section MH
def ad (d v : Int64) : Int64 := d * lN 31 + v
def dc1 (c : Nat → Nat) (k : Nat) (d : Int64) : Int64 := ad (ad (ad (ad (ad d (iZ ((c k : Nat) : Int)).toInt64) (iZ (tp (c k))).toInt64) (iZ (bp (c k))).toInt64) (iZ (bc (c k))).toInt64) (iZ (fdF c (c k) true (k : Int) 6)).toInt64
def dcF (c : Nat → Nat) : Nat → Int64
  | 0 => lN 7686
  | k + 1 => dc1 c k (dcF c k)
def doF (c : Nat → Nat) : Nat → Int64
  | 0 => dcF c 6
  | k + 1 => ad (doF c k) (iZ (od (c k) (c (k + 1)))).toInt64
def dhF (c : Nat → Nat) (ac re kn : Int32) : Nat → Int64
  | 0 => doF c 5
  | k + 1 => ad (dhF c ac re kn k) (hs3 c ac re kn (k : Int)).toInt64
def dgs (c : Nat → Nat) (ac re kn : Int32) : Int64 := ad (dhF c ac re kn 5) (iZ (zB (so c))).toInt64
end MH
section MI
theorem mdF33 (n : Nat) : mdF n 16 < 8589934592 := by
  have h : ∀ k : Nat, k ≤ 16 → mdF n k < 8589934592 := by
    intro k
    induction k with
    | zero => intro _; rw [mdF]; omega
    | succ k ih =>
      intro hk
      rw [mdF]
      split
      · exact or33 (ih (by omega)) (one_shl33 (by omega))
      · exact ih (by omega)
  exact h 16 (by omega)
theorem ehF33 (n : Nat) : ehF n 17 < 8589934592 := Nat.lt_of_lt_of_le (ehF_lt n 17) (by decide)
/-- the model's TURNED: k digits turned -/
def tmF (x : Nat) : Nat → Nat
  | 0 => 0
  | k + 1 => ((tmF x k) <<< 1) ||| ((x >>> k) &&& 1)
def tm (x : Nat) : Nat := tmF x (tp x + 1).toNat
theorem tmF_lt (x : Nat) : ∀ k : Nat, tmF x k < 2 ^ k := by
  intro k
  induction k with
  | zero => exact Nat.one_pos
  | succ k ih =>
    have h1 := pow_s k
    have h2 : (x >>> k) &&& 1 ≤ 1 := Nat.and_le_right
    have h3 := Nat.two_pow_pos k
    rw [tmF]
    refine Nat.or_lt_two_pow ?_ (by omega)
    rw [Nat.shiftLeft_eq]
    omega
theorem tm33 {x : Nat} (h : x < 8589934592) : tm x < 8589934592 := by
  have h1 := tp33.mp h
  have h2 := tmF_lt x (tp x + 1).toNat
  have h3 : 2 ^ (tp x + 1).toNat ≤ 2 ^ 33 := Nat.pow_le_pow_right (by omega) (by omega)
  unfold tm
  omega
/-- the model's MOVED: j places to go -/
def mmF (n : Nat) : Nat → Nat → Nat
  | 0, s => s
  | j + 1, s => mmF n j ((s ^^^ (s <<< 1)) ^^^ ((n >>> j) &&& 1))
def mm (n : Nat) : Nat := mmF n 33 0
theorem mmF_lt {n : Nat} : ∀ (j i s : Nat), s < 2 ^ i → mmF n j s < 2 ^ (i + j) := by
  intro j
  induction j with
  | zero => intro i s h; exact h
  | succ j ih =>
    intro i s h
    rw [mmF, show i + (j + 1) = (i + 1) + j by omega]
    refine ih (i + 1) _ ?_
    have h1 : 2 ^ (i + 1) = 2 * 2 ^ i := pow_s i
    have h2 : (n >>> j) &&& 1 ≤ 1 := Nat.and_le_right
    have h3 := Nat.two_pow_pos i
    refine Nat.xor_lt_two_pow (Nat.xor_lt_two_pow (by omega) ?_) (by omega)
    rw [Nat.shiftLeft_eq]
    omega
theorem mm33 (n : Nat) : mm n < 8589934592 := mmF_lt 33 0 0 Nat.one_pos
/-- the model's power -/
def pqF (x m : Nat) : Nat → Nat
  | 0 => 1
  | k + 1 => rm (pm (pqF x m k) x) m
theorem pqF33 {x m : Nat} (hm : m < 8589934592) (h0 : ¬ m = 0) : ∀ k : Nat, pqF x m k < 8589934592 := by
  intro k
  cases k with
  | zero => rw [pqF]; omega
  | succ k =>
    have h1 := rm_tp (a := pm (pqF x m k) x) (b := m) (pm_lt _ _) (by omega) h0
    have h2 := tp33.mp hm
    rw [pqF]
    exact tp33.mpr (by omega)
def wPm (a m : Nat) (t : Int) : Option Nat := if 1 ≤ tp m ∧ tp m ≤ 12 then some (pqF (rm a m) m t.toNat) else none
/-- the model's field: f numbers to go, from p on -/
def fiF (n : Int) : Nat → Nat → Nat → Nat
  | 0, _, x => x
  | f + 1, p, x => fiF n f (p + 1) (if n % tp p = 0 ∧ ir p = true then pm x p else x)
def fi (n : Int) : Nat := fiF n ((2 <<< n.toNat) - 2) 2 1
theorem fi33 {n : Int} (h : 1 ≤ n ∧ n ≤ 5) : fi n < 8589934592 := by
  have hc : n = 1 ∨ n = 2 ∨ n = 3 ∨ n = 4 ∨ n = 5 := by omega
  rcases hc with rfl | rfl | rfl | rfl | rfl <;> decide +kernel
theorem tp_2 {p : Nat} (h : 2 ≤ p) : 1 ≤ tp p := by
  have := mt tp_lt.mp (by omega : ¬ p < 2 ^ 1)
  omega
def wL (a b : Nat) : Option Nat := if a = 0 ∨ b = 0 then some 0 else wT (qo a (eu a b a b)) b
def wEm (x : Nat) : Option Nat := if mdF x 16 = 0 then some (ehF x 17) else none
def dgm (x : Nat) (q : Int) (b : Bool) : Nat := if zB (tb x q) = zB b then x else x ^^^ (1 <<< q.toNat)
def sdmF (c : Nat → Nat) : Nat → Bool
  | 0 => true
  | k + 1 => sdmF c k && decide (tp (c k) ≤ 32 ∧ bpF (c k) 33 0 ≤ tp (c k))
theorem sdmF_f {c : Nat → Nat} {k : Nat} (h : sdmF c k = false) : ∀ f : Nat, sdmF c (k + f) = false := by
  intro f
  induction f with
  | zero => exact h
  | succ f ih =>
    rw [← Nat.add_assoc, sdmF, ih]
    rfl
def som (c : Nat → Nat) : Bool := sdmF c 6 && decide (eu (c 0) (c 1) (eux (c 0) 0) (euy (c 1) 0) = pm (c 0) (eu (c 0) (c 1) (eux (c 0) 1) (euy (c 1) 1)) ^^^ pm (c 1) (eu (c 0) (c 1) (eux (c 0) 2) (euy (c 1) 2)))
def wmF (c : Nat → Nat) : Nat → Int
  | 0 => 0
  | k + 1 => wmF c k + wt (c k) 33
theorem wmF_rng (c : Nat → Nat) : ∀ k : Nat, 0 ≤ wmF c k ∧ wmF c k ≤ 33 * (k : Int) := by
  intro k
  induction k with
  | zero => rw [wmF]; omega
  | succ k ih =>
    have := wt_rngE (c k)
    rw [wmF]
    omega
def zmF (c : Nat → Nat) : Nat → Int
  | 0 => 0
  | k + 1 => zmF c k + zB (decide (c k = 0))
theorem zmF_rng (c : Nat → Nat) : ∀ k : Nat, 0 ≤ zmF c k ∧ zmF c k ≤ (k : Int) := by
  intro k
  induction k with
  | zero => rw [zmF]; omega
  | succ k ih =>
    have := zB_rng (decide (c k = 0))
    rw [zmF]
    omega
def hm3 (c : Nat → Nat) (ac re kn : Int32) (z : Int) : Int32 := if z = 0 then ac else if z = 1 then re else if z = 2 then kn else if z = 3 then iZ (zmF c 6) else iZ (wmF c 6)
def dm1 (c : Nat → Nat) (k : Nat) (d : Int64) : Int64 := ad (ad (ad (ad (ad d (iZ ((c k : Nat) : Int)).toInt64) (iZ (tp (c k))).toInt64) (iZ (bpF (c k) 33 0)).toInt64) (iZ (wt (c k) 33)).toInt64) (iZ (fdF c (c k) true (k : Int) 6)).toInt64
def dmF (c : Nat → Nat) : Nat → Int64
  | 0 => lN 7686
  | k + 1 => dm1 c k (dmF c k)
def omF (c : Nat → Nat) : Nat → Int64
  | 0 => dmF c 6
  | k + 1 => ad (omF c k) (iZ (zB (decide (c (k + 1) < c k)) - zB (decide (c k < c (k + 1))))).toInt64
def gmF (c : Nat → Nat) (ac re kn : Int32) : Nat → Int64
  | 0 => omF c 5
  | k + 1 => ad (gmF c ac re kn k) (hm3 c ac re kn (k : Int)).toInt64
def dgsm (c : Nat → Nat) (ac re kn : Int32) : Int64 := ad (gmF c ac re kn 5) (iZ (zB (som c))).toInt64
end MI
section MJ
theorem sd_rngE (a b : Nat) : -1 ≤ zB (decide (a < b)) - zB (decide (b < a)) ∧ zB (decide (a < b)) - zB (decide (b < a)) ≤ 1 := by
  have h1 := zB_rng (decide (a < b))
  have h2 := zB_rng (decide (b < a))
  omega
/-- one step of the period's row, told by numbers alone -/
def pfS (m B x : Nat) : Nat := if B ≤ 2 * x then (2 * x) ^^^ m else 2 * x
def pfF (m B : Nat) : Nat → Nat → Bool
  | 0, _ => false
  | f + 1, x => if pfS m B x = 1 then true else pfF m B f (pfS m B x)
theorem pfS_rm {m d x : Nat} (hd : tp m = (d : Int)) (hdd : d ≤ 32) (hx : x < 2 ^ d) : rm (x <<< 1) m = pfS m (2 ^ d) x := by
  have h33 : 2 ^ d ≤ 2 ^ 32 := Nat.pow_le_pow_right (by omega) hdd
  have hm : m < 18446744073709551616 := by
    have := tp33.mpr (by omega : tp m ≤ 32)
    omega
  have h0 : ¬ m = 0 := mt tp_neg.mpr (by omega)
  have hy : x <<< 1 = 2 * x := by rw [Nat.shiftLeft_eq]; omega
  have hy2 : 2 * x < 18446744073709551616 := by omega
  rw [hy]
  obtain ⟨h1, h2, h3⟩ := qo_spec (a := 2 * x) (b := m) hy2 hm h0
  unfold pfS
  by_cases h : 2 ^ d ≤ 2 * x
  · rw [if_pos h]
    have t1 : ¬ tp (2 * x) < (d : Int) := mt tp_lt.mp (by omega)
    have t2 : tp (2 * x) ≤ (d : Int) := tp_le.mpr (by rw [pow_s]; omega)
    have e1 : (tp (2 * x) + 1 - tp m).toNat = 1 := by omega
    rw [e1] at h2 h3
    have q1 : qo (2 * x) m = 1 := by
      have : qo (2 * x) m ≠ 0 := by
        intro hq
        rw [hq, pmF_0r, Nat.xor_zero] at h3
        rw [h3] at h1
        omega
      omega
    rw [h3, q1, pmF_t (by decide), pmF]
    simp
  · rw [if_neg h]
    have t1 : tp (2 * x) < (d : Int) := tp_lt.mpr (by omega)
    have e1 : (tp (2 * x) + 1 - tp m).toNat = 0 := by omega
    rw [e1, pmF, Nat.xor_zero] at h3
    exact h3
theorem pfF_pe {m d : Nat} (hd : tp m = (d : Int)) (hdd : d ≤ 32) : ∀ (f x : Nat) (e : Int), x < 2 ^ d → 0 ≤ e → pfF m (2 ^ d) f x = true → ¬ peF m f e x = -1 := by
  intro f
  induction f with
  | zero => intro x e _ _ h; rw [pfF] at h; exact absurd h Bool.false_ne_true
  | succ f ih =>
    intro x e hx he h
    have hr := pfS_rm hd hdd hx
    rw [pfF] at h
    rw [peF, hr]
    by_cases h1 : pfS m (2 ^ d) x = 1
    · rw [if_pos h1]
      omega
    · rw [if_neg h1] at h ⊢
      have hm : m < 18446744073709551616 := by
        have := tp33.mpr (by omega : tp m ≤ 32)
        omega
      have h33 : 2 ^ d ≤ 2 ^ 32 := Nat.pow_le_pow_right (by omega) hdd
      have h2 := rm_tp (a := x <<< 1) (b := m) (shl1_lt (by omega)) hm (mt tp_neg.mpr (by omega))
      rw [hr] at h2
      exact ih _ _ (tp_lt.mp (by omega)) (by omega) h
theorem pf_all : (List.range 8).all (fun j => (List.range 256).all (fun i => (2 * i + 1 < 2 ^ (j + 1) || 2 ^ (j + 2) ≤ 2 * i + 1) || pfF (2 * i + 1) (2 ^ (j + 1)) 255 1)) = true := by decide +kernel
theorem pe_ok {m : Nat} (h : m < 512) (h1 : 1 ≤ tp m) (h2 : m.testBit 0 = true) : ¬ pe m = -1 := by
  have h5 : m % 2 = 1 := by
    have := Nat.testBit_zero m
    rw [h2] at this
    simpa using this.symm
  have h9 : tp m ≤ 8 := (tp_le (k := 8)).mpr (by omega)
  have hd : tp m = ((tp m).toNat : Int) := by omega
  have h3 := List.all_eq_true.mp (List.all_eq_true.mp pf_all ((tp m).toNat - 1) (List.mem_range.mpr (by omega))) (m / 2) (List.mem_range.mpr (by omega))
  have e1 : 2 * (m / 2) + 1 = m := by omega
  have e2 : (tp m).toNat - 1 + 1 = (tp m).toNat := by omega
  have e3 : (tp m).toNat - 1 + 2 = (tp m).toNat + 1 := by omega
  rw [e1, e2, e3] at h3
  have g1 : 2 ^ (tp m).toNat ≤ m := tp_pow m (by omega)
  have g2 : m < 2 ^ ((tp m).toNat + 1) := tp_le.mp (by omega)
  simp only [Bool.or_eq_true, decide_eq_true_eq] at h3
  rcases h3 with (h3 | h3) | h3
  · omega
  · omega
  · have hx : 1 < 2 ^ (tp m).toNat := by
      have : 2 ^ 1 ≤ 2 ^ (tp m).toNat := Nat.pow_le_pow_right (by omega) (by omega)
      omega
    exact pfF_pe hd (by omega) 255 1 1 hx (by omega) h3
theorem euF_ne : ∀ (f a b : Nat), a < 8589934592 → b < 8589934592 → ¬ (a = 0 ∧ b = 0) → tp b < (f : Int) → euF f a b a b ≠ 0 := by
  intro f
  induction f with
  | zero =>
    intro a b _ _ h1 h2
    have := tp_neg.mp (by omega : tp b < 0)
    rw [euF]
    intro h
    exact h1 ⟨h, this⟩
  | succ f ih =>
    intro a b ha hb h1 h2
    by_cases h0 : b = 0
    · subst h0
      rw [euF_0]
      exact fun h => h1 ⟨h, rfl⟩
    · rw [euF_s h0]
      have h3 := rm_tp (a := a) (b := b) (by omega) (by omega) h0
      exact ih b (rm a b) hb (rm33 ha hb h0) (fun h => h0 h.1) (by omega)
theorem eu_ne {a b : Nat} (ha : a < 8589934592) (hb : b < 8589934592) (h : ¬ a = 0) : ¬ eu a b a b = 0 := euF_ne 65 a b ha hb (fun g => h g.1) (by have := tp33.mp hb; omega)
end MJ
set_option maxHeartbeats 4000000 in
set_option maxRecDepth 100000 in
theorem c_X1_single (l : Launch) (z : Int) (hz : 0 ≤ z ∧ z < 64) : zP l yX1_single 0 20 [.int (iZ (z))] (.long (lN (1 <<< z.toNat))) := by
  refine zP.intro (lo := 0) (nA := 1) (own := RX1) zs_X1_single (by decide) rfl rfl (by decide +kernel) rfl (Nat.le_of_ble_eq_true rfl) ?_
  intro p e s m below meth c ls C hr hk hl
  have hl : lv_has ls 1 [(0, .int (iZ (z)))] := hl
  refine z_lconst (k0 := 1) C dX1_single_0 rfl ?_
  refine lv_iload_n C.1 C.2.1 dX1_single_1 rfl (lv_at hl 0 rfl) ?_
  refine z_lshl C ((z).toNat) (by omega) (by omega) dX1_single_2 ?_
  exact z_lret C hr hk dX1_single_3 (congrArg (fun z : Nat => Value.long (lN z)) (by rfl))

set_option maxHeartbeats 4000000 in
set_option maxRecDepth 100000 in
theorem c_X1_hasOne (l : Launch) (n : Nat) (z : Int) (hn : n < 18446744073709551616) (hz : -2147483648 ≤ z ∧ z ≤ 2147483647) : zP l yX1_hasOne 0 22 [.long (lN (n)), .int (iZ (z))] (.int (iZ (zB (tb n z)))) := by
  refine zP.intro (lo := 0) (nA := 2) (own := RX1) zs_X1_hasOne (by decide) rfl rfl (by decide +kernel) rfl (Nat.le_of_ble_eq_true rfl) ?_
  intro p e s m below meth c ls C hr hk hl
  have hl : lv_has ls 3 [(0, .long (lN (n))), (2, .int (iZ (z)))] := hl
  refine lv_iload_n C.1 C.2.1 dX1_hasOne_0 rfl (lv_at hl 1 rfl) ?_
  refine z_if_lt (tgt := 24) C (by omega) dX1_hasOne_1 (by decide) (fun h1 => ?_) (fun h1 => ?_)
  · refine z_iconst C dX1_hasOne_24 ?_
    exact z_zret C hr hk dX1_hasOne_25 (by decide) (congrArg (fun z : Int => Value.int (iZ z)) (by exact zB_f (tb_neg h1)))
  · refine lv_iload_n C.1 C.2.1 dX1_hasOne_4 rfl (lv_at hl 1 rfl) ?_
    refine z_bipush C dX1_hasOne_5 (by decide) ?_
    refine z_icmp_ge (tgt := 24) C (by omega) (by omega) dX1_hasOne_7 (by decide) (fun h7 => ?_) (fun h7 => ?_)
    · refine z_iconst C dX1_hasOne_24 ?_
      exact z_zret C hr hk dX1_hasOne_25 (by decide) (congrArg (fun z : Int => Value.int (iZ z)) (by exact zB_f (tb_ge h7)))
    · refine lv_lload_n C.1 C.2.1 dX1_hasOne_10 rfl (lv_at hl 0 rfl) ?_
      refine lv_iload_n C.1 C.2.1 dX1_hasOne_11 rfl (lv_at hl 1 rfl) ?_
      refine z_lushr C ((z).toNat) (by first | assumption | omega | rfl | exact decide_eq_false (by omega) | exact decide_eq_true (by assumption) | exact decide_eq_true (by omega) | exact one_shl33 (by omega) | exact pm_lt _ _ | exact rm_lt (by first | assumption | exact pm_lt _ _) | exact Nat.lt_of_le_of_lt (Nat.shiftRight_le _ _) (by assumption) | exact Nat.lt_of_le_of_lt Nat.and_le_right (by omega)) (by omega) (by omega) dX1_hasOne_12 ?_
      refine z_lconst (k0 := 1) C dX1_hasOne_13 rfl ?_
      refine z_land C dX1_hasOne_14 ?_
      refine z_lconst (k0 := 1) C dX1_hasOne_15 rfl ?_
      refine z_lc_ne (tgt := 24) C (by refine Nat.lt_of_le_of_lt Nat.and_le_right (by omega)) (by omega) dX1_hasOne_16 dX1_hasOne_17 (by decide) (fun h16 => ?_) (fun h16 => ?_)
      · refine z_iconst C dX1_hasOne_24 ?_
        exact z_zret C hr hk dX1_hasOne_25 (by decide) (congrArg (fun z : Int => Value.int (iZ z)) (by exact zB_f (by rw [tb_in (by omega) (by omega)]; exact (bit_and0 _ _).mp h16)))
      · refine z_iconst C dX1_hasOne_20 ?_
        refine lv_goto (tgt := 25) C.1 C.2.1 dX1_hasOne_21 (by decide) ?_
        exact z_zret C hr hk dX1_hasOne_25 (by decide) (congrArg (fun z : Int => Value.int (iZ z)) (by exact zB_t (by rw [tb_in (by omega) (by omega)]; exact (bit_and _ _).mp h16)))

set_option maxHeartbeats 4000000 in
set_option maxRecDepth 100000 in
theorem c_X1_topPlace (l : Launch) (n : Nat) (hn : n < 18446744073709551616) : zP l yX1_topPlace 0 23 [.long (lN (n))] (.int (iZ (tp n))) := by
  refine zP.intro (lo := 0) (nA := 1) (own := RX1) zs_X1_topPlace (by decide) rfl rfl (by decide +kernel) rfl (Nat.le_of_ble_eq_true rfl) ?_
  intro p e s m below meth c ls C hr hk hl
  have hl : lv_has ls 4 [(0, .long (lN (n)))] := hl
  refine z_iconst C dX1_topPlace_0 ?_
  refine lv_istore_n (lv' := [(2, .int (iZ (-1))), (0, .long (lN (n)))]) C.1 C.2.1 dX1_topPlace_1 rfl hl (by decide) rfl (fun ls hl => ?_)
  refine z_iconst C dX1_topPlace_2 ?_
  refine lv_istore_n (lv' := [(3, .int (iZ (0))), (2, .int (iZ (-1))), (0, .long (lN (n)))]) C.1 C.2.1 dX1_topPlace_3 rfl hl (by decide) rfl (fun ls hl => ?_)
  have L4 : ∀ (j : Nat) (k : Nat) (x2 : Int) (x3 : Int) (ls : Array Slot), 64 - k < j → (x3 = (k : Int)) → (x2 = (k : Int) - 1) → (k ≤ 64) → ((k : Int) ≤ tp n + 1) → lv_has ls 4 [(0, .long (lN (n))), (2, .int (iZ (x2))), (3, .int (iZ (x3)))] → W p l e { frames := 0, cells := 0, slots := 0, locals := 0 } s m ([.long (lN (n))] : List Value).toArray below meth c s.heap [] 0 0 (zQ below [.long (lN (n))] s (.int (iZ (tp n)))) (F0 m 4 ls []) := by
    intro j
    induction j with
    | zero => intro k x2 x3 ls hmu; exact absurd hmu (Nat.not_lt_zero _)
    | succ j ih4 =>
      intro k x2 x3 ls hmu i4_0 i4_1 i4_2 i4_3 hl
      refine lv_iload_n C.1 C.2.1 dX1_topPlace_4 rfl (lv_at hl 2 rfl) ?_
      refine z_bipush C dX1_topPlace_5 (by decide) ?_
      refine z_icmp_ge (tgt := 26) C (by omega) (by omega) dX1_topPlace_7 (by decide) (fun h7 => ?_) (fun h7 => ?_)
      · refine lv_iload_n C.1 C.2.1 dX1_topPlace_26 rfl (lv_at hl 1 rfl) ?_
        exact z_iret C hr hk dX1_topPlace_27 (congrArg (fun z : Int => Value.int (iZ z)) (by have := (tp_rng hn).2; omega))
      · refine lv_lload_n C.1 C.2.1 dX1_topPlace_10 rfl (lv_at hl 0 rfl) ?_
        refine lv_iload_n C.1 C.2.1 dX1_topPlace_11 rfl (lv_at hl 2 rfl) ?_
        refine z_lushr C (k) (by first | assumption | omega | rfl | exact decide_eq_false (by omega) | exact decide_eq_true (by assumption) | exact decide_eq_true (by omega) | exact one_shl33 (by omega) | exact pm_lt _ _ | exact rm_lt (by first | assumption | exact pm_lt _ _) | exact Nat.lt_of_le_of_lt (Nat.shiftRight_le _ _) (by assumption) | exact Nat.lt_of_le_of_lt Nat.and_le_right (by omega)) (by omega) (by omega) dX1_topPlace_12 ?_
        refine z_lconst (k0 := 0) C dX1_topPlace_13 rfl ?_
        refine z_lc_eq (tgt := 26) C (by first | assumption | omega | rfl | exact decide_eq_false (by omega) | exact decide_eq_true (by assumption) | exact decide_eq_true (by omega) | exact one_shl33 (by omega) | exact pm_lt _ _ | exact rm_lt (by first | assumption | exact pm_lt _ _) | exact Nat.lt_of_le_of_lt (Nat.shiftRight_le _ _) (by assumption) | exact Nat.lt_of_le_of_lt Nat.and_le_right (by omega)) (by first | assumption | omega | rfl | exact decide_eq_false (by omega) | exact decide_eq_true (by assumption) | exact decide_eq_true (by omega) | exact one_shl33 (by omega) | exact pm_lt _ _ | exact rm_lt (by first | assumption | exact pm_lt _ _) | exact Nat.lt_of_le_of_lt (Nat.shiftRight_le _ _) (by assumption) | exact Nat.lt_of_le_of_lt Nat.and_le_right (by omega)) dX1_topPlace_14 dX1_topPlace_15 (by decide) (fun h14 => ?_) (fun h14 => ?_)
        · refine lv_iload_n C.1 C.2.1 dX1_topPlace_26 rfl (lv_at hl 1 rfl) ?_
          exact z_iret C hr hk dX1_topPlace_27 (congrArg (fun z : Int => Value.int (iZ z)) (by have := tp_shr.mp h14; omega))
        · refine lv_iload_n C.1 C.2.1 dX1_topPlace_18 rfl (lv_at hl 2 rfl) ?_
          refine lv_istore_n (lv' := [(2, .int (iZ (x3))), (0, .long (lN (n))), (3, .int (iZ (x3)))]) C.1 C.2.1 dX1_topPlace_19 rfl hl (by decide) rfl (fun ls hl => ?_)
          refine z_iinc (j := 2) (lv' := [(3, .int (iZ (x3 + 1))), (2, .int (iZ (x3))), (0, .long (lN (n)))]) C dX1_topPlace_20 hl rfl (by decide) rfl (fun ls hl => ?_)
          refine lv_goto (tgt := 4) C.1 C.2.1 dX1_topPlace_23 (by decide) ?_
          exact ih4 (k + 1) _ _ _ (by omega) (by omega) (by omega) (by omega) (by have := mt tp_shr.mpr h14; omega) (lv_sub hl [2, 1, 0] rfl)
  exact L4 _ (0) _ _ _ (by exact Nat.lt_succ_self _) (by rfl) (by rfl) (by omega) (by have := tp_ge n; omega) (lv_sub hl [2, 1, 0] rfl)

set_option maxHeartbeats 4000000 in
set_option maxRecDepth 100000 in
theorem c_X1_bottomPlace (l : Launch) (n : Nat) (hn : n < 18446744073709551616) : zP l yX1_bottomPlace 1 44 [.long (lN (n))] (.int (iZ (bp n))) := by
  refine zP.intro (lo := 22) (nA := 1) (own := RX1) zs_X1_bottomPlace (by decide) rfl rfl (by decide +kernel) rfl (Nat.le_of_ble_eq_true rfl) ?_
  intro p e s m below meth c ls C hr hk hl
  have hl : lv_has ls 3 [(0, .long (lN (n)))] := hl
  refine z_iconst C dX1_bottomPlace_0 ?_
  refine lv_istore_n (lv' := [(2, .int (iZ (0))), (0, .long (lN (n)))]) C.1 C.2.1 dX1_bottomPlace_1 rfl hl (by decide) rfl (fun ls hl => ?_)
  have L2 : ∀ (j : Nat) (k : Nat) (f : Nat) (x2 : Int) (ls : Array Slot), 64 - k < j → (x2 = (k : Int)) → (f + k = 64) → (bpF n f k = bp n) → lv_has ls 3 [(0, .long (lN (n))), (2, .int (iZ (x2)))] → W p l e { frames := 1, cells := 0, slots := 0, locals := 22 } s m ([.long (lN (n))] : List Value).toArray below meth c s.heap [] 0 0 (zQ below [.long (lN (n))] s (.int (iZ (bp n)))) (F0 m 2 ls []) := by
    intro j
    induction j with
    | zero => intro k f x2 ls hmu; exact absurd hmu (Nat.not_lt_zero _)
    | succ j ih2 =>
      intro k f x2 ls hmu i2_0 i2_1 i2_2 hl
      refine lv_iload_n C.1 C.2.1 dX1_bottomPlace_2 rfl (lv_at hl 1 rfl) ?_
      refine z_bipush C dX1_bottomPlace_3 (by decide) ?_
      refine z_icmp_ge (tgt := 24) C (by omega) (by omega) dX1_bottomPlace_5 (by decide) (fun h5 => ?_) (fun h5 => ?_)
      · refine z_iconst C dX1_bottomPlace_24 ?_
        exact z_iret C hr hk dX1_bottomPlace_25 (congrArg (fun z : Int => Value.int (iZ z)) (by obtain rfl : f = 0 := (by omega); exact i2_2))
      · refine lv_lload_n C.1 C.2.1 dX1_bottomPlace_8 rfl (lv_at hl 0 rfl) ?_
        refine lv_iload_n C.1 C.2.1 dX1_bottomPlace_9 rfl (lv_at hl 1 rfl) ?_
        refine z_call C (c_X1_hasOne l (n) (x2) (by first | assumption | omega | rfl | exact decide_eq_false (by omega) | exact decide_eq_true (by assumption) | exact decide_eq_true (by omega) | exact one_shl33 (by omega) | exact pm_lt _ _ | exact rm_lt (by first | assumption | exact pm_lt _ _) | exact Nat.lt_of_le_of_lt (Nat.shiftRight_le _ _) (by assumption) | exact Nat.lt_of_le_of_lt Nat.and_le_right (by omega)) (by first | assumption | omega | rfl | exact decide_eq_false (by omega) | exact decide_eq_true (by assumption) | exact decide_eq_true (by omega) | exact one_shl33 (by omega) | exact pm_lt _ _ | exact rm_lt (by first | assumption | exact pm_lt _ _) | exact Nat.lt_of_le_of_lt (Nat.shiftRight_le _ _) (by assumption) | exact Nat.lt_of_le_of_lt Nat.and_le_right (by omega))) ml_X1_11 ⟨by decide, by decide⟩ ⟨Nat.le_refl _, Nat.le_refl _⟩ hl (Nat.le_of_ble_eq_true rfl) rfl dX1_bottomPlace_10 ?_
        refine z_ifB_eq (tgt := 18) C dX1_bottomPlace_13 (by decide) (fun h13 => ?_) (fun h13 => ?_)
        · refine z_iinc (j := 1) (lv' := [(2, .int (iZ (x2 + 1))), (0, .long (lN (n)))]) C dX1_bottomPlace_18 hl rfl (by decide) rfl (fun ls hl => ?_)
          refine lv_goto (tgt := 2) C.1 C.2.1 dX1_bottomPlace_21 (by decide) ?_
          rw [tb_k i2_0 (by omega)] at h13
          obtain ⟨f, rfl⟩ : ∃ g, f = g + 1 := ⟨f - 1, by omega⟩
          rw [bpF_f h13] at i2_2
          exact ih2 (k + 1) (f) _ _ (by omega) (by omega) (by omega) (by exact i2_2) (lv_sub hl [1, 0] rfl)
        · refine lv_iload_n C.1 C.2.1 dX1_bottomPlace_16 rfl (lv_at hl 1 rfl) ?_
          exact z_iret C hr hk dX1_bottomPlace_17 (congrArg (fun z : Int => Value.int (iZ z)) (by rw [tb_k i2_0 (by omega)] at h13; obtain ⟨f, rfl⟩ : ∃ g, f = g + 1 := ⟨f - 1, by omega⟩; rw [bpF_t h13] at i2_2; omega))
  exact L2 _ (0) (64) _ _ (by exact Nat.lt_succ_self _) (by rfl) (by rfl) (by rfl) (lv_sub hl [1, 0] rfl)

set_option maxHeartbeats 4000000 in
set_option maxRecDepth 100000 in
theorem c_X1_joined (l : Launch) (a : Nat) (b : Nat) (h : Int) (hh : 0 ≤ h ∧ h ≤ 3) : zP l yX1_joined 0 24 [.long (lN (a)), .long (lN (b)), .int (iZ (h))] (.long (lN (jo a b h))) := by
  refine zP.intro (lo := 0) (nA := 3) (own := RX1) zs_X1_joined (by decide) rfl rfl (by decide +kernel) rfl (Nat.le_of_ble_eq_true rfl) ?_
  intro p e s m below meth c ls C hr hk hl
  have hl : lv_has ls 5 [(0, .long (lN (a))), (2, .long (lN (b))), (4, .int (iZ (h)))] := hl
  refine lv_iload C.1 C.2.1 dX1_joined_0 (lv_at hl 2 rfl) ?_
  by_cases hs : (h) = 0
  · refine z_tableIn (off := 26) (tgt := 28) C dX1_joined_2 (by omega) (by omega) (by omega) (by rw [hs]; rfl) (by decide) ?_
    refine lv_lload_n C.1 C.2.1 dX1_joined_28 rfl (lv_at hl 0 rfl) ?_
    refine lv_lload_n C.1 C.2.1 dX1_joined_29 rfl (lv_at hl 1 rfl) ?_
    refine z_lxor C dX1_joined_30 ?_
    exact z_lret C hr hk dX1_joined_31 (congrArg (fun z : Nat => Value.long (lN z)) (by subst hs; rfl))
  · skip
    by_cases hs : (h) = 1
    · refine z_tableIn (off := 30) (tgt := 32) C dX1_joined_2 (by omega) (by omega) (by omega) (by rw [hs]; rfl) (by decide) ?_
      refine lv_lload_n C.1 C.2.1 dX1_joined_32 rfl (lv_at hl 0 rfl) ?_
      refine lv_lload_n C.1 C.2.1 dX1_joined_33 rfl (lv_at hl 1 rfl) ?_
      refine z_land C dX1_joined_34 ?_
      exact z_lret C hr hk dX1_joined_35 (congrArg (fun z : Nat => Value.long (lN z)) (by subst hs; rfl))
    · skip
      by_cases hs : (h) = 2
      · refine z_tableIn (off := 34) (tgt := 36) C dX1_joined_2 (by omega) (by omega) (by omega) (by rw [hs]; rfl) (by decide) ?_
        refine lv_lload_n C.1 C.2.1 dX1_joined_36 rfl (lv_at hl 0 rfl) ?_
        refine lv_lload_n C.1 C.2.1 dX1_joined_37 rfl (lv_at hl 1 rfl) ?_
        refine z_lor C dX1_joined_38 ?_
        exact z_lret C hr hk dX1_joined_39 (congrArg (fun z : Nat => Value.long (lN z)) (by subst hs; rfl))
      · skip
        refine z_tableOut (tgt := 40) C dX1_joined_2 (by omega) (by omega) (by decide) ?_
        refine lv_lload_n C.1 C.2.1 dX1_joined_40 rfl (lv_at hl 0 rfl) ?_
        refine lv_lload_n C.1 C.2.1 dX1_joined_41 rfl (lv_at hl 1 rfl) ?_
        refine z_ldc2 C 18446744073709551615 (T0_of kl_X1_15 rfl) (by decide) dX1_joined_42 ?_
        refine z_lxor C dX1_joined_45 ?_
        refine z_land C dX1_joined_46 ?_
        exact z_lret C hr hk dX1_joined_47 (congrArg (fun z : Nat => Value.long (lN z)) (by obtain rfl : h = 3 := (by omega); rfl))

set_option maxHeartbeats 4000000 in
set_option maxRecDepth 100000 in
theorem c_X1_product (l : Launch) (a : Nat) (b : Nat) (hb : b < 18446744073709551616) : zP l yX1_product 1 48 [.long (lN (a)), .long (lN (b))] (.long (lN (pm a b))) := by
  refine zP.intro (lo := 22) (nA := 2) (own := RX1) zs_X1_product (by decide) rfl rfl (by decide +kernel) rfl (Nat.le_of_ble_eq_true rfl) ?_
  intro p e s m below meth c ls C hr hk hl
  have hl : lv_has ls 7 [(0, .long (lN (a))), (2, .long (lN (b)))] := hl
  refine z_lconst (k0 := 0) C dX1_product_0 rfl ?_
  refine lv_lstore (lv' := [(4, .long (lN (0))), (0, .long (lN (a))), (2, .long (lN (b)))]) C.1 C.2.1 dX1_product_1 hl (by decide) rfl (fun ls hl => ?_)
  refine z_iconst C dX1_product_3 ?_
  refine lv_istore (lv' := [(6, .int (iZ (0))), (4, .long (lN (0))), (0, .long (lN (a))), (2, .long (lN (b)))]) C.1 C.2.1 dX1_product_4 hl (by decide) rfl (fun ls hl => ?_)
  have L6 : ∀ (j : Nat) (k : Nat) (x4 : Nat) (x6 : Int) (ls : Array Slot), 64 - k < j → (x6 = (k : Int)) → (x4 = pmF a b k) → (k ≤ 64) → lv_has ls 7 [(0, .long (lN (a))), (2, .long (lN (b))), (4, .long (lN (x4))), (6, .int (iZ (x6)))] → W p l e { frames := 1, cells := 0, slots := 0, locals := 22 } s m ([.long (lN (a)), .long (lN (b))] : List Value).toArray below meth c s.heap [] 0 0 (zQ below [.long (lN (a)), .long (lN (b))] s (.long (lN (pm a b)))) (F0 m 6 ls []) := by
    intro j
    induction j with
    | zero => intro k x4 x6 ls hmu; exact absurd hmu (Nat.not_lt_zero _)
    | succ j ih6 =>
      intro k x4 x6 ls hmu i6_0 i6_1 i6_2 hl
      refine lv_iload C.1 C.2.1 dX1_product_6 (lv_at hl 3 rfl) ?_
      refine z_bipush C dX1_product_8 (by decide) ?_
      refine z_icmp_ge (tgt := 46) C (by omega) (by omega) dX1_product_10 (by decide) (fun h10 => ?_) (fun h10 => ?_)
      · refine lv_lload C.1 C.2.1 dX1_product_46 (lv_at hl 2 rfl) ?_
        exact z_lret C hr hk dX1_product_48 (by rw [pm, lN_mod, i6_1, show k = 64 by omega])
      · refine lv_lload_n C.1 C.2.1 dX1_product_13 rfl (lv_at hl 1 rfl) ?_
        refine lv_iload C.1 C.2.1 dX1_product_14 (lv_at hl 3 rfl) ?_
        refine z_lushr C (k) (by first | assumption | omega | rfl | exact decide_eq_false (by omega) | exact decide_eq_true (by assumption) | exact decide_eq_true (by omega) | exact one_shl33 (by omega) | exact pm_lt _ _ | exact rm_lt (by first | assumption | exact pm_lt _ _) | exact Nat.lt_of_le_of_lt (Nat.shiftRight_le _ _) (by assumption) | exact Nat.lt_of_le_of_lt Nat.and_le_right (by omega)) (by omega) (by omega) dX1_product_16 ?_
        refine z_lconst (k0 := 0) C dX1_product_17 rfl ?_
        refine z_lc_eq (tgt := 46) C (by first | assumption | omega | rfl | exact decide_eq_false (by omega) | exact decide_eq_true (by assumption) | exact decide_eq_true (by omega) | exact one_shl33 (by omega) | exact pm_lt _ _ | exact rm_lt (by first | assumption | exact pm_lt _ _) | exact Nat.lt_of_le_of_lt (Nat.shiftRight_le _ _) (by assumption) | exact Nat.lt_of_le_of_lt Nat.and_le_right (by omega)) (by first | assumption | omega | rfl | exact decide_eq_false (by omega) | exact decide_eq_true (by assumption) | exact decide_eq_true (by omega) | exact one_shl33 (by omega) | exact pm_lt _ _ | exact rm_lt (by first | assumption | exact pm_lt _ _) | exact Nat.lt_of_le_of_lt (Nat.shiftRight_le _ _) (by assumption) | exact Nat.lt_of_le_of_lt Nat.and_le_right (by omega)) dX1_product_18 dX1_product_19 (by decide) (fun h18 => ?_) (fun h18 => ?_)
        · refine lv_lload C.1 C.2.1 dX1_product_46 (lv_at hl 2 rfl) ?_
          exact z_lret C hr hk dX1_product_48 (by rw [pm, lN_mod, i6_1, pmF_64 h18 (by omega)])
        · refine lv_lload_n C.1 C.2.1 dX1_product_22 rfl (lv_at hl 1 rfl) ?_
          refine lv_iload C.1 C.2.1 dX1_product_23 (lv_at hl 3 rfl) ?_
          refine z_call C (c_X1_hasOne l (b) (x6) (by first | assumption | omega | rfl | exact decide_eq_false (by omega) | exact decide_eq_true (by assumption) | exact decide_eq_true (by omega) | exact one_shl33 (by omega) | exact pm_lt _ _ | exact rm_lt (by first | assumption | exact pm_lt _ _) | exact Nat.lt_of_le_of_lt (Nat.shiftRight_le _ _) (by assumption) | exact Nat.lt_of_le_of_lt Nat.and_le_right (by omega)) (by first | assumption | omega | rfl | exact decide_eq_false (by omega) | exact decide_eq_true (by assumption) | exact decide_eq_true (by omega) | exact one_shl33 (by omega) | exact pm_lt _ _ | exact rm_lt (by first | assumption | exact pm_lt _ _) | exact Nat.lt_of_le_of_lt (Nat.shiftRight_le _ _) (by assumption) | exact Nat.lt_of_le_of_lt Nat.and_le_right (by omega))) ml_X1_11 ⟨by decide, by decide⟩ ⟨Nat.le_refl _, Nat.le_refl _⟩ hl (Nat.le_of_ble_eq_true rfl) rfl dX1_product_25 ?_
          refine z_ifB_eq (tgt := 40) C dX1_product_28 (by decide) (fun h28 => ?_) (fun h28 => ?_)
          · refine z_iinc (j := 3) (lv' := [(6, .int (iZ (x6 + 1))), (0, .long (lN (a))), (2, .long (lN (b))), (4, .long (lN (x4)))]) C dX1_product_40 hl rfl (by decide) rfl (fun ls hl => ?_)
            refine lv_goto (tgt := 6) C.1 C.2.1 dX1_product_43 (by decide) ?_
            exact ih6 (k + 1) _ _ _ (by omega) (by omega) (by rw [pmF_f (by rw [← tb_k i6_0 (by omega)]; exact h28)]; exact i6_1) (by omega) (lv_sub hl [1, 2, 3, 0] rfl)
          · refine lv_lload C.1 C.2.1 dX1_product_31 (lv_at hl 2 rfl) ?_
            refine lv_lload_n C.1 C.2.1 dX1_product_33 rfl (lv_at hl 0 rfl) ?_
            refine lv_iload C.1 C.2.1 dX1_product_34 (lv_at hl 3 rfl) ?_
            refine z_lshl C (k) (by omega) (by omega) dX1_product_36 ?_
            refine z_lxor C dX1_product_37 ?_
            refine lv_lstore (lv' := [(4, .long (lN ((x4) ^^^ ((a) <<< (k))))), (0, .long (lN (a))), (2, .long (lN (b))), (6, .int (iZ (x6)))]) C.1 C.2.1 dX1_product_38 hl (by decide) rfl (fun ls hl => ?_)
            refine z_iinc (j := 3) (lv' := [(6, .int (iZ (x6 + 1))), (4, .long (lN ((x4) ^^^ ((a) <<< (k))))), (0, .long (lN (a))), (2, .long (lN (b)))]) C dX1_product_40 hl rfl (by decide) rfl (fun ls hl => ?_)
            refine lv_goto (tgt := 6) C.1 C.2.1 dX1_product_43 (by decide) ?_
            exact ih6 (k + 1) _ _ _ (by omega) (by omega) (by rw [pmF_t (by rw [← tb_k i6_0 (by omega)]; exact h28), i6_1]) (by omega) (lv_sub hl [2, 3, 1, 0] rfl)
  exact L6 _ (0) _ _ _ (by exact Nat.lt_succ_self _) (by rfl) (by rfl) (by omega) (lv_sub hl [2, 3, 1, 0] rfl)

set_option maxHeartbeats 4000000 in
set_option maxRecDepth 100000 in
theorem c_X1_quotientOf (l : Launch) (a : Nat) (b : Nat) (ha : a < 18446744073709551616) (hb : b < 18446744073709551616) : zP l yX1_quotientOf 1 52 [.long (lN (a)), .long (lN (b))] (.long (lN (qo a b))) := by
  refine zP.intro (lo := 23) (nA := 2) (own := RX1) zs_X1_quotientOf (by decide) rfl rfl (by decide +kernel) rfl (Nat.le_of_ble_eq_true rfl) ?_
  intro p e s m below meth c ls C hr hk hl
  have hl : lv_has ls 10 [(0, .long (lN (a))), (2, .long (lN (b)))] := hl
  refine lv_lload_n C.1 C.2.1 dX1_quotientOf_0 rfl (lv_at hl 1 rfl) ?_
  refine z_lconst (k0 := 0) C dX1_quotientOf_1 rfl ?_
  refine z_lc_ne (tgt := 8) C (by first | assumption | omega | rfl | exact decide_eq_false (by omega) | exact decide_eq_true (by assumption) | exact decide_eq_true (by omega) | exact one_shl33 (by omega) | exact pm_lt _ _ | exact rm_lt (by first | assumption | exact pm_lt _ _) | exact Nat.lt_of_le_of_lt (Nat.shiftRight_le _ _) (by assumption) | exact Nat.lt_of_le_of_lt Nat.and_le_right (by omega)) (by first | assumption | omega | rfl | exact decide_eq_false (by omega) | exact decide_eq_true (by assumption) | exact decide_eq_true (by omega) | exact one_shl33 (by omega) | exact pm_lt _ _ | exact rm_lt (by first | assumption | exact pm_lt _ _) | exact Nat.lt_of_le_of_lt (Nat.shiftRight_le _ _) (by assumption) | exact Nat.lt_of_le_of_lt Nat.and_le_right (by omega)) dX1_quotientOf_2 dX1_quotientOf_3 (by decide) (fun h2 => ?_) (fun h2 => ?_)
  · refine lv_lload_n C.1 C.2.1 dX1_quotientOf_8 rfl (lv_at hl 1 rfl) ?_
    refine z_call C (c_X1_topPlace l (b) (by first | assumption | omega | rfl | exact decide_eq_false (by omega) | exact decide_eq_true (by assumption) | exact decide_eq_true (by omega) | exact one_shl33 (by omega) | exact pm_lt _ _ | exact rm_lt (by first | assumption | exact pm_lt _ _) | exact Nat.lt_of_le_of_lt (Nat.shiftRight_le _ _) (by assumption) | exact Nat.lt_of_le_of_lt Nat.and_le_right (by omega))) ml_X1_17 ⟨by decide, by decide⟩ ⟨Nat.le_refl _, Nat.le_refl _⟩ hl (Nat.le_of_ble_eq_true rfl) rfl dX1_quotientOf_9 ?_
    have q9_0 := tp_rngE (b) (by first | assumption | omega)
    refine lv_istore (lv' := [(4, .int (iZ (tp (b)))), (0, .long (lN (a))), (2, .long (lN (b)))]) C.1 C.2.1 dX1_quotientOf_12 hl (by decide) rfl (fun ls hl => ?_)
    refine lv_lload_n C.1 C.2.1 dX1_quotientOf_14 rfl (lv_at hl 1 rfl) ?_
    refine lv_lstore (lv' := [(5, .long (lN (a))), (4, .int (iZ (tp (b)))), (0, .long (lN (a))), (2, .long (lN (b)))]) C.1 C.2.1 dX1_quotientOf_15 hl (by decide) rfl (fun ls hl => ?_)
    refine z_lconst (k0 := 0) C dX1_quotientOf_17 rfl ?_
    refine lv_lstore (lv' := [(7, .long (lN (0))), (5, .long (lN (a))), (4, .int (iZ (tp (b)))), (0, .long (lN (a))), (2, .long (lN (b)))]) C.1 C.2.1 dX1_quotientOf_18 hl (by decide) rfl (fun ls hl => ?_)
    refine lv_lload_n C.1 C.2.1 dX1_quotientOf_20 rfl (lv_at hl 3 rfl) ?_
    refine z_call C (c_X1_topPlace l (a) (by first | assumption | omega | rfl | exact decide_eq_false (by omega) | exact decide_eq_true (by assumption) | exact decide_eq_true (by omega) | exact one_shl33 (by omega) | exact pm_lt _ _ | exact rm_lt (by first | assumption | exact pm_lt _ _) | exact Nat.lt_of_le_of_lt (Nat.shiftRight_le _ _) (by assumption) | exact Nat.lt_of_le_of_lt Nat.and_le_right (by omega))) ml_X1_17 ⟨by decide, by decide⟩ ⟨Nat.le_refl _, Nat.le_refl _⟩ hl (Nat.le_of_ble_eq_true rfl) rfl dX1_quotientOf_21 ?_
    have q21_0 := tp_rngE (a) (by first | assumption | omega)
    refine lv_istore (lv' := [(9, .int (iZ (tp (a)))), (7, .long (lN (0))), (5, .long (lN (a))), (4, .int (iZ (tp (b)))), (0, .long (lN (a))), (2, .long (lN (b)))]) C.1 C.2.1 dX1_quotientOf_24 hl (by decide) rfl (fun ls hl => ?_)
    have L26 : ∀ (j : Nat) (j0 : Nat) (x5 : Nat) (x7 : Nat) (x9 : Int) (ls : Array Slot), j0 < j → (x9 + 1 = tp b + (j0 : Int) ∨ (j0 = 0 ∧ x9 < tp b)) → (x9 ≤ 63) → (x5 < 18446744073709551616) → ((qoF b (tp b).toNat j0 x5 x7).2 = qo a b) → (-1 ≤ x9) → lv_has ls 10 [(0, .long (lN (a))), (2, .long (lN (b))), (4, .int (iZ (tp (b)))), (5, .long (lN (x5))), (7, .long (lN (x7))), (9, .int (iZ (x9)))] → W p l e { frames := 1, cells := 0, slots := 0, locals := 23 } s m ([.long (lN (a)), .long (lN (b))] : List Value).toArray below meth c s.heap [] 0 0 (zQ below [.long (lN (a)), .long (lN (b))] s (.long (lN (qo a b)))) (F0 m 26 ls []) := by
      intro j
      induction j with
      | zero => intro j0 x5 x7 x9 ls hmu; exact absurd hmu (Nat.not_lt_zero _)
      | succ j ih26 =>
        intro j0 x5 x7 x9 ls hmu i26_0 i26_1 i26_2 i26_3 i26_4 hl
        have hb0 := mt tp_neg.mp h2
        have hbr := tp_rng hb
        refine lv_iload C.1 C.2.1 dX1_quotientOf_26 (lv_at hl 5 rfl) ?_
        refine lv_iload C.1 C.2.1 dX1_quotientOf_28 (lv_at hl 2 rfl) ?_
        refine z_icmp_lt (tgt := 74) C (by omega) (by omega) dX1_quotientOf_30 (by decide) (fun h30 => ?_) (fun h30 => ?_)
        · refine lv_lload C.1 C.2.1 dX1_quotientOf_74 (lv_at hl 4 rfl) ?_
          exact z_lret C hr hk dX1_quotientOf_76 (congrArg (fun z : Nat => Value.long (lN z)) (by rw [← i26_3, show j0 = 0 by omega]; rfl))
        · refine lv_lload C.1 C.2.1 dX1_quotientOf_33 (lv_at hl 3 rfl) ?_
          refine lv_iload C.1 C.2.1 dX1_quotientOf_35 (lv_at hl 5 rfl) ?_
          refine z_call C (c_X1_hasOne l (x5) (x9) (by first | assumption | omega | rfl | exact decide_eq_false (by omega) | exact decide_eq_true (by assumption) | exact decide_eq_true (by omega) | exact one_shl33 (by omega) | exact pm_lt _ _ | exact rm_lt (by first | assumption | exact pm_lt _ _) | exact Nat.lt_of_le_of_lt (Nat.shiftRight_le _ _) (by assumption) | exact Nat.lt_of_le_of_lt Nat.and_le_right (by omega)) (by first | assumption | omega | rfl | exact decide_eq_false (by omega) | exact decide_eq_true (by assumption) | exact decide_eq_true (by omega) | exact one_shl33 (by omega) | exact pm_lt _ _ | exact rm_lt (by first | assumption | exact pm_lt _ _) | exact Nat.lt_of_le_of_lt (Nat.shiftRight_le _ _) (by assumption) | exact Nat.lt_of_le_of_lt Nat.and_le_right (by omega))) ml_X1_11 ⟨by decide, by decide⟩ ⟨Nat.le_refl _, Nat.le_refl _⟩ hl (Nat.le_of_ble_eq_true rfl) rfl dX1_quotientOf_37 ?_
          refine z_ifB_eq (tgt := 68) C dX1_quotientOf_40 (by decide) (fun h40 => ?_) (fun h40 => ?_)
          · refine z_iinc (j := 5) (lv' := [(9, .int (iZ (x9 + (-1)))), (0, .long (lN (a))), (2, .long (lN (b))), (4, .int (iZ (tp (b)))), (5, .long (lN (x5))), (7, .long (lN (x7)))]) C dX1_quotientOf_68 hl rfl (by decide) rfl (fun ls hl => ?_)
            refine lv_goto (tgt := 26) C.1 C.2.1 dX1_quotientOf_71 (by decide) ?_
            obtain ⟨j1, rfl⟩ : ∃ g, j0 = g + 1 := ⟨j0 - 1, by omega⟩
            rw [tb_k (k := (tp b).toNat + j1) (by omega) (by omega)] at h40
            rw [qoF_f h40] at i26_3
            exact ih26 (j1) _ _ _ _ (by omega) (by omega) (by omega) (by exact i26_2) (by exact i26_3) (by omega) (lv_sub hl [1, 2, 3, 4, 5, 0] rfl)
          · refine lv_lload C.1 C.2.1 dX1_quotientOf_43 (lv_at hl 3 rfl) ?_
            refine lv_lload_n C.1 C.2.1 dX1_quotientOf_45 rfl (lv_at hl 1 rfl) ?_
            refine lv_iload C.1 C.2.1 dX1_quotientOf_46 (lv_at hl 5 rfl) ?_
            refine lv_iload C.1 C.2.1 dX1_quotientOf_48 (lv_at hl 2 rfl) ?_
            refine z_isub C dX1_quotientOf_50 ?_
            refine z_lshl C (((x9) - (tp (b))).toNat) (by omega) (by omega) dX1_quotientOf_51 ?_
            refine z_lxor C dX1_quotientOf_52 ?_
            refine lv_lstore (lv' := [(5, .long (lN ((x5) ^^^ ((b) <<< (((x9) - (tp (b))).toNat))))), (0, .long (lN (a))), (2, .long (lN (b))), (4, .int (iZ (tp (b)))), (7, .long (lN (x7))), (9, .int (iZ (x9)))]) C.1 C.2.1 dX1_quotientOf_53 hl (by decide) rfl (fun ls hl => ?_)
            refine lv_lload C.1 C.2.1 dX1_quotientOf_55 (lv_at hl 4 rfl) ?_
            refine lv_iload C.1 C.2.1 dX1_quotientOf_57 (lv_at hl 5 rfl) ?_
            refine lv_iload C.1 C.2.1 dX1_quotientOf_59 (lv_at hl 3 rfl) ?_
            refine z_isub C dX1_quotientOf_61 ?_
            refine z_call C (c_X1_single l ((x9) - (tp (b))) (by first | assumption | omega | rfl | exact decide_eq_false (by omega) | exact decide_eq_true (by assumption) | exact decide_eq_true (by omega) | exact one_shl33 (by omega) | exact pm_lt _ _ | exact rm_lt (by first | assumption | exact pm_lt _ _) | exact Nat.lt_of_le_of_lt (Nat.shiftRight_le _ _) (by assumption) | exact Nat.lt_of_le_of_lt Nat.and_le_right (by omega))) ml_X1_21 ⟨by decide, by decide⟩ ⟨Nat.le_refl _, Nat.le_refl _⟩ hl (Nat.le_of_ble_eq_true rfl) rfl dX1_quotientOf_62 ?_
            refine z_lor C dX1_quotientOf_65 ?_
            refine lv_lstore (lv' := [(7, .long (lN ((x7) ||| (1 <<< ((x9) - (tp (b))).toNat)))), (5, .long (lN ((x5) ^^^ ((b) <<< (((x9) - (tp (b))).toNat))))), (0, .long (lN (a))), (2, .long (lN (b))), (4, .int (iZ (tp (b)))), (9, .int (iZ (x9)))]) C.1 C.2.1 dX1_quotientOf_66 hl (by decide) rfl (fun ls hl => ?_)
            refine z_iinc (j := 5) (lv' := [(9, .int (iZ (x9 + (-1)))), (7, .long (lN ((x7) ||| (1 <<< ((x9) - (tp (b))).toNat)))), (5, .long (lN ((x5) ^^^ ((b) <<< (((x9) - (tp (b))).toNat))))), (0, .long (lN (a))), (2, .long (lN (b))), (4, .int (iZ (tp (b))))]) C dX1_quotientOf_68 hl rfl (by decide) rfl (fun ls hl => ?_)
            refine lv_goto (tgt := 26) C.1 C.2.1 dX1_quotientOf_71 (by decide) ?_
            obtain ⟨j1, rfl⟩ : ∃ g, j0 = g + 1 := ⟨j0 - 1, by omega⟩
            rw [tb_k (k := (tp b).toNat + j1) (by omega) (by omega)] at h40
            rw [qoF_t h40] at i26_3
            have ej : (x9 - tp b).toNat = j1 := by omega
            exact ih26 (j1) _ _ _ _ (by omega) (by omega) (by omega) (by rw [ej]; exact xor64 i26_2 (shl64 (by omega) (by omega))) (by rw [ej]; exact i26_3) (by omega) (lv_sub hl [3, 4, 5, 2, 1, 0] rfl)
    have hb0 := mt tp_neg.mp h2
    have hbr := tp_rng hb
    have har := tp_rng ha
    exact L26 _ ((tp a + 1 - tp b).toNat) _ _ _ _ (by exact Nat.lt_succ_self _) (by omega) (by omega) (by exact ha) (by rw [qo, if_neg h2]) (by omega) (lv_sub hl [4, 5, 3, 2, 1, 0] rfl)
  · refine z_lconst (k0 := 0) C dX1_quotientOf_6 rfl ?_
    exact z_lret C hr hk dX1_quotientOf_7 (congrArg (fun z : Nat => Value.long (lN z)) (by rw [qo, if_pos h2]))

set_option maxHeartbeats 4000000 in
set_option maxRecDepth 100000 in
theorem c_X1_restOf (l : Launch) (a : Nat) (b : Nat) (ha : a < 18446744073709551616) (hb : b < 18446744073709551616) : zP l yX1_restOf 2 75 [.long (lN (a)), .long (lN (b))] (.long (lN (rm a b))) := by
  refine zP.intro (lo := 52) (nA := 2) (own := RX1) zs_X1_restOf (by decide) rfl rfl (by decide +kernel) rfl (Nat.le_of_ble_eq_true rfl) ?_
  intro p e s m below meth c ls C hr hk hl
  have hl : lv_has ls 4 [(0, .long (lN (a))), (2, .long (lN (b)))] := hl
  refine lv_lload_n C.1 C.2.1 dX1_restOf_0 rfl (lv_at hl 0 rfl) ?_
  refine lv_lload_n C.1 C.2.1 dX1_restOf_1 rfl (lv_at hl 0 rfl) ?_
  refine lv_lload_n C.1 C.2.1 dX1_restOf_2 rfl (lv_at hl 1 rfl) ?_
  refine z_call C (c_X1_quotientOf l (a) (b) (by first | assumption | omega | rfl | exact decide_eq_false (by omega) | exact decide_eq_true (by assumption) | exact decide_eq_true (by omega) | exact one_shl33 (by omega) | exact pm_lt _ _ | exact rm_lt (by first | assumption | exact pm_lt _ _) | exact Nat.lt_of_le_of_lt (Nat.shiftRight_le _ _) (by assumption) | exact Nat.lt_of_le_of_lt Nat.and_le_right (by omega)) (by first | assumption | omega | rfl | exact decide_eq_false (by omega) | exact decide_eq_true (by assumption) | exact decide_eq_true (by omega) | exact one_shl33 (by omega) | exact pm_lt _ _ | exact rm_lt (by first | assumption | exact pm_lt _ _) | exact Nat.lt_of_le_of_lt (Nat.shiftRight_le _ _) (by assumption) | exact Nat.lt_of_le_of_lt Nat.and_le_right (by omega))) ml_X1_25 ⟨by decide, by decide⟩ ⟨Nat.le_refl _, Nat.le_refl _⟩ hl (Nat.le_of_ble_eq_true rfl) rfl dX1_restOf_3 ?_
  refine lv_lload_n C.1 C.2.1 dX1_restOf_6 rfl (lv_at hl 1 rfl) ?_
  refine z_call C (c_X1_product l (qo (a) (b)) (b) (by first | assumption | omega | rfl | exact decide_eq_false (by omega) | exact decide_eq_true (by assumption) | exact decide_eq_true (by omega) | exact one_shl33 (by omega) | exact pm_lt _ _ | exact rm_lt (by first | assumption | exact pm_lt _ _) | exact Nat.lt_of_le_of_lt (Nat.shiftRight_le _ _) (by assumption) | exact Nat.lt_of_le_of_lt Nat.and_le_right (by omega))) ml_X1_29 ⟨by decide, by decide⟩ ⟨Nat.le_refl _, Nat.le_refl _⟩ hl (Nat.le_of_ble_eq_true rfl) rfl dX1_restOf_7 ?_
  refine z_lxor C dX1_restOf_10 ?_
  exact z_lret C hr hk dX1_restOf_11 (congrArg (fun z : Nat => Value.long (lN z)) (by rfl))

set_option maxHeartbeats 4000000 in
set_option maxRecDepth 100000 in
theorem c_X1_isDivisor (l : Launch) (a : Nat) (b : Nat) (ha : a < 18446744073709551616) (hb : b < 18446744073709551616) : zP l yX1_isDivisor 3 98 [.long (lN (a)), .long (lN (b))] (.int (iZ (zB (decide (rm b a = 0))))) := by
  refine zP.intro (lo := 75) (nA := 2) (own := RX1) zs_X1_isDivisor (by decide) rfl rfl (by decide +kernel) rfl (Nat.le_of_ble_eq_true rfl) ?_
  intro p e s m below meth c ls C hr hk hl
  have hl : lv_has ls 4 [(0, .long (lN (a))), (2, .long (lN (b)))] := hl
  refine lv_lload_n C.1 C.2.1 dX1_isDivisor_0 rfl (lv_at hl 1 rfl) ?_
  refine lv_lload_n C.1 C.2.1 dX1_isDivisor_1 rfl (lv_at hl 0 rfl) ?_
  refine z_call C (c_X1_restOf l (b) (a) (by first | assumption | omega | rfl | exact decide_eq_false (by omega) | exact decide_eq_true (by assumption) | exact decide_eq_true (by omega) | exact one_shl33 (by omega) | exact pm_lt _ _ | exact rm_lt (by first | assumption | exact pm_lt _ _) | exact Nat.lt_of_le_of_lt (Nat.shiftRight_le _ _) (by assumption) | exact Nat.lt_of_le_of_lt Nat.and_le_right (by omega)) (by first | assumption | omega | rfl | exact decide_eq_false (by omega) | exact decide_eq_true (by assumption) | exact decide_eq_true (by omega) | exact one_shl33 (by omega) | exact pm_lt _ _ | exact rm_lt (by first | assumption | exact pm_lt _ _) | exact Nat.lt_of_le_of_lt (Nat.shiftRight_le _ _) (by assumption) | exact Nat.lt_of_le_of_lt Nat.and_le_right (by omega))) ml_X1_32 ⟨by decide, by decide⟩ ⟨Nat.le_refl _, Nat.le_refl _⟩ hl (Nat.le_of_ble_eq_true rfl) rfl dX1_isDivisor_2 ?_
  refine z_lconst (k0 := 0) C dX1_isDivisor_5 rfl ?_
  refine z_lc_ne (tgt := 14) C (by exact rm_lt hb) (by omega) dX1_isDivisor_6 dX1_isDivisor_7 (by decide) (fun h6 => ?_) (fun h6 => ?_)
  · refine z_iconst C dX1_isDivisor_14 ?_
    exact z_zret C hr hk dX1_isDivisor_15 (by decide) (congrArg (fun z : Int => Value.int (iZ z)) (by exact zB_f (decide_eq_false h6)))
  · refine z_iconst C dX1_isDivisor_10 ?_
    refine lv_goto (tgt := 15) C.1 C.2.1 dX1_isDivisor_11 (by decide) ?_
    exact z_zret C hr hk dX1_isDivisor_15 (by decide) (congrArg (fun z : Int => Value.int (iZ z)) (by exact zB_t (decide_eq_true h6)))

set_option maxHeartbeats 4000000 in
set_option maxRecDepth 100000 in
theorem c_X1_euclid (l : Launch) (a : Nat) (b : Nat) (x : Nat) (y : Nat) (ha : a < 18446744073709551616) (hb : b < 18446744073709551616) (hx : x < 18446744073709551616) (hy : y < 18446744073709551616) : zP l yX1_euclid 2 94 [.long (lN (a)), .long (lN (b)), .long (lN (x)), .long (lN (y))] (.long (lN (eu a b x y))) := by
  refine zP.intro (lo := 52) (nA := 4) (own := RX1) zs_X1_euclid (by decide) rfl rfl (by decide +kernel) rfl (Nat.le_of_ble_eq_true rfl) ?_
  intro p e s m below meth c ls C hr hk hl
  have hl : lv_has ls 23 [(0, .long (lN (a))), (2, .long (lN (b))), (4, .long (lN (x))), (6, .long (lN (y)))] := hl
  refine lv_lload_n C.1 C.2.1 dX1_euclid_0 rfl (lv_at hl 0 rfl) ?_
  refine lv_lstore (lv' := [(8, .long (lN (a))), (0, .long (lN (a))), (2, .long (lN (b))), (4, .long (lN (x))), (6, .long (lN (y)))]) C.1 C.2.1 dX1_euclid_1 hl (by decide) rfl (fun ls hl => ?_)
  refine lv_lload_n C.1 C.2.1 dX1_euclid_3 rfl (lv_at hl 2 rfl) ?_
  refine lv_lstore (lv' := [(10, .long (lN (b))), (8, .long (lN (a))), (0, .long (lN (a))), (2, .long (lN (b))), (4, .long (lN (x))), (6, .long (lN (y)))]) C.1 C.2.1 dX1_euclid_4 hl (by decide) rfl (fun ls hl => ?_)
  refine lv_lload C.1 C.2.1 dX1_euclid_6 (lv_at hl 4 rfl) ?_
  refine lv_lstore (lv' := [(12, .long (lN (x))), (10, .long (lN (b))), (8, .long (lN (a))), (0, .long (lN (a))), (2, .long (lN (b))), (4, .long (lN (x))), (6, .long (lN (y)))]) C.1 C.2.1 dX1_euclid_8 hl (by decide) rfl (fun ls hl => ?_)
  refine lv_lload C.1 C.2.1 dX1_euclid_10 (lv_at hl 6 rfl) ?_
  refine lv_lstore (lv' := [(14, .long (lN (y))), (12, .long (lN (x))), (10, .long (lN (b))), (8, .long (lN (a))), (0, .long (lN (a))), (2, .long (lN (b))), (4, .long (lN (x))), (6, .long (lN (y)))]) C.1 C.2.1 dX1_euclid_12 hl (by decide) rfl (fun ls hl => ?_)
  refine z_iconst C dX1_euclid_14 ?_
  refine lv_istore (lv' := [(16, .int (iZ (0))), (14, .long (lN (y))), (12, .long (lN (x))), (10, .long (lN (b))), (8, .long (lN (a))), (0, .long (lN (a))), (2, .long (lN (b))), (4, .long (lN (x))), (6, .long (lN (y)))]) C.1 C.2.1 dX1_euclid_15 hl (by decide) rfl (fun ls hl => ?_)
  have L17 : ∀ (j : Nat) (f : Nat) (x8 : Nat) (x10 : Nat) (x12 : Nat) (x14 : Nat) (x16 : Int) (ls : Array Slot), f < j → (x16 + (f : Int) = 65) → (0 ≤ x16) → (x8 < 18446744073709551616) → (x10 < 18446744073709551616) → (x12 < 18446744073709551616) → (x14 < 18446744073709551616) → (euF f x8 x10 x12 x14 = eu a b x y) → lv_has ls 23 [(0, .long (lN (a))), (2, .long (lN (b))), (4, .long (lN (x))), (6, .long (lN (y))), (8, .long (lN (x8))), (10, .long (lN (x10))), (12, .long (lN (x12))), (14, .long (lN (x14))), (16, .int (iZ (x16)))] → W p l e { frames := 2, cells := 0, slots := 0, locals := 52 } s m ([.long (lN (a)), .long (lN (b)), .long (lN (x)), .long (lN (y))] : List Value).toArray below meth c s.heap [] 0 0 (zQ below [.long (lN (a)), .long (lN (b)), .long (lN (x)), .long (lN (y))] s (.long (lN (eu a b x y)))) (F0 m 17 ls []) := by
    intro j
    induction j with
    | zero => intro f x8 x10 x12 x14 x16 ls hmu; exact absurd hmu (Nat.not_lt_zero _)
    | succ j ih17 =>
      intro f x8 x10 x12 x14 x16 ls hmu i17_0 i17_1 i17_2 i17_3 i17_4 i17_5 i17_6 hl
      refine lv_iload C.1 C.2.1 dX1_euclid_17 (lv_at hl 8 rfl) ?_
      refine z_bipush C dX1_euclid_19 (by decide) ?_
      refine z_icmp_gt (tgt := 86) C (by omega) (by omega) dX1_euclid_21 (by decide) (fun h21 => ?_) (fun h21 => ?_)
      · refine lv_lload C.1 C.2.1 dX1_euclid_86 (lv_at hl 6 rfl) ?_
        exact z_lret C hr hk dX1_euclid_88 (congrArg (fun z : Nat => Value.long (lN z)) (by rw [← i17_6, show f = 0 by omega]; rfl))
      · refine lv_lload C.1 C.2.1 dX1_euclid_24 (lv_at hl 5 rfl) ?_
        refine z_lconst (k0 := 0) C dX1_euclid_26 rfl ?_
        refine z_lc_eq (tgt := 86) C (by first | assumption | omega | rfl | exact decide_eq_false (by omega) | exact decide_eq_true (by assumption) | exact decide_eq_true (by omega) | exact one_shl33 (by omega) | exact pm_lt _ _ | exact rm_lt (by first | assumption | exact pm_lt _ _) | exact Nat.lt_of_le_of_lt (Nat.shiftRight_le _ _) (by assumption) | exact Nat.lt_of_le_of_lt Nat.and_le_right (by omega)) (by first | assumption | omega | rfl | exact decide_eq_false (by omega) | exact decide_eq_true (by assumption) | exact decide_eq_true (by omega) | exact one_shl33 (by omega) | exact pm_lt _ _ | exact rm_lt (by first | assumption | exact pm_lt _ _) | exact Nat.lt_of_le_of_lt (Nat.shiftRight_le _ _) (by assumption) | exact Nat.lt_of_le_of_lt Nat.and_le_right (by omega)) dX1_euclid_27 dX1_euclid_28 (by decide) (fun h27 => ?_) (fun h27 => ?_)
        · refine lv_lload C.1 C.2.1 dX1_euclid_86 (lv_at hl 6 rfl) ?_
          exact z_lret C hr hk dX1_euclid_88 (congrArg (fun z : Nat => Value.long (lN z)) (by rw [← i17_6, h27, euF_0]))
        · refine lv_lload C.1 C.2.1 dX1_euclid_31 (lv_at hl 4 rfl) ?_
          refine lv_lload C.1 C.2.1 dX1_euclid_33 (lv_at hl 5 rfl) ?_
          refine z_call C (c_X1_quotientOf l (x8) (x10) (by first | assumption | omega | rfl | exact decide_eq_false (by omega) | exact decide_eq_true (by assumption) | exact decide_eq_true (by omega) | exact one_shl33 (by omega) | exact pm_lt _ _ | exact rm_lt (by first | assumption | exact pm_lt _ _) | exact Nat.lt_of_le_of_lt (Nat.shiftRight_le _ _) (by assumption) | exact Nat.lt_of_le_of_lt Nat.and_le_right (by omega)) (by first | assumption | omega | rfl | exact decide_eq_false (by omega) | exact decide_eq_true (by assumption) | exact decide_eq_true (by omega) | exact one_shl33 (by omega) | exact pm_lt _ _ | exact rm_lt (by first | assumption | exact pm_lt _ _) | exact Nat.lt_of_le_of_lt (Nat.shiftRight_le _ _) (by assumption) | exact Nat.lt_of_le_of_lt Nat.and_le_right (by omega))) ml_X1_25 ⟨by decide, by decide⟩ ⟨Nat.le_refl _, Nat.le_refl _⟩ hl (Nat.le_of_ble_eq_true rfl) rfl dX1_euclid_35 ?_
          refine lv_lstore (lv' := [(17, .long (lN (qo (x8) (x10)))), (0, .long (lN (a))), (2, .long (lN (b))), (4, .long (lN (x))), (6, .long (lN (y))), (8, .long (lN (x8))), (10, .long (lN (x10))), (12, .long (lN (x12))), (14, .long (lN (x14))), (16, .int (iZ (x16)))]) C.1 C.2.1 dX1_euclid_38 hl (by decide) rfl (fun ls hl => ?_)
          refine lv_lload C.1 C.2.1 dX1_euclid_40 (lv_at hl 5 rfl) ?_
          refine lv_lload C.1 C.2.1 dX1_euclid_42 (lv_at hl 0 rfl) ?_
          refine lv_lload C.1 C.2.1 dX1_euclid_44 (lv_at hl 6 rfl) ?_
          refine z_call C (c_X1_product l (qo (x8) (x10)) (x10) (by first | assumption | omega | rfl | exact decide_eq_false (by omega) | exact decide_eq_true (by assumption) | exact decide_eq_true (by omega) | exact one_shl33 (by omega) | exact pm_lt _ _ | exact rm_lt (by first | assumption | exact pm_lt _ _) | exact Nat.lt_of_le_of_lt (Nat.shiftRight_le _ _) (by assumption) | exact Nat.lt_of_le_of_lt Nat.and_le_right (by omega))) ml_X1_29 ⟨by decide, by decide⟩ ⟨Nat.le_refl _, Nat.le_refl _⟩ hl (Nat.le_of_ble_eq_true rfl) rfl dX1_euclid_46 ?_
          refine z_lxor C dX1_euclid_49 ?_
          refine lv_lstore (lv' := [(19, .long (lN ((x8) ^^^ (pm (qo (x8) (x10)) (x10))))), (17, .long (lN (qo (x8) (x10)))), (0, .long (lN (a))), (2, .long (lN (b))), (4, .long (lN (x))), (6, .long (lN (y))), (8, .long (lN (x8))), (10, .long (lN (x10))), (12, .long (lN (x12))), (14, .long (lN (x14))), (16, .int (iZ (x16)))]) C.1 C.2.1 dX1_euclid_50 hl (by decide) rfl (fun ls hl => ?_)
          refine lv_lload C.1 C.2.1 dX1_euclid_52 (lv_at hl 8 rfl) ?_
          refine lv_lload C.1 C.2.1 dX1_euclid_54 (lv_at hl 1 rfl) ?_
          refine lv_lload C.1 C.2.1 dX1_euclid_56 (lv_at hl 9 rfl) ?_
          refine z_call C (c_X1_product l (qo (x8) (x10)) (x14) (by first | assumption | omega | rfl | exact decide_eq_false (by omega) | exact decide_eq_true (by assumption) | exact decide_eq_true (by omega) | exact one_shl33 (by omega) | exact pm_lt _ _ | exact rm_lt (by first | assumption | exact pm_lt _ _) | exact Nat.lt_of_le_of_lt (Nat.shiftRight_le _ _) (by assumption) | exact Nat.lt_of_le_of_lt Nat.and_le_right (by omega))) ml_X1_29 ⟨by decide, by decide⟩ ⟨Nat.le_refl _, Nat.le_refl _⟩ hl (Nat.le_of_ble_eq_true rfl) rfl dX1_euclid_58 ?_
          refine z_lxor C dX1_euclid_61 ?_
          refine lv_lstore (lv' := [(21, .long (lN ((x12) ^^^ (pm (qo (x8) (x10)) (x14))))), (19, .long (lN ((x8) ^^^ (pm (qo (x8) (x10)) (x10))))), (17, .long (lN (qo (x8) (x10)))), (0, .long (lN (a))), (2, .long (lN (b))), (4, .long (lN (x))), (6, .long (lN (y))), (8, .long (lN (x8))), (10, .long (lN (x10))), (12, .long (lN (x12))), (14, .long (lN (x14))), (16, .int (iZ (x16)))]) C.1 C.2.1 dX1_euclid_62 hl (by decide) rfl (fun ls hl => ?_)
          refine lv_lload C.1 C.2.1 dX1_euclid_64 (lv_at hl 8 rfl) ?_
          refine lv_lstore (lv' := [(8, .long (lN (x10))), (21, .long (lN ((x12) ^^^ (pm (qo (x8) (x10)) (x14))))), (19, .long (lN ((x8) ^^^ (pm (qo (x8) (x10)) (x10))))), (17, .long (lN (qo (x8) (x10)))), (0, .long (lN (a))), (2, .long (lN (b))), (4, .long (lN (x))), (6, .long (lN (y))), (10, .long (lN (x10))), (12, .long (lN (x12))), (14, .long (lN (x14))), (16, .int (iZ (x16)))]) C.1 C.2.1 dX1_euclid_66 hl (by decide) rfl (fun ls hl => ?_)
          refine lv_lload C.1 C.2.1 dX1_euclid_68 (lv_at hl 2 rfl) ?_
          refine lv_lstore (lv' := [(10, .long (lN ((x8) ^^^ (pm (qo (x8) (x10)) (x10))))), (8, .long (lN (x10))), (21, .long (lN ((x12) ^^^ (pm (qo (x8) (x10)) (x14))))), (19, .long (lN ((x8) ^^^ (pm (qo (x8) (x10)) (x10))))), (17, .long (lN (qo (x8) (x10)))), (0, .long (lN (a))), (2, .long (lN (b))), (4, .long (lN (x))), (6, .long (lN (y))), (12, .long (lN (x12))), (14, .long (lN (x14))), (16, .int (iZ (x16)))]) C.1 C.2.1 dX1_euclid_70 hl (by decide) rfl (fun ls hl => ?_)
          refine lv_lload C.1 C.2.1 dX1_euclid_72 (lv_at hl 10 rfl) ?_
          refine lv_lstore (lv' := [(12, .long (lN (x14))), (10, .long (lN ((x8) ^^^ (pm (qo (x8) (x10)) (x10))))), (8, .long (lN (x10))), (21, .long (lN ((x12) ^^^ (pm (qo (x8) (x10)) (x14))))), (19, .long (lN ((x8) ^^^ (pm (qo (x8) (x10)) (x10))))), (17, .long (lN (qo (x8) (x10)))), (0, .long (lN (a))), (2, .long (lN (b))), (4, .long (lN (x))), (6, .long (lN (y))), (14, .long (lN (x14))), (16, .int (iZ (x16)))]) C.1 C.2.1 dX1_euclid_74 hl (by decide) rfl (fun ls hl => ?_)
          refine lv_lload C.1 C.2.1 dX1_euclid_76 (lv_at hl 3 rfl) ?_
          refine lv_lstore (lv' := [(14, .long (lN ((x12) ^^^ (pm (qo (x8) (x10)) (x14))))), (12, .long (lN (x14))), (10, .long (lN ((x8) ^^^ (pm (qo (x8) (x10)) (x10))))), (8, .long (lN (x10))), (21, .long (lN ((x12) ^^^ (pm (qo (x8) (x10)) (x14))))), (19, .long (lN ((x8) ^^^ (pm (qo (x8) (x10)) (x10))))), (17, .long (lN (qo (x8) (x10)))), (0, .long (lN (a))), (2, .long (lN (b))), (4, .long (lN (x))), (6, .long (lN (y))), (16, .int (iZ (x16)))]) C.1 C.2.1 dX1_euclid_78 hl (by decide) rfl (fun ls hl => ?_)
          refine z_iinc (j := 11) (lv' := [(16, .int (iZ (x16 + 1))), (14, .long (lN ((x12) ^^^ (pm (qo (x8) (x10)) (x14))))), (12, .long (lN (x14))), (10, .long (lN ((x8) ^^^ (pm (qo (x8) (x10)) (x10))))), (8, .long (lN (x10))), (21, .long (lN ((x12) ^^^ (pm (qo (x8) (x10)) (x14))))), (19, .long (lN ((x8) ^^^ (pm (qo (x8) (x10)) (x10))))), (17, .long (lN (qo (x8) (x10)))), (0, .long (lN (a))), (2, .long (lN (b))), (4, .long (lN (x))), (6, .long (lN (y)))]) C dX1_euclid_80 hl rfl (by decide) rfl (fun ls hl => ?_)
          refine lv_goto (tgt := 17) C.1 C.2.1 dX1_euclid_83 (by decide) ?_
          obtain ⟨f, rfl⟩ : ∃ g, f = g + 1 := ⟨f - 1, by omega⟩
          rw [euF_s h27] at i17_6
          exact ih17 (f) _ _ _ _ _ _ (by omega) (by omega) (by omega) (by exact i17_3) (by exact rm_lt i17_2) (by exact i17_5) (by exact xor64 i17_4 (pm_lt _ _)) (by exact i17_6) (lv_sub hl [8, 9, 10, 11, 4, 3, 2, 1, 0] rfl)
  exact L17 _ (65) _ _ _ _ _ _ (by exact Nat.lt_succ_self _) (by rfl) (by decide) (by exact ha) (by exact hb) (by exact hx) (by exact hy) (by rfl) (lv_sub hl [5, 6, 7, 8, 4, 3, 2, 1, 0] rfl)

set_option maxHeartbeats 4000000 in
set_option maxRecDepth 100000 in
theorem c_X1_gcdOf (l : Launch) (a : Nat) (b : Nat) (ha : a < 18446744073709551616) (hb : b < 18446744073709551616) : zP l yX1_gcdOf 3 117 [.long (lN (a)), .long (lN (b))] (.long (lN (eu a b a b))) := by
  refine zP.intro (lo := 94) (nA := 2) (own := RX1) zs_X1_gcdOf (by decide) rfl rfl (by decide +kernel) rfl (Nat.le_of_ble_eq_true rfl) ?_
  intro p e s m below meth c ls C hr hk hl
  have hl : lv_has ls 4 [(0, .long (lN (a))), (2, .long (lN (b)))] := hl
  refine lv_lload_n C.1 C.2.1 dX1_gcdOf_0 rfl (lv_at hl 0 rfl) ?_
  refine lv_lload_n C.1 C.2.1 dX1_gcdOf_1 rfl (lv_at hl 1 rfl) ?_
  refine lv_lload_n C.1 C.2.1 dX1_gcdOf_2 rfl (lv_at hl 0 rfl) ?_
  refine lv_lload_n C.1 C.2.1 dX1_gcdOf_3 rfl (lv_at hl 1 rfl) ?_
  refine z_call C (c_X1_euclid l (a) (b) (a) (b) (by first | assumption | omega | rfl | exact decide_eq_false (by omega) | exact decide_eq_true (by assumption) | exact decide_eq_true (by omega) | exact one_shl33 (by omega) | exact pm_lt _ _ | exact rm_lt (by first | assumption | exact pm_lt _ _) | exact Nat.lt_of_le_of_lt (Nat.shiftRight_le _ _) (by assumption) | exact Nat.lt_of_le_of_lt Nat.and_le_right (by omega)) (by first | assumption | omega | rfl | exact decide_eq_false (by omega) | exact decide_eq_true (by assumption) | exact decide_eq_true (by omega) | exact one_shl33 (by omega) | exact pm_lt _ _ | exact rm_lt (by first | assumption | exact pm_lt _ _) | exact Nat.lt_of_le_of_lt (Nat.shiftRight_le _ _) (by assumption) | exact Nat.lt_of_le_of_lt Nat.and_le_right (by omega)) (by first | assumption | omega | rfl | exact decide_eq_false (by omega) | exact decide_eq_true (by assumption) | exact decide_eq_true (by omega) | exact one_shl33 (by omega) | exact pm_lt _ _ | exact rm_lt (by first | assumption | exact pm_lt _ _) | exact Nat.lt_of_le_of_lt (Nat.shiftRight_le _ _) (by assumption) | exact Nat.lt_of_le_of_lt Nat.and_le_right (by omega)) (by first | assumption | omega | rfl | exact decide_eq_false (by omega) | exact decide_eq_true (by assumption) | exact decide_eq_true (by omega) | exact one_shl33 (by omega) | exact pm_lt _ _ | exact rm_lt (by first | assumption | exact pm_lt _ _) | exact Nat.lt_of_le_of_lt (Nat.shiftRight_le _ _) (by assumption) | exact Nat.lt_of_le_of_lt Nat.and_le_right (by omega))) ml_X1_35 ⟨by decide, by decide⟩ ⟨Nat.le_refl _, Nat.le_refl _⟩ hl (Nat.le_of_ble_eq_true rfl) rfl dX1_gcdOf_4 ?_
  have q4_0 := eu_ltE (a) (b) (a) (b) (by first | assumption | omega) (by first | assumption | omega)
  exact z_lret C hr hk dX1_gcdOf_7 (congrArg (fun z : Nat => Value.long (lN z)) (by rfl))

set_option maxHeartbeats 4000000 in
set_option maxRecDepth 100000 in
theorem c_X1_firstBezout (l : Launch) (a : Nat) (b : Nat) (ha : a < 18446744073709551616) (hb : b < 18446744073709551616) : zP l yX1_firstBezout 3 117 [.long (lN (a)), .long (lN (b))] (.long (lN (eu a b 1 0))) := by
  refine zP.intro (lo := 94) (nA := 2) (own := RX1) zs_X1_firstBezout (by decide) rfl rfl (by decide +kernel) rfl (Nat.le_of_ble_eq_true rfl) ?_
  intro p e s m below meth c ls C hr hk hl
  have hl : lv_has ls 4 [(0, .long (lN (a))), (2, .long (lN (b)))] := hl
  refine lv_lload_n C.1 C.2.1 dX1_firstBezout_0 rfl (lv_at hl 0 rfl) ?_
  refine lv_lload_n C.1 C.2.1 dX1_firstBezout_1 rfl (lv_at hl 1 rfl) ?_
  refine z_lconst (k0 := 1) C dX1_firstBezout_2 rfl ?_
  refine z_lconst (k0 := 0) C dX1_firstBezout_3 rfl ?_
  refine z_call C (c_X1_euclid l (a) (b) (1) (0) (by first | assumption | omega | rfl | exact decide_eq_false (by omega) | exact decide_eq_true (by assumption) | exact decide_eq_true (by omega) | exact one_shl33 (by omega) | exact pm_lt _ _ | exact rm_lt (by first | assumption | exact pm_lt _ _) | exact Nat.lt_of_le_of_lt (Nat.shiftRight_le _ _) (by assumption) | exact Nat.lt_of_le_of_lt Nat.and_le_right (by omega)) (by first | assumption | omega | rfl | exact decide_eq_false (by omega) | exact decide_eq_true (by assumption) | exact decide_eq_true (by omega) | exact one_shl33 (by omega) | exact pm_lt _ _ | exact rm_lt (by first | assumption | exact pm_lt _ _) | exact Nat.lt_of_le_of_lt (Nat.shiftRight_le _ _) (by assumption) | exact Nat.lt_of_le_of_lt Nat.and_le_right (by omega)) (by first | assumption | omega | rfl | exact decide_eq_false (by omega) | exact decide_eq_true (by assumption) | exact decide_eq_true (by omega) | exact one_shl33 (by omega) | exact pm_lt _ _ | exact rm_lt (by first | assumption | exact pm_lt _ _) | exact Nat.lt_of_le_of_lt (Nat.shiftRight_le _ _) (by assumption) | exact Nat.lt_of_le_of_lt Nat.and_le_right (by omega)) (by first | assumption | omega | rfl | exact decide_eq_false (by omega) | exact decide_eq_true (by assumption) | exact decide_eq_true (by omega) | exact one_shl33 (by omega) | exact pm_lt _ _ | exact rm_lt (by first | assumption | exact pm_lt _ _) | exact Nat.lt_of_le_of_lt (Nat.shiftRight_le _ _) (by assumption) | exact Nat.lt_of_le_of_lt Nat.and_le_right (by omega))) ml_X1_35 ⟨by decide, by decide⟩ ⟨Nat.le_refl _, Nat.le_refl _⟩ hl (Nat.le_of_ble_eq_true rfl) rfl dX1_firstBezout_4 ?_
  have q4_0 := eu_ltE (a) (b) (1) (0) (by first | assumption | omega) (by first | assumption | omega)
  exact z_lret C hr hk dX1_firstBezout_7 (congrArg (fun z : Nat => Value.long (lN z)) (by rfl))

set_option maxHeartbeats 4000000 in
set_option maxRecDepth 100000 in
theorem c_X1_secondBezout (l : Launch) (a : Nat) (b : Nat) (ha : a < 18446744073709551616) (hb : b < 18446744073709551616) : zP l yX1_secondBezout 3 117 [.long (lN (a)), .long (lN (b))] (.long (lN (eu a b 0 1))) := by
  refine zP.intro (lo := 94) (nA := 2) (own := RX1) zs_X1_secondBezout (by decide) rfl rfl (by decide +kernel) rfl (Nat.le_of_ble_eq_true rfl) ?_
  intro p e s m below meth c ls C hr hk hl
  have hl : lv_has ls 4 [(0, .long (lN (a))), (2, .long (lN (b)))] := hl
  refine lv_lload_n C.1 C.2.1 dX1_secondBezout_0 rfl (lv_at hl 0 rfl) ?_
  refine lv_lload_n C.1 C.2.1 dX1_secondBezout_1 rfl (lv_at hl 1 rfl) ?_
  refine z_lconst (k0 := 0) C dX1_secondBezout_2 rfl ?_
  refine z_lconst (k0 := 1) C dX1_secondBezout_3 rfl ?_
  refine z_call C (c_X1_euclid l (a) (b) (0) (1) (by first | assumption | omega | rfl | exact decide_eq_false (by omega) | exact decide_eq_true (by assumption) | exact decide_eq_true (by omega) | exact one_shl33 (by omega) | exact pm_lt _ _ | exact rm_lt (by first | assumption | exact pm_lt _ _) | exact Nat.lt_of_le_of_lt (Nat.shiftRight_le _ _) (by assumption) | exact Nat.lt_of_le_of_lt Nat.and_le_right (by omega)) (by first | assumption | omega | rfl | exact decide_eq_false (by omega) | exact decide_eq_true (by assumption) | exact decide_eq_true (by omega) | exact one_shl33 (by omega) | exact pm_lt _ _ | exact rm_lt (by first | assumption | exact pm_lt _ _) | exact Nat.lt_of_le_of_lt (Nat.shiftRight_le _ _) (by assumption) | exact Nat.lt_of_le_of_lt Nat.and_le_right (by omega)) (by first | assumption | omega | rfl | exact decide_eq_false (by omega) | exact decide_eq_true (by assumption) | exact decide_eq_true (by omega) | exact one_shl33 (by omega) | exact pm_lt _ _ | exact rm_lt (by first | assumption | exact pm_lt _ _) | exact Nat.lt_of_le_of_lt (Nat.shiftRight_le _ _) (by assumption) | exact Nat.lt_of_le_of_lt Nat.and_le_right (by omega)) (by first | assumption | omega | rfl | exact decide_eq_false (by omega) | exact decide_eq_true (by assumption) | exact decide_eq_true (by omega) | exact one_shl33 (by omega) | exact pm_lt _ _ | exact rm_lt (by first | assumption | exact pm_lt _ _) | exact Nat.lt_of_le_of_lt (Nat.shiftRight_le _ _) (by assumption) | exact Nat.lt_of_le_of_lt Nat.and_le_right (by omega))) ml_X1_35 ⟨by decide, by decide⟩ ⟨Nat.le_refl _, Nat.le_refl _⟩ hl (Nat.le_of_ble_eq_true rfl) rfl dX1_secondBezout_4 ?_
  have q4_0 := eu_ltE (a) (b) (0) (1) (by first | assumption | omega) (by first | assumption | omega)
  exact z_lret C hr hk dX1_secondBezout_7 (congrArg (fun z : Nat => Value.long (lN z)) (by rfl))

set_option maxHeartbeats 4000000 in
set_option maxRecDepth 100000 in
theorem c_X1_derived (l : Launch) (n : Nat) (hn : n < 18446744073709551616) : zP l yX1_derived 0 21 [.long (lN (n))] (.long (lN (dv n))) := by
  refine zP.intro (lo := 0) (nA := 1) (own := RX1) zs_X1_derived (by decide) rfl rfl (by decide +kernel) rfl (Nat.le_of_ble_eq_true rfl) ?_
  intro p e s m below meth c ls C hr hk hl
  have hl : lv_has ls 2 [(0, .long (lN (n)))] := hl
  refine lv_lload_n C.1 C.2.1 dX1_derived_0 rfl (lv_at hl 0 rfl) ?_
  refine z_iconst C dX1_derived_1 ?_
  refine z_lushr C (1) (by first | assumption | omega | rfl | exact decide_eq_false (by omega) | exact decide_eq_true (by assumption) | exact decide_eq_true (by omega) | exact one_shl33 (by omega) | exact pm_lt _ _ | exact rm_lt (by first | assumption | exact pm_lt _ _) | exact Nat.lt_of_le_of_lt (Nat.shiftRight_le _ _) (by assumption) | exact Nat.lt_of_le_of_lt Nat.and_le_right (by omega)) (by omega) (by omega) dX1_derived_2 ?_
  refine z_ldc2 C 6148914691236517205 (T0_of kl_X1_39 rfl) (by decide) dX1_derived_3 ?_
  refine z_land C dX1_derived_6 ?_
  exact z_lret C hr hk dX1_derived_7 (congrArg (fun z : Nat => Value.long (lN z)) (by rfl))

set_option maxHeartbeats 4000000 in
set_option maxRecDepth 100000 in
theorem c_X1_evenPlacesHalved (l : Launch) (n : Nat) (hn : n < 18446744073709551616) : zP l yX1_evenPlacesHalved 1 46 [.long (lN (n))] (.long (lN (eh n))) := by
  refine zP.intro (lo := 22) (nA := 1) (own := RX1) zs_X1_evenPlacesHalved (by decide) rfl rfl (by decide +kernel) rfl (Nat.le_of_ble_eq_true rfl) ?_
  intro p e s m below meth c ls C hr hk hl
  have hl : lv_has ls 5 [(0, .long (lN (n)))] := hl
  refine z_lconst (k0 := 0) C dX1_evenPlacesHalved_0 rfl ?_
  refine lv_lstore_n (lv' := [(2, .long (lN (0))), (0, .long (lN (n)))]) C.1 C.2.1 dX1_evenPlacesHalved_1 rfl hl (by decide) rfl (fun ls hl => ?_)
  refine z_iconst C dX1_evenPlacesHalved_2 ?_
  refine lv_istore (lv' := [(4, .int (iZ (0))), (2, .long (lN (0))), (0, .long (lN (n)))]) C.1 C.2.1 dX1_evenPlacesHalved_3 hl (by decide) rfl (fun ls hl => ?_)
  have L5 : ∀ (j : Nat) (k : Nat) (x2 : Nat) (x4 : Int) (ls : Array Slot), 32 - k < j → (x4 = 2 * (k : Int)) → (k ≤ 32) → (x2 = ehF n k) → lv_has ls 5 [(0, .long (lN (n))), (2, .long (lN (x2))), (4, .int (iZ (x4)))] → W p l e { frames := 1, cells := 0, slots := 0, locals := 22 } s m ([.long (lN (n))] : List Value).toArray below meth c s.heap [] 0 0 (zQ below [.long (lN (n))] s (.long (lN (eh n)))) (F0 m 5 ls []) := by
    intro j
    induction j with
    | zero => intro k x2 x4 ls hmu; exact absurd hmu (Nat.not_lt_zero _)
    | succ j ih5 =>
      intro k x2 x4 ls hmu i5_0 i5_1 i5_2 hl
      refine lv_iload C.1 C.2.1 dX1_evenPlacesHalved_5 (lv_at hl 2 rfl) ?_
      refine z_bipush C dX1_evenPlacesHalved_7 (by decide) ?_
      refine z_icmp_ge (tgt := 37) C (by omega) (by omega) dX1_evenPlacesHalved_9 (by decide) (fun h9 => ?_) (fun h9 => ?_)
      · refine lv_lload_n C.1 C.2.1 dX1_evenPlacesHalved_37 rfl (lv_at hl 1 rfl) ?_
        exact z_lret C hr hk dX1_evenPlacesHalved_38 (congrArg (fun z : Nat => Value.long (lN z)) (by rw [i5_2, show k = 32 by omega]; rfl))
      · refine lv_lload_n C.1 C.2.1 dX1_evenPlacesHalved_12 rfl (lv_at hl 0 rfl) ?_
        refine lv_iload C.1 C.2.1 dX1_evenPlacesHalved_13 (lv_at hl 2 rfl) ?_
        refine z_call C (c_X1_hasOne l (n) (x4) (by first | assumption | omega | rfl | exact decide_eq_false (by omega) | exact decide_eq_true (by assumption) | exact decide_eq_true (by omega) | exact one_shl33 (by omega) | exact pm_lt _ _ | exact rm_lt (by first | assumption | exact pm_lt _ _) | exact Nat.lt_of_le_of_lt (Nat.shiftRight_le _ _) (by assumption) | exact Nat.lt_of_le_of_lt Nat.and_le_right (by omega)) (by first | assumption | omega | rfl | exact decide_eq_false (by omega) | exact decide_eq_true (by assumption) | exact decide_eq_true (by omega) | exact one_shl33 (by omega) | exact pm_lt _ _ | exact rm_lt (by first | assumption | exact pm_lt _ _) | exact Nat.lt_of_le_of_lt (Nat.shiftRight_le _ _) (by assumption) | exact Nat.lt_of_le_of_lt Nat.and_le_right (by omega))) ml_X1_11 ⟨by decide, by decide⟩ ⟨Nat.le_refl _, Nat.le_refl _⟩ hl (Nat.le_of_ble_eq_true rfl) rfl dX1_evenPlacesHalved_15 ?_
        refine z_ifB_eq (tgt := 31) C dX1_evenPlacesHalved_18 (by decide) (fun h18 => ?_) (fun h18 => ?_)
        · refine z_iinc (j := 2) (lv' := [(4, .int (iZ (x4 + 2))), (0, .long (lN (n))), (2, .long (lN (x2)))]) C dX1_evenPlacesHalved_31 hl rfl (by decide) rfl (fun ls hl => ?_)
          refine lv_goto (tgt := 5) C.1 C.2.1 dX1_evenPlacesHalved_34 (by decide) ?_
          rw [tb_k (k := 2 * k) (by omega) (by omega)] at h18
          exact ih5 (k + 1) _ _ _ (by omega) (by omega) (by omega) (by rw [ehF_f h18]; exact i5_2) (lv_sub hl [1, 2, 0] rfl)
        · refine lv_lload_n C.1 C.2.1 dX1_evenPlacesHalved_21 rfl (lv_at hl 1 rfl) ?_
          refine lv_iload C.1 C.2.1 dX1_evenPlacesHalved_22 (lv_at hl 2 rfl) ?_
          refine z_iconst C dX1_evenPlacesHalved_24 ?_
          refine z_idiv C (by omega) (by omega) dX1_evenPlacesHalved_25 ?_
          refine z_call C (c_X1_single l ((x4) / (2)) (by first | assumption | omega | rfl | exact decide_eq_false (by omega) | exact decide_eq_true (by assumption) | exact decide_eq_true (by omega) | exact one_shl33 (by omega) | exact pm_lt _ _ | exact rm_lt (by first | assumption | exact pm_lt _ _) | exact Nat.lt_of_le_of_lt (Nat.shiftRight_le _ _) (by assumption) | exact Nat.lt_of_le_of_lt Nat.and_le_right (by omega))) ml_X1_21 ⟨by decide, by decide⟩ ⟨Nat.le_refl _, Nat.le_refl _⟩ hl (Nat.le_of_ble_eq_true rfl) rfl dX1_evenPlacesHalved_26 ?_
          refine z_lor C dX1_evenPlacesHalved_29 ?_
          refine lv_lstore_n (lv' := [(2, .long (lN ((x2) ||| (1 <<< ((x4) / (2)).toNat)))), (0, .long (lN (n))), (4, .int (iZ (x4)))]) C.1 C.2.1 dX1_evenPlacesHalved_30 rfl hl (by decide) rfl (fun ls hl => ?_)
          refine z_iinc (j := 2) (lv' := [(4, .int (iZ (x4 + 2))), (2, .long (lN ((x2) ||| (1 <<< ((x4) / (2)).toNat)))), (0, .long (lN (n)))]) C dX1_evenPlacesHalved_31 hl rfl (by decide) rfl (fun ls hl => ?_)
          refine lv_goto (tgt := 5) C.1 C.2.1 dX1_evenPlacesHalved_34 (by decide) ?_
          rw [tb_k (k := 2 * k) (by omega) (by omega)] at h18
          have ek : (x4 / 2).toNat = k := by omega
          exact ih5 (k + 1) _ _ _ (by omega) (by omega) (by omega) (by rw [ehF_t h18, ek, i5_2]) (lv_sub hl [2, 1, 0] rfl)
  exact L5 _ (0) _ _ _ (by exact Nat.lt_succ_self _) (by rfl) (by omega) (by rfl) (lv_sub hl [2, 1, 0] rfl)

set_option maxHeartbeats 4000000 in
set_option maxRecDepth 100000 in
theorem c_X1_turned (l : Launch) (n : Nat) (hn : n < 18446744073709551616) : zP l yX1_turned 1 48 [.long (lN (n))] (.long (lN (tu n))) := by
  refine zP.intro (lo := 23) (nA := 1) (own := RX1) zs_X1_turned (by decide) rfl rfl (by decide +kernel) rfl (Nat.le_of_ble_eq_true rfl) ?_
  intro p e s m below meth c ls C hr hk hl
  have hl : lv_has ls 6 [(0, .long (lN (n)))] := hl
  refine lv_lload_n C.1 C.2.1 dX1_turned_0 rfl (lv_at hl 0 rfl) ?_
  refine z_call C (c_X1_topPlace l (n) (by first | assumption | omega | rfl | exact decide_eq_false (by omega) | exact decide_eq_true (by assumption) | exact decide_eq_true (by omega) | exact one_shl33 (by omega) | exact pm_lt _ _ | exact rm_lt (by first | assumption | exact pm_lt _ _) | exact Nat.lt_of_le_of_lt (Nat.shiftRight_le _ _) (by assumption) | exact Nat.lt_of_le_of_lt Nat.and_le_right (by omega))) ml_X1_17 ⟨by decide, by decide⟩ ⟨Nat.le_refl _, Nat.le_refl _⟩ hl (Nat.le_of_ble_eq_true rfl) rfl dX1_turned_1 ?_
  have q1_0 := tp_rngE (n) (by first | assumption | omega)
  refine lv_istore_n (lv' := [(2, .int (iZ (tp (n)))), (0, .long (lN (n)))]) C.1 C.2.1 dX1_turned_4 rfl hl (by decide) rfl (fun ls hl => ?_)
  refine z_lconst (k0 := 0) C dX1_turned_5 rfl ?_
  refine lv_lstore_n (lv' := [(3, .long (lN (0))), (2, .int (iZ (tp (n)))), (0, .long (lN (n)))]) C.1 C.2.1 dX1_turned_6 rfl hl (by decide) rfl (fun ls hl => ?_)
  refine z_iconst C dX1_turned_7 ?_
  refine lv_istore (lv' := [(5, .int (iZ (0))), (3, .long (lN (0))), (2, .int (iZ (tp (n)))), (0, .long (lN (n)))]) C.1 C.2.1 dX1_turned_8 hl (by decide) rfl (fun ls hl => ?_)
  have L10 : ∀ (j : Nat) (k : Nat) (x3 : Nat) (x5 : Int) (ls : Array Slot), 65 - k < j → (x5 = (k : Int)) → ((k : Int) ≤ tp n + 1) → (x3 = tuF n (tp n) k) → lv_has ls 6 [(0, .long (lN (n))), (2, .int (iZ (tp (n)))), (3, .long (lN (x3))), (5, .int (iZ (x5)))] → W p l e { frames := 1, cells := 0, slots := 0, locals := 23 } s m ([.long (lN (n))] : List Value).toArray below meth c s.heap [] 0 0 (zQ below [.long (lN (n))] s (.long (lN (tu n)))) (F0 m 10 ls []) := by
    intro j
    induction j with
    | zero => intro k x3 x5 ls hmu; exact absurd hmu (Nat.not_lt_zero _)
    | succ j ih10 =>
      intro k x3 x5 ls hmu i10_0 i10_1 i10_2 hl
      have hr9 := tp_rng hn
      refine lv_iload C.1 C.2.1 dX1_turned_10 (lv_at hl 3 rfl) ?_
      refine lv_iload_n C.1 C.2.1 dX1_turned_12 rfl (lv_at hl 1 rfl) ?_
      refine z_icmp_gt (tgt := 41) C (by omega) (by omega) dX1_turned_13 (by decide) (fun h13 => ?_) (fun h13 => ?_)
      · refine lv_lload_n C.1 C.2.1 dX1_turned_41 rfl (lv_at hl 2 rfl) ?_
        exact z_lret C hr hk dX1_turned_42 (congrArg (fun z : Nat => Value.long (lN z)) (by rw [i10_2, tu, show k = (tp n + 1).toNat by omega]))
      · refine lv_lload_n C.1 C.2.1 dX1_turned_16 rfl (lv_at hl 0 rfl) ?_
        refine lv_iload C.1 C.2.1 dX1_turned_17 (lv_at hl 3 rfl) ?_
        refine z_call C (c_X1_hasOne l (n) (x5) (by first | assumption | omega | rfl | exact decide_eq_false (by omega) | exact decide_eq_true (by assumption) | exact decide_eq_true (by omega) | exact one_shl33 (by omega) | exact pm_lt _ _ | exact rm_lt (by first | assumption | exact pm_lt _ _) | exact Nat.lt_of_le_of_lt (Nat.shiftRight_le _ _) (by assumption) | exact Nat.lt_of_le_of_lt Nat.and_le_right (by omega)) (by first | assumption | omega | rfl | exact decide_eq_false (by omega) | exact decide_eq_true (by assumption) | exact decide_eq_true (by omega) | exact one_shl33 (by omega) | exact pm_lt _ _ | exact rm_lt (by first | assumption | exact pm_lt _ _) | exact Nat.lt_of_le_of_lt (Nat.shiftRight_le _ _) (by assumption) | exact Nat.lt_of_le_of_lt Nat.and_le_right (by omega))) ml_X1_11 ⟨by decide, by decide⟩ ⟨Nat.le_refl _, Nat.le_refl _⟩ hl (Nat.le_of_ble_eq_true rfl) rfl dX1_turned_19 ?_
        refine z_ifB_eq (tgt := 35) C dX1_turned_22 (by decide) (fun h22 => ?_) (fun h22 => ?_)
        · refine z_iinc (j := 3) (lv' := [(5, .int (iZ (x5 + 1))), (0, .long (lN (n))), (2, .int (iZ (tp (n)))), (3, .long (lN (x3)))]) C dX1_turned_35 hl rfl (by decide) rfl (fun ls hl => ?_)
          refine lv_goto (tgt := 10) C.1 C.2.1 dX1_turned_38 (by decide) ?_
          rw [tb_k i10_0 (by omega)] at h22
          exact ih10 (k + 1) _ _ _ (by omega) (by omega) (by omega) (by rw [tuF_f h22]; exact i10_2) (lv_sub hl [1, 2, 3, 0] rfl)
        · refine lv_lload_n C.1 C.2.1 dX1_turned_25 rfl (lv_at hl 2 rfl) ?_
          refine lv_iload_n C.1 C.2.1 dX1_turned_26 rfl (lv_at hl 1 rfl) ?_
          refine lv_iload C.1 C.2.1 dX1_turned_27 (lv_at hl 3 rfl) ?_
          refine z_isub C dX1_turned_29 ?_
          refine z_call C (c_X1_single l ((tp (n)) - (x5)) (by first | assumption | omega | rfl | exact decide_eq_false (by omega) | exact decide_eq_true (by assumption) | exact decide_eq_true (by omega) | exact one_shl33 (by omega) | exact pm_lt _ _ | exact rm_lt (by first | assumption | exact pm_lt _ _) | exact Nat.lt_of_le_of_lt (Nat.shiftRight_le _ _) (by assumption) | exact Nat.lt_of_le_of_lt Nat.and_le_right (by omega))) ml_X1_21 ⟨by decide, by decide⟩ ⟨Nat.le_refl _, Nat.le_refl _⟩ hl (Nat.le_of_ble_eq_true rfl) rfl dX1_turned_30 ?_
          refine z_lor C dX1_turned_33 ?_
          refine lv_lstore_n (lv' := [(3, .long (lN ((x3) ||| (1 <<< ((tp (n)) - (x5)).toNat)))), (0, .long (lN (n))), (2, .int (iZ (tp (n)))), (5, .int (iZ (x5)))]) C.1 C.2.1 dX1_turned_34 rfl hl (by decide) rfl (fun ls hl => ?_)
          refine z_iinc (j := 3) (lv' := [(5, .int (iZ (x5 + 1))), (3, .long (lN ((x3) ||| (1 <<< ((tp (n)) - (x5)).toNat)))), (0, .long (lN (n))), (2, .int (iZ (tp (n))))]) C dX1_turned_35 hl rfl (by decide) rfl (fun ls hl => ?_)
          refine lv_goto (tgt := 10) C.1 C.2.1 dX1_turned_38 (by decide) ?_
          rw [tb_k i10_0 (by omega)] at h22
          exact ih10 (k + 1) _ _ _ (by omega) (by omega) (by omega) (by rw [tuF_t h22, i10_2, i10_0]) (lv_sub hl [2, 3, 1, 0] rfl)
  have hr9 := tp_rng hn
  exact L10 _ (0) _ _ _ (by exact Nat.lt_succ_self _) (by rfl) (by omega) (by rfl) (lv_sub hl [3, 2, 1, 0] rfl)

set_option maxHeartbeats 4000000 in
set_option maxRecDepth 100000 in
theorem c_X1_moved (l : Launch) (n : Nat) (hn : n < 18446744073709551616) : zP l yX1_moved 1 47 [.long (lN (n))] (.long (lN (mv n))) := by
  refine zP.intro (lo := 23) (nA := 1) (own := RX1) zs_X1_moved (by decide) rfl rfl (by decide +kernel) rfl (Nat.le_of_ble_eq_true rfl) ?_
  intro p e s m below meth c ls C hr hk hl
  have hl : lv_has ls 5 [(0, .long (lN (n)))] := hl
  refine z_lconst (k0 := 0) C dX1_moved_0 rfl ?_
  refine lv_lstore_n (lv' := [(2, .long (lN (0))), (0, .long (lN (n)))]) C.1 C.2.1 dX1_moved_1 rfl hl (by decide) rfl (fun ls hl => ?_)
  refine lv_lload_n C.1 C.2.1 dX1_moved_2 rfl (lv_at hl 1 rfl) ?_
  refine z_call C (c_X1_topPlace l (n) (by first | assumption | omega | rfl | exact decide_eq_false (by omega) | exact decide_eq_true (by assumption) | exact decide_eq_true (by omega) | exact one_shl33 (by omega) | exact pm_lt _ _ | exact rm_lt (by first | assumption | exact pm_lt _ _) | exact Nat.lt_of_le_of_lt (Nat.shiftRight_le _ _) (by assumption) | exact Nat.lt_of_le_of_lt Nat.and_le_right (by omega))) ml_X1_17 ⟨by decide, by decide⟩ ⟨Nat.le_refl _, Nat.le_refl _⟩ hl (Nat.le_of_ble_eq_true rfl) rfl dX1_moved_3 ?_
  have q3_0 := tp_rngE (n) (by first | assumption | omega)
  refine lv_istore (lv' := [(4, .int (iZ (tp (n)))), (2, .long (lN (0))), (0, .long (lN (n)))]) C.1 C.2.1 dX1_moved_6 hl (by decide) rfl (fun ls hl => ?_)
  have L8 : ∀ (j : Nat) (j0 : Nat) (x2 : Nat) (x4 : Int) (ls : Array Slot), j0 < j → (x4 + 1 = (j0 : Int)) → (j0 ≤ 64) → (mvF n j0 x2 % 18446744073709551616 = mv n) → lv_has ls 5 [(0, .long (lN (n))), (2, .long (lN (x2))), (4, .int (iZ (x4)))] → W p l e { frames := 1, cells := 0, slots := 0, locals := 23 } s m ([.long (lN (n))] : List Value).toArray below meth c s.heap [] 0 0 (zQ below [.long (lN (n))] s (.long (lN (mv n)))) (F0 m 8 ls []) := by
    intro j
    induction j with
    | zero => intro j0 x2 x4 ls hmu; exact absurd hmu (Nat.not_lt_zero _)
    | succ j ih8 =>
      intro j0 x2 x4 ls hmu i8_0 i8_1 i8_2 hl
      refine lv_iload C.1 C.2.1 dX1_moved_8 (lv_at hl 2 rfl) ?_
      refine z_if_lt (tgt := 32) C (by omega) dX1_moved_10 (by decide) (fun h10 => ?_) (fun h10 => ?_)
      · refine lv_lload_n C.1 C.2.1 dX1_moved_32 rfl (lv_at hl 1 rfl) ?_
        exact z_lret C hr hk dX1_moved_33 (by rw [← i8_2, lN_mod, show j0 = 0 by omega]; rfl)
      · refine lv_lload_n C.1 C.2.1 dX1_moved_13 rfl (lv_at hl 1 rfl) ?_
        refine z_iconst C dX1_moved_14 ?_
        refine z_lshl C (1) (by omega) (by omega) dX1_moved_15 ?_
        refine lv_lload_n C.1 C.2.1 dX1_moved_16 rfl (lv_at hl 1 rfl) ?_
        refine z_lxor C dX1_moved_17 ?_
        refine lv_lload_n C.1 C.2.1 dX1_moved_18 rfl (lv_at hl 0 rfl) ?_
        refine lv_iload C.1 C.2.1 dX1_moved_19 (lv_at hl 2 rfl) ?_
        refine z_lushr C ((x4).toNat) (by first | assumption | omega | rfl | exact decide_eq_false (by omega) | exact decide_eq_true (by assumption) | exact decide_eq_true (by omega) | exact one_shl33 (by omega) | exact pm_lt _ _ | exact rm_lt (by first | assumption | exact pm_lt _ _) | exact Nat.lt_of_le_of_lt (Nat.shiftRight_le _ _) (by assumption) | exact Nat.lt_of_le_of_lt Nat.and_le_right (by omega)) (by omega) (by omega) dX1_moved_21 ?_
        refine z_lconst (k0 := 1) C dX1_moved_22 rfl ?_
        refine z_land C dX1_moved_23 ?_
        refine z_lxor C dX1_moved_24 ?_
        refine lv_lstore_n (lv' := [(2, .long (lN ((((x2) <<< (1)) ^^^ (x2)) ^^^ (((n) >>> ((x4).toNat)) &&& (1))))), (0, .long (lN (n))), (4, .int (iZ (x4)))]) C.1 C.2.1 dX1_moved_25 rfl hl (by decide) rfl (fun ls hl => ?_)
        refine z_iinc (j := 2) (lv' := [(4, .int (iZ (x4 + (-1)))), (2, .long (lN ((((x2) <<< (1)) ^^^ (x2)) ^^^ (((n) >>> ((x4).toNat)) &&& (1))))), (0, .long (lN (n)))]) C dX1_moved_26 hl rfl (by decide) rfl (fun ls hl => ?_)
        refine lv_goto (tgt := 8) C.1 C.2.1 dX1_moved_29 (by decide) ?_
        obtain ⟨j1, rfl⟩ : ∃ g, j0 = g + 1 := ⟨j0 - 1, by omega⟩
        have ej : x4.toNat = j1 := by omega
        exact ih8 (j1) _ _ _ (by omega) (by omega) (by omega) (by rw [ej]; exact i8_2) (lv_sub hl [2, 1, 0] rfl)
  have hr9 := tp_rng hn
  exact L8 _ ((tp n + 1).toNat) _ _ _ (by exact Nat.lt_succ_self _) (by omega) (by omega) (by rfl) (lv_sub hl [2, 1, 0] rfl)

set_option maxHeartbeats 4000000 in
set_option maxRecDepth 100000 in
theorem c_X1_powerRest (l : Launch) (a : Nat) (t : Int) (m0 : Nat) (ha : a < 18446744073709551616) (ht : 0 ≤ t ∧ t ≤ 255) (hm0 : m0 < 18446744073709551616) : zP l yX1_powerRest 3 104 [.long (lN (a)), .int (iZ (t)), .long (lN (m0))] (.long (lN (pw a t.toNat m0))) := by
  refine zP.intro (lo := 75) (nA := 3) (own := RX1) zs_X1_powerRest (by decide) rfl rfl (by decide +kernel) rfl (Nat.le_of_ble_eq_true rfl) ?_
  intro p e s m below meth c ls C hr hk hl
  have hl : lv_has ls 10 [(0, .long (lN (a))), (2, .int (iZ (t))), (3, .long (lN (m0)))] := hl
  refine lv_lload_n C.1 C.2.1 dX1_powerRest_0 rfl (lv_at hl 0 rfl) ?_
  refine lv_lload_n C.1 C.2.1 dX1_powerRest_1 rfl (lv_at hl 2 rfl) ?_
  refine z_call C (c_X1_restOf l (a) (m0) (by first | assumption | omega | rfl | exact decide_eq_false (by omega) | exact decide_eq_true (by assumption) | exact decide_eq_true (by omega) | exact one_shl33 (by omega) | exact pm_lt _ _ | exact rm_lt (by first | assumption | exact pm_lt _ _) | exact Nat.lt_of_le_of_lt (Nat.shiftRight_le _ _) (by assumption) | exact Nat.lt_of_le_of_lt Nat.and_le_right (by omega)) (by first | assumption | omega | rfl | exact decide_eq_false (by omega) | exact decide_eq_true (by assumption) | exact decide_eq_true (by omega) | exact one_shl33 (by omega) | exact pm_lt _ _ | exact rm_lt (by first | assumption | exact pm_lt _ _) | exact Nat.lt_of_le_of_lt (Nat.shiftRight_le _ _) (by assumption) | exact Nat.lt_of_le_of_lt Nat.and_le_right (by omega))) ml_X1_32 ⟨by decide, by decide⟩ ⟨Nat.le_refl _, Nat.le_refl _⟩ hl (Nat.le_of_ble_eq_true rfl) rfl dX1_powerRest_2 ?_
  refine lv_lstore (lv' := [(5, .long (lN (rm (a) (m0)))), (0, .long (lN (a))), (2, .int (iZ (t))), (3, .long (lN (m0)))]) C.1 C.2.1 dX1_powerRest_5 hl (by decide) rfl (fun ls hl => ?_)
  refine z_lconst (k0 := 1) C dX1_powerRest_7 rfl ?_
  refine lv_lstore (lv' := [(7, .long (lN (1))), (5, .long (lN (rm (a) (m0)))), (0, .long (lN (a))), (2, .int (iZ (t))), (3, .long (lN (m0)))]) C.1 C.2.1 dX1_powerRest_8 hl (by decide) rfl (fun ls hl => ?_)
  refine z_bipush C dX1_powerRest_10 (by decide) ?_
  refine lv_istore (lv' := [(9, .int (iZ (7))), (7, .long (lN (1))), (5, .long (lN (rm (a) (m0)))), (0, .long (lN (a))), (2, .int (iZ (t))), (3, .long (lN (m0)))]) C.1 C.2.1 dX1_powerRest_12 hl (by decide) rfl (fun ls hl => ?_)
  have L14 : ∀ (j : Nat) (j0 : Nat) (x7 : Nat) (x9 : Int) (ls : Array Slot), j0 < j → (x9 + 1 = (j0 : Int)) → (j0 ≤ 8) → (x7 < 18446744073709551616) → (pwF t.toNat (rm a m0) m0 j0 x7 = pw a t.toNat m0) → lv_has ls 10 [(0, .long (lN (a))), (2, .int (iZ (t))), (3, .long (lN (m0))), (5, .long (lN (rm (a) (m0)))), (7, .long (lN (x7))), (9, .int (iZ (x9)))] → W p l e { frames := 3, cells := 0, slots := 0, locals := 75 } s m ([.long (lN (a)), .int (iZ (t)), .long (lN (m0))] : List Value).toArray below meth c s.heap [] 0 0 (zQ below [.long (lN (a)), .int (iZ (t)), .long (lN (m0))] s (.long (lN (pw a t.toNat m0)))) (F0 m 14 ls []) := by
    intro j
    induction j with
    | zero => intro j0 x7 x9 ls hmu; exact absurd hmu (Nat.not_lt_zero _)
    | succ j ih14 =>
      intro j0 x7 x9 ls hmu i14_0 i14_1 i14_2 i14_3 hl
      refine lv_iload C.1 C.2.1 dX1_powerRest_14 (lv_at hl 5 rfl) ?_
      refine z_if_lt (tgt := 61) C (by omega) dX1_powerRest_16 (by decide) (fun h16 => ?_) (fun h16 => ?_)
      · refine lv_lload C.1 C.2.1 dX1_powerRest_61 (lv_at hl 4 rfl) ?_
        exact z_lret C hr hk dX1_powerRest_63 (congrArg (fun z : Nat => Value.long (lN z)) (by rw [← i14_3, show j0 = 0 by omega]; rfl))
      · refine lv_lload C.1 C.2.1 dX1_powerRest_19 (lv_at hl 4 rfl) ?_
        refine lv_lload C.1 C.2.1 dX1_powerRest_21 (lv_at hl 4 rfl) ?_
        refine z_call C (c_X1_product l (x7) (x7) (by first | assumption | omega | rfl | exact decide_eq_false (by omega) | exact decide_eq_true (by assumption) | exact decide_eq_true (by omega) | exact one_shl33 (by omega) | exact pm_lt _ _ | exact rm_lt (by first | assumption | exact pm_lt _ _) | exact Nat.lt_of_le_of_lt (Nat.shiftRight_le _ _) (by assumption) | exact Nat.lt_of_le_of_lt Nat.and_le_right (by omega))) ml_X1_29 ⟨by decide, by decide⟩ ⟨Nat.le_refl _, Nat.le_refl _⟩ hl (Nat.le_of_ble_eq_true rfl) rfl dX1_powerRest_23 ?_
        refine lv_lload_n C.1 C.2.1 dX1_powerRest_26 rfl (lv_at hl 2 rfl) ?_
        refine z_call C (c_X1_restOf l (pm (x7) (x7)) (m0) (by first | assumption | omega | rfl | exact decide_eq_false (by omega) | exact decide_eq_true (by assumption) | exact decide_eq_true (by omega) | exact one_shl33 (by omega) | exact pm_lt _ _ | exact rm_lt (by first | assumption | exact pm_lt _ _) | exact Nat.lt_of_le_of_lt (Nat.shiftRight_le _ _) (by assumption) | exact Nat.lt_of_le_of_lt Nat.and_le_right (by omega)) (by first | assumption | omega | rfl | exact decide_eq_false (by omega) | exact decide_eq_true (by assumption) | exact decide_eq_true (by omega) | exact one_shl33 (by omega) | exact pm_lt _ _ | exact rm_lt (by first | assumption | exact pm_lt _ _) | exact Nat.lt_of_le_of_lt (Nat.shiftRight_le _ _) (by assumption) | exact Nat.lt_of_le_of_lt Nat.and_le_right (by omega))) ml_X1_32 ⟨by decide, by decide⟩ ⟨Nat.le_refl _, Nat.le_refl _⟩ hl (Nat.le_of_ble_eq_true rfl) rfl dX1_powerRest_27 ?_
        refine lv_lstore (lv' := [(7, .long (lN (rm (pm (x7) (x7)) (m0)))), (0, .long (lN (a))), (2, .int (iZ (t))), (3, .long (lN (m0))), (5, .long (lN (rm (a) (m0)))), (9, .int (iZ (x9)))]) C.1 C.2.1 dX1_powerRest_30 hl (by decide) rfl (fun ls hl => ?_)
        refine lv_iload_n C.1 C.2.1 dX1_powerRest_32 rfl (lv_at hl 2 rfl) ?_
        refine lv_iload C.1 C.2.1 dX1_powerRest_33 (lv_at hl 5 rfl) ?_
        refine z_ishr C ((t).toNat) ((x9).toNat) (by omega) (by omega) (by omega) (by omega) dX1_powerRest_35 ?_
        refine z_iconst C dX1_powerRest_36 ?_
        refine z_iand1 C ((t).toNat >>> ((x9).toNat)) (by omega) (by first | omega | exact Nat.lt_of_le_of_lt (Nat.shiftRight_le _ _) (by omega)) dX1_powerRest_37 ?_
        refine z_iconst C dX1_powerRest_38 ?_
        refine z_icmp_ne (tgt := 55) C (by omega) (by omega) dX1_powerRest_39 (by decide) (fun h39 => ?_) (fun h39 => ?_)
        · refine z_iinc (j := 5) (lv' := [(9, .int (iZ (x9 + (-1)))), (7, .long (lN (rm (pm (x7) (x7)) (m0)))), (0, .long (lN (a))), (2, .int (iZ (t))), (3, .long (lN (m0))), (5, .long (lN (rm (a) (m0))))]) C dX1_powerRest_55 hl rfl (by decide) rfl (fun ls hl => ?_)
          refine lv_goto (tgt := 14) C.1 C.2.1 dX1_powerRest_58 (by decide) ?_
          obtain ⟨j1, rfl⟩ : ∃ g, j0 = g + 1 := ⟨j0 - 1, by omega⟩
          have ej : x9.toNat = j1 := by omega
          rw [ej] at h39
          rw [pwF_f ((bitN0 _ _).mp (by omega))] at i14_3
          exact ih14 (j1) _ _ _ (by omega) (by omega) (by omega) (by exact rm_lt (pm_lt _ _)) (by exact i14_3) (lv_sub hl [2, 3, 4, 5, 1, 0] rfl)
        · refine lv_lload C.1 C.2.1 dX1_powerRest_42 (lv_at hl 0 rfl) ?_
          refine lv_lload C.1 C.2.1 dX1_powerRest_44 (lv_at hl 4 rfl) ?_
          refine z_call C (c_X1_product l (rm (pm (x7) (x7)) (m0)) (rm (a) (m0)) (by first | assumption | omega | rfl | exact decide_eq_false (by omega) | exact decide_eq_true (by assumption) | exact decide_eq_true (by omega) | exact one_shl33 (by omega) | exact pm_lt _ _ | exact rm_lt (by first | assumption | exact pm_lt _ _) | exact Nat.lt_of_le_of_lt (Nat.shiftRight_le _ _) (by assumption) | exact Nat.lt_of_le_of_lt Nat.and_le_right (by omega))) ml_X1_29 ⟨by decide, by decide⟩ ⟨Nat.le_refl _, Nat.le_refl _⟩ hl (Nat.le_of_ble_eq_true rfl) rfl dX1_powerRest_46 ?_
          refine lv_lload_n C.1 C.2.1 dX1_powerRest_49 rfl (lv_at hl 3 rfl) ?_
          refine z_call C (c_X1_restOf l (pm (rm (pm (x7) (x7)) (m0)) (rm (a) (m0))) (m0) (by first | assumption | omega | rfl | exact decide_eq_false (by omega) | exact decide_eq_true (by assumption) | exact decide_eq_true (by omega) | exact one_shl33 (by omega) | exact pm_lt _ _ | exact rm_lt (by first | assumption | exact pm_lt _ _) | exact Nat.lt_of_le_of_lt (Nat.shiftRight_le _ _) (by assumption) | exact Nat.lt_of_le_of_lt Nat.and_le_right (by omega)) (by first | assumption | omega | rfl | exact decide_eq_false (by omega) | exact decide_eq_true (by assumption) | exact decide_eq_true (by omega) | exact one_shl33 (by omega) | exact pm_lt _ _ | exact rm_lt (by first | assumption | exact pm_lt _ _) | exact Nat.lt_of_le_of_lt (Nat.shiftRight_le _ _) (by assumption) | exact Nat.lt_of_le_of_lt Nat.and_le_right (by omega))) ml_X1_32 ⟨by decide, by decide⟩ ⟨Nat.le_refl _, Nat.le_refl _⟩ hl (Nat.le_of_ble_eq_true rfl) rfl dX1_powerRest_50 ?_
          refine lv_lstore (lv' := [(7, .long (lN (rm (pm (rm (pm (x7) (x7)) (m0)) (rm (a) (m0))) (m0)))), (0, .long (lN (a))), (2, .int (iZ (t))), (3, .long (lN (m0))), (5, .long (lN (rm (a) (m0)))), (9, .int (iZ (x9)))]) C.1 C.2.1 dX1_powerRest_53 hl (by decide) rfl (fun ls hl => ?_)
          refine z_iinc (j := 5) (lv' := [(9, .int (iZ (x9 + (-1)))), (7, .long (lN (rm (pm (rm (pm (x7) (x7)) (m0)) (rm (a) (m0))) (m0)))), (0, .long (lN (a))), (2, .int (iZ (t))), (3, .long (lN (m0))), (5, .long (lN (rm (a) (m0))))]) C dX1_powerRest_55 hl rfl (by decide) rfl (fun ls hl => ?_)
          refine lv_goto (tgt := 14) C.1 C.2.1 dX1_powerRest_58 (by decide) ?_
          obtain ⟨j1, rfl⟩ : ∃ g, j0 = g + 1 := ⟨j0 - 1, by omega⟩
          have ej : x9.toNat = j1 := by omega
          rw [ej] at h39
          rw [pwF_t ((bitN _ _).mp (by omega))] at i14_3
          exact ih14 (j1) _ _ _ (by omega) (by omega) (by omega) (by exact rm_lt (pm_lt _ _)) (by exact i14_3) (lv_sub hl [2, 3, 4, 5, 1, 0] rfl)
  exact L14 _ (8) _ _ _ (by exact Nat.lt_succ_self _) (by rfl) (by omega) (by omega) (by rfl) (lv_sub hl [3, 4, 5, 2, 1, 0] rfl)
set_option maxHeartbeats 4000000 in
set_option maxRecDepth 100000 in
theorem c_X0_isOne (l : Launch) (n : Nat) (hn : n < 18446744073709551616) : zP l yX0_isOne 4 124 [.long (lN (n))] (.int (iZ (zB (ir n)))) := by
  refine zP.intro (lo := 98) (nA := 1) (own := RX0) zs_X0_isOne (by decide) rfl rfl (by decide +kernel) rfl (Nat.le_of_ble_eq_true rfl) ?_
  intro p e s m below meth c ls C hr hk hl
  have hl : lv_has ls 7 [(0, .long (lN (n)))] := hl
  refine lv_lload_n C.1 C.2.1 dX0_isOne_0 rfl (lv_at hl 0 rfl) ?_
  refine z_call C (c_X1_topPlace l (n) (by first | assumption | omega | rfl | exact decide_eq_false (by omega) | exact decide_eq_true (by assumption) | exact decide_eq_true (by omega) | exact one_shl33 (by omega) | exact pm_lt _ _ | exact rm_lt (by first | assumption | exact pm_lt _ _) | exact Nat.lt_of_le_of_lt (Nat.shiftRight_le _ _) (by assumption) | exact Nat.lt_of_le_of_lt Nat.and_le_right (by omega))) ml_X0_9 ⟨by decide, by decide⟩ ⟨Nat.le_refl _, Nat.le_refl _⟩ hl (Nat.le_of_ble_eq_true rfl) rfl dX0_isOne_1 ?_
  have q1_0 := tp_rngE (n) (by first | assumption | omega)
  refine lv_istore_n (lv' := [(2, .int (iZ (tp (n)))), (0, .long (lN (n)))]) C.1 C.2.1 dX0_isOne_4 rfl hl (by decide) rfl (fun ls hl => ?_)
  refine lv_iload_n C.1 C.2.1 dX0_isOne_5 rfl (lv_at hl 0 rfl) ?_
  refine z_iconst C dX0_isOne_6 ?_
  refine z_icmp_ge (tgt := 12) C (by omega) (by omega) dX0_isOne_7 (by decide) (fun h7 => ?_) (fun h7 => ?_)
  · refine lv_iload_n C.1 C.2.1 dX0_isOne_12 rfl (lv_at hl 0 rfl) ?_
    refine z_iconst C dX0_isOne_13 ?_
    refine z_idiv C (by omega) (by omega) dX0_isOne_14 ?_
    refine z_iconst C dX0_isOne_15 ?_
    refine z_iadd C dX0_isOne_16 ?_
    refine z_call C (c_X1_single l (((tp (n)) / (2)) + (1)) (by first | assumption | omega | rfl | exact decide_eq_false (by omega) | exact decide_eq_true (by assumption) | exact decide_eq_true (by omega) | exact one_shl33 (by omega) | exact pm_lt _ _ | exact rm_lt (by first | assumption | exact pm_lt _ _) | exact Nat.lt_of_le_of_lt (Nat.shiftRight_le _ _) (by assumption) | exact Nat.lt_of_le_of_lt Nat.and_le_right (by omega))) ml_X0_15 ⟨by decide, by decide⟩ ⟨Nat.le_refl _, Nat.le_refl _⟩ hl (Nat.le_of_ble_eq_true rfl) rfl dX0_isOne_17 ?_
    refine lv_lstore_n (lv' := [(3, .long (lN (1 <<< (((tp (n)) / (2)) + (1)).toNat))), (2, .int (iZ (tp (n)))), (0, .long (lN (n)))]) C.1 C.2.1 dX0_isOne_20 rfl hl (by decide) rfl (fun ls hl => ?_)
    refine z_ldc2 C 2 (T0_of kl_X0_19 rfl) (by decide) dX0_isOne_21 ?_
    refine lv_lstore (lv' := [(5, .long (lN (2))), (3, .long (lN (1 <<< (((tp (n)) / (2)) + (1)).toNat))), (2, .int (iZ (tp (n)))), (0, .long (lN (n)))]) C.1 C.2.1 dX0_isOne_24 hl (by decide) rfl (fun ls hl => ?_)
    have L26 : ∀ (j : Nat) (f : Nat) (x5 : Nat) (ls : Array Slot), f < j → (f + x5 = irE n) → (2 ≤ x5) → (irF n f x5 = ir n) → (1 ≤ tp n) → lv_has ls 7 [(0, .long (lN (n))), (2, .int (iZ (tp (n)))), (3, .long (lN (1 <<< (((tp (n)) / (2)) + (1)).toNat))), (5, .long (lN (x5)))] → W p l e { frames := 4, cells := 0, slots := 0, locals := 98 } s m ([.long (lN (n))] : List Value).toArray below meth c s.heap [] 0 0 (zQ below [.long (lN (n))] s (.int (iZ (zB (ir n))))) (F0 m 26 ls []) := by
      intro j
      induction j with
      | zero => intro f x5 ls hmu; exact absurd hmu (Nat.not_lt_zero _)
      | succ j ih26 =>
        intro f x5 ls hmu i26_0 i26_1 i26_2 i26_3 hl
        have hq := irE_rng i26_3 (tp_rng hn).2
        refine lv_lload C.1 C.2.1 dX0_isOne_26 (lv_at hl 3 rfl) ?_
        refine lv_lload_n C.1 C.2.1 dX0_isOne_28 rfl (lv_at hl 2 rfl) ?_
        refine z_lc_ge (tgt := 53) C (by omega) (by show irE n < _; omega) dX0_isOne_29 dX0_isOne_30 (by decide) (fun h29 => ?_) (fun h29 => ?_)
        · refine z_iconst C dX0_isOne_53 ?_
          exact z_zret C hr hk dX0_isOne_54 (by decide) (congrArg (fun z : Int => Value.int (iZ z)) (by rw [show f = 0 by have h29b : irE n ≤ x5 := h29; omega] at i26_2; exact zB_t i26_2.symm))
        · refine lv_lload C.1 C.2.1 dX0_isOne_33 (lv_at hl 3 rfl) ?_
          refine lv_lload_n C.1 C.2.1 dX0_isOne_35 rfl (lv_at hl 0 rfl) ?_
          refine z_call C (c_X1_isDivisor l (x5) (n) (by first | assumption | omega | rfl | exact decide_eq_false (by omega) | exact decide_eq_true (by assumption) | exact decide_eq_true (by omega) | exact one_shl33 (by omega) | exact pm_lt _ _ | exact rm_lt (by first | assumption | exact pm_lt _ _) | exact Nat.lt_of_le_of_lt (Nat.shiftRight_le _ _) (by assumption) | exact Nat.lt_of_le_of_lt Nat.and_le_right (by omega)) (by first | assumption | omega | rfl | exact decide_eq_false (by omega) | exact decide_eq_true (by assumption) | exact decide_eq_true (by omega) | exact one_shl33 (by omega) | exact pm_lt _ _ | exact rm_lt (by first | assumption | exact pm_lt _ _) | exact Nat.lt_of_le_of_lt (Nat.shiftRight_le _ _) (by assumption) | exact Nat.lt_of_le_of_lt Nat.and_le_right (by omega))) ml_X0_21 ⟨by decide, by decide⟩ ⟨Nat.le_refl _, Nat.le_refl _⟩ hl (Nat.le_of_ble_eq_true rfl) rfl dX0_isOne_36 ?_
          refine z_ifB_eq (tgt := 44) C dX0_isOne_39 (by decide) (fun h39 => ?_) (fun h39 => ?_)
          · refine lv_lload C.1 C.2.1 dX0_isOne_44 (lv_at hl 3 rfl) ?_
            refine z_lconst (k0 := 1) C dX0_isOne_46 rfl ?_
            refine z_ladd C dX0_isOne_47 ?_
            refine lv_lstore (lv' := [(5, .long (lN ((x5) + (1)))), (0, .long (lN (n))), (2, .int (iZ (tp (n)))), (3, .long (lN (1 <<< (((tp (n)) / (2)) + (1)).toNat)))]) C.1 C.2.1 dX0_isOne_48 hl (by decide) rfl (fun ls hl => ?_)
            refine lv_goto (tgt := 26) C.1 C.2.1 dX0_isOne_50 (by decide) ?_
            have h29b : x5 < irE n := h29; obtain ⟨f, rfl⟩ : ∃ g, f = g + 1 := ⟨f - 1, by omega⟩
            rw [irF_f (of_decide_eq_false h39)] at i26_2
            exact ih26 (f) _ _ (by omega) (by omega) (by omega) (by exact i26_2) (by exact i26_3) (lv_sub hl [1, 2, 3, 0] rfl)
          · refine z_iconst C dX0_isOne_42 ?_
            exact z_zret C hr hk dX0_isOne_43 (by decide) (congrArg (fun z : Int => Value.int (iZ z)) (by obtain ⟨f, rfl⟩ : ∃ g, f = g + 1 := ⟨f - 1, by have h29b : x5 < irE n := h29; omega⟩; rw [irF_t (of_decide_eq_true h39)] at i26_2; exact zB_f i26_2.symm))
    have hq := irE_rng (n := n) (by omega) (tp_rng hn).2
    exact L26 _ (irE n - 2) _ _ (by exact Nat.lt_succ_self _) (by omega) (by omega) (by rw [ir, if_neg (by omega)]) (by omega) (lv_sub hl [3, 2, 1, 0] rfl)
  · refine z_iconst C dX0_isOne_10 ?_
    exact z_zret C hr hk dX0_isOne_11 (by decide) (congrArg (fun z : Int => Value.int (iZ z)) (by exact zB_f (by rw [ir, if_pos h7])))

set_option maxHeartbeats 4000000 in
set_option maxRecDepth 100000 in
theorem c_X0_countBelow (l : Launch) (d : Int) (n : Nat) (hd : 0 ≤ d ∧ d ≤ 8) (hn : n ≤ 512) : zP l yX0_countBelow 5 149 [.int (iZ (d)), .long (lN (n))] (.int (iZ (cb (2 ^ d.toNat) n))) := by
  refine zP.intro (lo := 124) (nA := 2) (own := RX0) zs_X0_countBelow (by decide) rfl rfl (by decide +kernel) rfl (Nat.le_of_ble_eq_true rfl) ?_
  intro p e s m below meth c ls C hr hk hl
  have hl : lv_has ls 6 [(0, .int (iZ (d))), (1, .long (lN (n)))] := hl
  have hp := pow_8 (d := d.toNat) (by omega)
  have e1 : 1 <<< d.toNat = 2 ^ d.toNat := by rw [Nat.shiftLeft_eq, Nat.one_mul]
  refine z_iconst C dX0_countBelow_0 ?_
  refine lv_istore_n (lv' := [(3, .int (iZ (0))), (0, .int (iZ (d))), (1, .long (lN (n)))]) C.1 C.2.1 dX0_countBelow_1 rfl hl (by decide) rfl (fun ls hl => ?_)
  refine lv_iload_n C.1 C.2.1 dX0_countBelow_2 rfl (lv_at hl 1 rfl) ?_
  refine z_call C (c_X1_single l (d) (by first | assumption | omega | rfl | exact decide_eq_false (by omega) | exact decide_eq_true (by assumption) | exact decide_eq_true (by omega) | exact one_shl33 (by omega) | exact pm_lt _ _ | exact rm_lt (by first | assumption | exact pm_lt _ _) | exact Nat.lt_of_le_of_lt (Nat.shiftRight_le _ _) (by assumption) | exact Nat.lt_of_le_of_lt Nat.and_le_right (by omega))) ml_X0_15 ⟨by decide, by decide⟩ ⟨Nat.le_refl _, Nat.le_refl _⟩ hl (Nat.le_of_ble_eq_true rfl) rfl dX0_countBelow_3 ?_
  refine lv_lstore (lv' := [(4, .long (lN (1 <<< (d).toNat))), (3, .int (iZ (0))), (0, .int (iZ (d))), (1, .long (lN (n)))]) C.1 C.2.1 dX0_countBelow_6 hl (by decide) rfl (fun ls hl => ?_)
  have L8 : ∀ (j : Nat) (f : Nat) (x3 : Int) (x4 : Nat) (ls : Array Slot), f < j → (f = n - x4) → (x4 ≤ 512) → (cbF f x4 x3 = cb (2 ^ d.toNat) n) → (0 ≤ x3) → (x3 ≤ (x4 : Int)) → lv_has ls 6 [(0, .int (iZ (d))), (1, .long (lN (n))), (3, .int (iZ (x3))), (4, .long (lN (x4)))] → W p l e { frames := 5, cells := 0, slots := 0, locals := 124 } s m ([.int (iZ (d)), .long (lN (n))] : List Value).toArray below meth c s.heap [] 0 0 (zQ below [.int (iZ (d)), .long (lN (n))] s (.int (iZ (cb (2 ^ d.toNat) n)))) (F0 m 8 ls []) := by
    intro j
    induction j with
    | zero => intro f x3 x4 ls hmu; exact absurd hmu (Nat.not_lt_zero _)
    | succ j ih8 =>
      intro f x3 x4 ls hmu i8_0 i8_1 i8_2 i8_3 i8_4 hl
      refine lv_lload C.1 C.2.1 dX0_countBelow_8 (lv_at hl 3 rfl) ?_
      refine lv_lload_n C.1 C.2.1 dX0_countBelow_10 rfl (lv_at hl 1 rfl) ?_
      refine z_lc_ge (tgt := 35) C (by first | assumption | omega | rfl | exact decide_eq_false (by omega) | exact decide_eq_true (by assumption) | exact decide_eq_true (by omega) | exact one_shl33 (by omega) | exact pm_lt _ _ | exact rm_lt (by first | assumption | exact pm_lt _ _) | exact Nat.lt_of_le_of_lt (Nat.shiftRight_le _ _) (by assumption) | exact Nat.lt_of_le_of_lt Nat.and_le_right (by omega)) (by first | assumption | omega | rfl | exact decide_eq_false (by omega) | exact decide_eq_true (by assumption) | exact decide_eq_true (by omega) | exact one_shl33 (by omega) | exact pm_lt _ _ | exact rm_lt (by first | assumption | exact pm_lt _ _) | exact Nat.lt_of_le_of_lt (Nat.shiftRight_le _ _) (by assumption) | exact Nat.lt_of_le_of_lt Nat.and_le_right (by omega)) dX0_countBelow_11 dX0_countBelow_12 (by decide) (fun h11 => ?_) (fun h11 => ?_)
      · refine lv_iload_n C.1 C.2.1 dX0_countBelow_35 rfl (lv_at hl 2 rfl) ?_
        exact z_iret C hr hk dX0_countBelow_36 (congrArg (fun z : Int => Value.int (iZ z)) (by rw [show f = 0 by omega] at i8_2; exact i8_2))
      · refine lv_lload C.1 C.2.1 dX0_countBelow_15 (lv_at hl 3 rfl) ?_
        refine z_call C (c_X0_isOne l (x4) (by first | assumption | omega | rfl | exact decide_eq_false (by omega) | exact decide_eq_true (by assumption) | exact decide_eq_true (by omega) | exact one_shl33 (by omega) | exact pm_lt _ _ | exact rm_lt (by first | assumption | exact pm_lt _ _) | exact Nat.lt_of_le_of_lt (Nat.shiftRight_le _ _) (by assumption) | exact Nat.lt_of_le_of_lt Nat.and_le_right (by omega))) ml_X0_25 ⟨by decide, by decide⟩ ⟨Nat.le_refl _, Nat.le_refl _⟩ hl (Nat.le_of_ble_eq_true rfl) rfl dX0_countBelow_17 ?_
        refine z_ifB_eq (tgt := 26) C dX0_countBelow_20 (by decide) (fun h20 => ?_) (fun h20 => ?_)
        · refine lv_lload C.1 C.2.1 dX0_countBelow_26 (lv_at hl 3 rfl) ?_
          refine z_lconst (k0 := 1) C dX0_countBelow_28 rfl ?_
          refine z_ladd C dX0_countBelow_29 ?_
          refine lv_lstore (lv' := [(4, .long (lN ((x4) + (1)))), (0, .int (iZ (d))), (1, .long (lN (n))), (3, .int (iZ (x3)))]) C.1 C.2.1 dX0_countBelow_30 hl (by decide) rfl (fun ls hl => ?_)
          refine lv_goto (tgt := 8) C.1 C.2.1 dX0_countBelow_32 (by decide) ?_
          obtain ⟨f, rfl⟩ : ∃ g, f = g + 1 := ⟨f - 1, by omega⟩
          rw [cbF, h20] at i8_2
          exact ih8 (f) _ _ _ (by omega) (by omega) (by omega) (by rw [← i8_2]; congr 1; rw [show zB false = 0 from rfl]; omega) (by omega) (by omega) (lv_sub hl [1, 2, 3, 0] rfl)
        · refine z_iinc (j := 2) (lv' := [(3, .int (iZ (x3 + 1))), (0, .int (iZ (d))), (1, .long (lN (n))), (4, .long (lN (x4)))]) C dX0_countBelow_23 hl rfl (by decide) rfl (fun ls hl => ?_)
          refine lv_lload C.1 C.2.1 dX0_countBelow_26 (lv_at hl 3 rfl) ?_
          refine z_lconst (k0 := 1) C dX0_countBelow_28 rfl ?_
          refine z_ladd C dX0_countBelow_29 ?_
          refine lv_lstore (lv' := [(4, .long (lN ((x4) + (1)))), (3, .int (iZ (x3 + 1))), (0, .int (iZ (d))), (1, .long (lN (n)))]) C.1 C.2.1 dX0_countBelow_30 hl (by decide) rfl (fun ls hl => ?_)
          refine lv_goto (tgt := 8) C.1 C.2.1 dX0_countBelow_32 (by decide) ?_
          obtain ⟨f, rfl⟩ : ∃ g, f = g + 1 := ⟨f - 1, by omega⟩
          rw [cbF, h20] at i8_2
          exact ih8 (f) _ _ _ (by omega) (by omega) (by omega) (by exact i8_2) (by omega) (by omega) (lv_sub hl [2, 3, 1, 0] rfl)
  exact L8 _ (n - 2 ^ d.toNat) _ _ _ (by exact Nat.lt_succ_self _) (by rw [e1]) (by omega) (by rw [e1]; rfl) (by omega) (by omega) (lv_sub hl [2, 3, 1, 0] rfl)

set_option maxHeartbeats 4000000 in
set_option maxRecDepth 100000 in
theorem c_X0_withRank (l : Launch) (d : Int) (r : Int) (hd : 1 ≤ d ∧ d ≤ 8) (hr0 : 0 ≤ r ∧ r ≤ 40) : zP l yX0_withRank 5 148 [.int (iZ (d)), .int (iZ (r))] (.long (lN (wr d.toNat r))) := by
  refine zP.intro (lo := 124) (nA := 2) (own := RX0) zs_X0_withRank (by decide) rfl rfl (by decide +kernel) rfl (Nat.le_of_ble_eq_true rfl) ?_
  intro p e s m below meth c ls C hr hk hl
  have hl : lv_has ls 5 [(0, .int (iZ (d))), (1, .int (iZ (r)))] := hl
  have hp := pow_8 (d := d.toNat) (by omega)
  have hps := pow_s d.toNat
  have e1 : 1 <<< d.toNat = 2 ^ d.toNat := by rw [Nat.shiftLeft_eq, Nat.one_mul]
  have e2 : 1 <<< (d + 1).toNat = 2 ^ (d.toNat + 1) := by rw [Nat.shiftLeft_eq, Nat.one_mul]; congr 1; omega
  refine z_iconst C dX0_withRank_0 ?_
  refine lv_istore_n (lv' := [(2, .int (iZ (0))), (0, .int (iZ (d))), (1, .int (iZ (r)))]) C.1 C.2.1 dX0_withRank_1 rfl hl (by decide) rfl (fun ls hl => ?_)
  refine lv_iload_n C.1 C.2.1 dX0_withRank_2 rfl (lv_at hl 1 rfl) ?_
  refine z_call C (c_X1_single l (d) (by first | assumption | omega | rfl | exact decide_eq_false (by omega) | exact decide_eq_true (by assumption) | exact decide_eq_true (by omega) | exact one_shl33 (by omega) | exact pm_lt _ _ | exact rm_lt (by first | assumption | exact pm_lt _ _) | exact Nat.lt_of_le_of_lt (Nat.shiftRight_le _ _) (by assumption) | exact Nat.lt_of_le_of_lt Nat.and_le_right (by omega))) ml_X0_15 ⟨by decide, by decide⟩ ⟨Nat.le_refl _, Nat.le_refl _⟩ hl (Nat.le_of_ble_eq_true rfl) rfl dX0_withRank_3 ?_
  refine lv_lstore_n (lv' := [(3, .long (lN (1 <<< (d).toNat))), (2, .int (iZ (0))), (0, .int (iZ (d))), (1, .int (iZ (r)))]) C.1 C.2.1 dX0_withRank_6 rfl hl (by decide) rfl (fun ls hl => ?_)
  have L7 : ∀ (j : Nat) (f : Nat) (x2 : Int) (x3 : Nat) (ls : Array Slot), f < j → (f = 2 ^ (d.toNat + 1) - x3) → (2 ^ d.toNat ≤ x3) → (x3 ≤ 2 ^ (d.toNat + 1)) → (wrF r f x3 x2 = wr d.toNat r) → (0 ≤ x2) → (x2 ≤ (x3 : Int)) → lv_has ls 5 [(0, .int (iZ (d))), (1, .int (iZ (r))), (2, .int (iZ (x2))), (3, .long (lN (x3)))] → W p l e { frames := 5, cells := 0, slots := 0, locals := 124 } s m ([.int (iZ (d)), .int (iZ (r))] : List Value).toArray below meth c s.heap [] 0 0 (zQ below [.int (iZ (d)), .int (iZ (r))] s (.long (lN (wr d.toNat r)))) (F0 m 7 ls []) := by
    intro j
    induction j with
    | zero => intro f x2 x3 ls hmu; exact absurd hmu (Nat.not_lt_zero _)
    | succ j ih7 =>
      intro f x2 x3 ls hmu i7_0 i7_1 i7_2 i7_3 i7_4 i7_5 hl
      refine lv_lload_n C.1 C.2.1 dX0_withRank_7 rfl (lv_at hl 3 rfl) ?_
      refine lv_iload_n C.1 C.2.1 dX0_withRank_8 rfl (lv_at hl 0 rfl) ?_
      refine z_iconst C dX0_withRank_9 ?_
      refine z_iadd C dX0_withRank_10 ?_
      refine z_call C (c_X1_single l ((d) + (1)) (by first | assumption | omega | rfl | exact decide_eq_false (by omega) | exact decide_eq_true (by assumption) | exact decide_eq_true (by omega) | exact one_shl33 (by omega) | exact pm_lt _ _ | exact rm_lt (by first | assumption | exact pm_lt _ _) | exact Nat.lt_of_le_of_lt (Nat.shiftRight_le _ _) (by assumption) | exact Nat.lt_of_le_of_lt Nat.and_le_right (by omega))) ml_X0_15 ⟨by decide, by decide⟩ ⟨Nat.le_refl _, Nat.le_refl _⟩ hl (Nat.le_of_ble_eq_true rfl) rfl dX0_withRank_11 ?_
      refine z_lc_ge (tgt := 42) C (by omega) (by show 1 <<< (d + 1).toNat < _; rw [e2]; omega) dX0_withRank_14 dX0_withRank_15 (by decide) (fun h14 => ?_) (fun h14 => ?_)
      · refine z_lconst (k0 := 0) C dX0_withRank_42 rfl ?_
        exact z_lret C hr hk dX0_withRank_43 (congrArg (fun z : Nat => Value.long (lN z)) (by have h14b : 2 ^ (d.toNat + 1) ≤ x3 := (by rw [← e2]; exact h14); rw [show f = 0 by omega] at i7_3; exact i7_3))
      · refine lv_lload_n C.1 C.2.1 dX0_withRank_18 rfl (lv_at hl 3 rfl) ?_
        refine z_call C (c_X0_isOne l (x3) (by first | assumption | omega | rfl | exact decide_eq_false (by omega) | exact decide_eq_true (by assumption) | exact decide_eq_true (by omega) | exact one_shl33 (by omega) | exact pm_lt _ _ | exact rm_lt (by first | assumption | exact pm_lt _ _) | exact Nat.lt_of_le_of_lt (Nat.shiftRight_le _ _) (by assumption) | exact Nat.lt_of_le_of_lt Nat.and_le_right (by omega))) ml_X0_25 ⟨by decide, by decide⟩ ⟨Nat.le_refl _, Nat.le_refl _⟩ hl (Nat.le_of_ble_eq_true rfl) rfl dX0_withRank_19 ?_
        refine z_ifB_eq (tgt := 35) C dX0_withRank_22 (by decide) (fun h22 => ?_) (fun h22 => ?_)
        · refine lv_lload_n C.1 C.2.1 dX0_withRank_35 rfl (lv_at hl 3 rfl) ?_
          refine z_lconst (k0 := 1) C dX0_withRank_36 rfl ?_
          refine z_ladd C dX0_withRank_37 ?_
          refine lv_lstore_n (lv' := [(3, .long (lN ((x3) + (1)))), (0, .int (iZ (d))), (1, .int (iZ (r))), (2, .int (iZ (x2)))]) C.1 C.2.1 dX0_withRank_38 rfl hl (by decide) rfl (fun ls hl => ?_)
          refine lv_goto (tgt := 7) C.1 C.2.1 dX0_withRank_39 (by decide) ?_
          obtain ⟨f, rfl⟩ : ∃ g, f = g + 1 := ⟨f - 1, by have h14b : x3 < 2 ^ (d.toNat + 1) := (by rw [← e2]; exact h14); omega⟩
          rw [wrF_n h22] at i7_3
          exact ih7 (f) _ _ _ (by omega) (by omega) (by omega) (by omega) (by exact i7_3) (by omega) (by omega) (lv_sub hl [1, 2, 3, 0] rfl)
        · refine lv_iload_n C.1 C.2.1 dX0_withRank_25 rfl (lv_at hl 2 rfl) ?_
          refine lv_iload_n C.1 C.2.1 dX0_withRank_26 rfl (lv_at hl 1 rfl) ?_
          refine z_icmp_ne (tgt := 32) C (by omega) (by omega) dX0_withRank_27 (by decide) (fun h27 => ?_) (fun h27 => ?_)
          · refine z_iinc (j := 2) (lv' := [(2, .int (iZ (x2 + 1))), (0, .int (iZ (d))), (1, .int (iZ (r))), (3, .long (lN (x3)))]) C dX0_withRank_32 hl rfl (by decide) rfl (fun ls hl => ?_)
            refine lv_lload_n C.1 C.2.1 dX0_withRank_35 rfl (lv_at hl 3 rfl) ?_
            refine z_lconst (k0 := 1) C dX0_withRank_36 rfl ?_
            refine z_ladd C dX0_withRank_37 ?_
            refine lv_lstore_n (lv' := [(3, .long (lN ((x3) + (1)))), (2, .int (iZ (x2 + 1))), (0, .int (iZ (d))), (1, .int (iZ (r)))]) C.1 C.2.1 dX0_withRank_38 rfl hl (by decide) rfl (fun ls hl => ?_)
            refine lv_goto (tgt := 7) C.1 C.2.1 dX0_withRank_39 (by decide) ?_
            obtain ⟨f, rfl⟩ : ∃ g, f = g + 1 := ⟨f - 1, by have h14b : x3 < 2 ^ (d.toNat + 1) := (by rw [← e2]; exact h14); omega⟩
            rw [wrF_s h22 h27] at i7_3
            exact ih7 (f) _ _ _ (by omega) (by omega) (by omega) (by omega) (by exact i7_3) (by omega) (by omega) (lv_sub hl [2, 3, 1, 0] rfl)
          · refine lv_lload_n C.1 C.2.1 dX0_withRank_30 rfl (lv_at hl 3 rfl) ?_
            exact z_lret C hr hk dX0_withRank_31 (congrArg (fun z : Nat => Value.long (lN z)) (by obtain ⟨f, rfl⟩ : ∃ g, f = g + 1 := ⟨f - 1, by have h14b : x3 < 2 ^ (d.toNat + 1) := (by rw [← e2]; exact h14); omega⟩; rw [wrF_e h22 h27] at i7_3; exact i7_3))
  exact L7 _ (2 ^ (d.toNat + 1) - 2 ^ d.toNat) _ _ _ (by exact Nat.lt_succ_self _) (by rw [e1]) (by omega) (by omega) (by rw [e1]; rfl) (by omega) (by omega) (lv_sub hl [2, 3, 1, 0] rfl)

set_option maxHeartbeats 4000000 in
set_option maxRecDepth 100000 in
theorem c_X0_timesAllOf (l : Launch) (x : Nat) (d : Int) (hx : x < 18446744073709551616) (hd : 1 ≤ d ∧ d ≤ 8) : zP l yX0_timesAllOf 5 150 [.long (lN (x)), .int (iZ (d))] (.long (lN (ta x d.toNat))) := by
  refine zP.intro (lo := 124) (nA := 2) (own := RX0) zs_X0_timesAllOf (by decide) rfl rfl (by decide +kernel) rfl (Nat.le_of_ble_eq_true rfl) ?_
  intro p e s m below meth c ls C hr hk hl
  have hl : lv_has ls 7 [(0, .long (lN (x))), (2, .int (iZ (d)))] := hl
  have hp := pow_8 (d := d.toNat) (by omega)
  have hps := pow_s d.toNat
  have e1 : 1 <<< d.toNat = 2 ^ d.toNat := by rw [Nat.shiftLeft_eq, Nat.one_mul]
  have e2 : 1 <<< (d + 1).toNat = 2 ^ (d.toNat + 1) := by rw [Nat.shiftLeft_eq, Nat.one_mul]; congr 1; omega
  refine lv_lload_n C.1 C.2.1 dX0_timesAllOf_0 rfl (lv_at hl 0 rfl) ?_
  refine lv_lstore_n (lv' := [(3, .long (lN (x))), (0, .long (lN (x))), (2, .int (iZ (d)))]) C.1 C.2.1 dX0_timesAllOf_1 rfl hl (by decide) rfl (fun ls hl => ?_)
  refine lv_iload_n C.1 C.2.1 dX0_timesAllOf_2 rfl (lv_at hl 2 rfl) ?_
  refine z_call C (c_X1_single l (d) (by first | assumption | omega | rfl | exact decide_eq_false (by omega) | exact decide_eq_true (by assumption) | exact decide_eq_true (by omega) | exact one_shl33 (by omega) | exact pm_lt _ _ | exact rm_lt (by first | assumption | exact pm_lt _ _) | exact Nat.lt_of_le_of_lt (Nat.shiftRight_le _ _) (by assumption) | exact Nat.lt_of_le_of_lt Nat.and_le_right (by omega))) ml_X0_15 ⟨by decide, by decide⟩ ⟨Nat.le_refl _, Nat.le_refl _⟩ hl (Nat.le_of_ble_eq_true rfl) rfl dX0_timesAllOf_3 ?_
  refine lv_lstore (lv' := [(5, .long (lN (1 <<< (d).toNat))), (3, .long (lN (x))), (0, .long (lN (x))), (2, .int (iZ (d)))]) C.1 C.2.1 dX0_timesAllOf_6 hl (by decide) rfl (fun ls hl => ?_)
  have L8 : ∀ (j : Nat) (f : Nat) (x3 : Nat) (x5 : Nat) (ls : Array Slot), f < j → (f = 2 ^ (d.toNat + 1) - x5) → (2 ^ d.toNat ≤ x5) → (x5 ≤ 2 ^ (d.toNat + 1)) → (taF f x5 x3 = ta x d.toNat) → (x3 < 18446744073709551616) → lv_has ls 7 [(0, .long (lN (x))), (2, .int (iZ (d))), (3, .long (lN (x3))), (5, .long (lN (x5)))] → W p l e { frames := 5, cells := 0, slots := 0, locals := 124 } s m ([.long (lN (x)), .int (iZ (d))] : List Value).toArray below meth c s.heap [] 0 0 (zQ below [.long (lN (x)), .int (iZ (d))] s (.long (lN (ta x d.toNat)))) (F0 m 8 ls []) := by
    intro j
    induction j with
    | zero => intro f x3 x5 ls hmu; exact absurd hmu (Nat.not_lt_zero _)
    | succ j ih8 =>
      intro f x3 x5 ls hmu i8_0 i8_1 i8_2 i8_3 i8_4 hl
      refine lv_lload C.1 C.2.1 dX0_timesAllOf_8 (lv_at hl 3 rfl) ?_
      refine lv_iload_n C.1 C.2.1 dX0_timesAllOf_10 rfl (lv_at hl 1 rfl) ?_
      refine z_iconst C dX0_timesAllOf_11 ?_
      refine z_iadd C dX0_timesAllOf_12 ?_
      refine z_call C (c_X1_single l ((d) + (1)) (by first | assumption | omega | rfl | exact decide_eq_false (by omega) | exact decide_eq_true (by assumption) | exact decide_eq_true (by omega) | exact one_shl33 (by omega) | exact pm_lt _ _ | exact rm_lt (by first | assumption | exact pm_lt _ _) | exact Nat.lt_of_le_of_lt (Nat.shiftRight_le _ _) (by assumption) | exact Nat.lt_of_le_of_lt Nat.and_le_right (by omega))) ml_X0_15 ⟨by decide, by decide⟩ ⟨Nat.le_refl _, Nat.le_refl _⟩ hl (Nat.le_of_ble_eq_true rfl) rfl dX0_timesAllOf_13 ?_
      refine z_lc_ge (tgt := 44) C (by omega) (by show 1 <<< (d + 1).toNat < _; rw [e2]; omega) dX0_timesAllOf_16 dX0_timesAllOf_17 (by decide) (fun h16 => ?_) (fun h16 => ?_)
      · refine lv_lload_n C.1 C.2.1 dX0_timesAllOf_44 rfl (lv_at hl 2 rfl) ?_
        exact z_lret C hr hk dX0_timesAllOf_45 (congrArg (fun z : Nat => Value.long (lN z)) (by have h16b : 2 ^ (d.toNat + 1) ≤ x5 := (by rw [← e2]; exact h16); rw [show f = 0 by omega] at i8_3; exact i8_3))
      · refine lv_lload C.1 C.2.1 dX0_timesAllOf_20 (lv_at hl 3 rfl) ?_
        refine z_call C (c_X0_isOne l (x5) (by first | assumption | omega | rfl | exact decide_eq_false (by omega) | exact decide_eq_true (by assumption) | exact decide_eq_true (by omega) | exact one_shl33 (by omega) | exact pm_lt _ _ | exact rm_lt (by first | assumption | exact pm_lt _ _) | exact Nat.lt_of_le_of_lt (Nat.shiftRight_le _ _) (by assumption) | exact Nat.lt_of_le_of_lt Nat.and_le_right (by omega))) ml_X0_25 ⟨by decide, by decide⟩ ⟨Nat.le_refl _, Nat.le_refl _⟩ hl (Nat.le_of_ble_eq_true rfl) rfl dX0_timesAllOf_22 ?_
        refine z_ifB_eq (tgt := 35) C dX0_timesAllOf_25 (by decide) (fun h25 => ?_) (fun h25 => ?_)
        · refine lv_lload C.1 C.2.1 dX0_timesAllOf_35 (lv_at hl 3 rfl) ?_
          refine z_lconst (k0 := 1) C dX0_timesAllOf_37 rfl ?_
          refine z_ladd C dX0_timesAllOf_38 ?_
          refine lv_lstore (lv' := [(5, .long (lN ((x5) + (1)))), (0, .long (lN (x))), (2, .int (iZ (d))), (3, .long (lN (x3)))]) C.1 C.2.1 dX0_timesAllOf_39 hl (by decide) rfl (fun ls hl => ?_)
          refine lv_goto (tgt := 8) C.1 C.2.1 dX0_timesAllOf_41 (by decide) ?_
          obtain ⟨f, rfl⟩ : ∃ g, f = g + 1 := ⟨f - 1, by have h16b : x5 < 2 ^ (d.toNat + 1) := (by rw [← e2]; exact h16); omega⟩
          rw [taF_f h25] at i8_3
          exact ih8 (f) _ _ _ (by omega) (by omega) (by omega) (by omega) (by exact i8_3) (by assumption) (lv_sub hl [1, 2, 3, 0] rfl)
        · refine lv_lload_n C.1 C.2.1 dX0_timesAllOf_28 rfl (lv_at hl 2 rfl) ?_
          refine lv_lload C.1 C.2.1 dX0_timesAllOf_29 (lv_at hl 3 rfl) ?_
          refine z_call C (c_X1_product l (x3) (x5) (by first | assumption | omega | rfl | exact decide_eq_false (by omega) | exact decide_eq_true (by assumption) | exact decide_eq_true (by omega) | exact one_shl33 (by omega) | exact pm_lt _ _ | exact rm_lt (by first | assumption | exact pm_lt _ _) | exact Nat.lt_of_le_of_lt (Nat.shiftRight_le _ _) (by assumption) | exact Nat.lt_of_le_of_lt Nat.and_le_right (by omega))) ml_X0_35 ⟨by decide, by decide⟩ ⟨Nat.le_refl _, Nat.le_refl _⟩ hl (Nat.le_of_ble_eq_true rfl) rfl dX0_timesAllOf_31 ?_
          refine lv_lstore_n (lv' := [(3, .long (lN (pm (x3) (x5)))), (0, .long (lN (x))), (2, .int (iZ (d))), (5, .long (lN (x5)))]) C.1 C.2.1 dX0_timesAllOf_34 rfl hl (by decide) rfl (fun ls hl => ?_)
          refine lv_lload C.1 C.2.1 dX0_timesAllOf_35 (lv_at hl 3 rfl) ?_
          refine z_lconst (k0 := 1) C dX0_timesAllOf_37 rfl ?_
          refine z_ladd C dX0_timesAllOf_38 ?_
          refine lv_lstore (lv' := [(5, .long (lN ((x5) + (1)))), (3, .long (lN (pm (x3) (x5)))), (0, .long (lN (x))), (2, .int (iZ (d)))]) C.1 C.2.1 dX0_timesAllOf_39 hl (by decide) rfl (fun ls hl => ?_)
          refine lv_goto (tgt := 8) C.1 C.2.1 dX0_timesAllOf_41 (by decide) ?_
          obtain ⟨f, rfl⟩ : ∃ g, f = g + 1 := ⟨f - 1, by have h16b : x5 < 2 ^ (d.toNat + 1) := (by rw [← e2]; exact h16); omega⟩
          rw [taF_t h25] at i8_3
          exact ih8 (f) _ _ _ (by omega) (by omega) (by omega) (by omega) (by exact i8_3) (by exact pm_lt _ _) (lv_sub hl [2, 3, 1, 0] rfl)
  exact L8 _ (2 ^ (d.toNat + 1) - 2 ^ d.toNat) _ _ _ (by exact Nat.lt_succ_self _) (by rw [e1]) (by omega) (by omega) (by rw [e1]; rfl) (by exact hx) (lv_sub hl [2, 3, 1, 0] rfl)

set_option maxHeartbeats 4000000 in
set_option maxRecDepth 100000 in
theorem c_X0_productForDivisors (l : Launch) (n : Int) (hn : 1 ≤ n ∧ n ≤ 5) : zP l yX0_productForDivisors 6 173 [.int (iZ (n))] (.long (lN (pd n))) := by
  refine zP.intro (lo := 150) (nA := 1) (own := RX0) zs_X0_productForDivisors (by decide) rfl rfl (by decide +kernel) rfl (Nat.le_of_ble_eq_true rfl) ?_
  intro p e s m below meth c ls C hr hk hl
  have hl : lv_has ls 4 [(0, .int (iZ (n)))] := hl
  refine z_lconst (k0 := 1) C dX0_productForDivisors_0 rfl ?_
  refine lv_lstore_n (lv' := [(1, .long (lN (1))), (0, .int (iZ (n)))]) C.1 C.2.1 dX0_productForDivisors_1 rfl hl (by decide) rfl (fun ls hl => ?_)
  refine z_iconst C dX0_productForDivisors_2 ?_
  refine lv_istore_n (lv' := [(3, .int (iZ (1))), (1, .long (lN (1))), (0, .int (iZ (n)))]) C.1 C.2.1 dX0_productForDivisors_3 rfl hl (by decide) rfl (fun ls hl => ?_)
  have L4 : ∀ (j : Nat) (f : Nat) (d : Nat) (x1 : Nat) (x3 : Int) (ls : Array Slot), f < j → (x3 = (d : Int)) → ((f : Int) + x3 = n + 1) → (1 ≤ d) → (x1 < 18446744073709551616) → (pdF n f d x1 = pd n) → lv_has ls 4 [(0, .int (iZ (n))), (1, .long (lN (x1))), (3, .int (iZ (x3)))] → W p l e { frames := 6, cells := 0, slots := 0, locals := 150 } s m ([.int (iZ (n))] : List Value).toArray below meth c s.heap [] 0 0 (zQ below [.int (iZ (n))] s (.long (lN (pd n)))) (F0 m 4 ls []) := by
    intro j
    induction j with
    | zero => intro f d x1 x3 ls hmu; exact absurd hmu (Nat.not_lt_zero _)
    | succ j ih4 =>
      intro f d x1 x3 ls hmu i4_0 i4_1 i4_2 i4_3 i4_4 hl
      refine lv_iload_n C.1 C.2.1 dX0_productForDivisors_4 rfl (lv_at hl 2 rfl) ?_
      refine lv_iload_n C.1 C.2.1 dX0_productForDivisors_5 rfl (lv_at hl 0 rfl) ?_
      refine z_icmp_gt (tgt := 27) C (by omega) (by omega) dX0_productForDivisors_6 (by decide) (fun h6 => ?_) (fun h6 => ?_)
      · refine lv_lload_n C.1 C.2.1 dX0_productForDivisors_27 rfl (lv_at hl 1 rfl) ?_
        exact z_lret C hr hk dX0_productForDivisors_28 (congrArg (fun z : Nat => Value.long (lN z)) (by rw [show f = 0 by omega] at i4_4; exact i4_4))
      · refine lv_iload_n C.1 C.2.1 dX0_productForDivisors_9 rfl (lv_at hl 0 rfl) ?_
        refine lv_iload_n C.1 C.2.1 dX0_productForDivisors_10 rfl (lv_at hl 2 rfl) ?_
        refine z_irem C (by omega) (by omega) dX0_productForDivisors_11 ?_
        refine z_if_ne (tgt := 21) C (by have := Int.emod_nonneg n (b := x3) (by omega); have := Int.emod_lt_of_pos n (b := x3) (by omega); omega) dX0_productForDivisors_12 (by decide) (fun h12 => ?_) (fun h12 => ?_)
        · refine z_iinc (j := 2) (lv' := [(3, .int (iZ (x3 + 1))), (0, .int (iZ (n))), (1, .long (lN (x1)))]) C dX0_productForDivisors_21 hl rfl (by decide) rfl (fun ls hl => ?_)
          refine lv_goto (tgt := 4) C.1 C.2.1 dX0_productForDivisors_24 (by decide) ?_
          obtain ⟨f, rfl⟩ : ∃ g, f = g + 1 := ⟨f - 1, by omega⟩
          rw [i4_0] at h12
          rw [pdF_f h12] at i4_4
          exact ih4 (f) (d + 1) _ _ _ (by omega) (by omega) (by omega) (by omega) (by assumption) (by exact i4_4) (lv_sub hl [1, 2, 0] rfl)
        · refine lv_lload_n C.1 C.2.1 dX0_productForDivisors_15 rfl (lv_at hl 1 rfl) ?_
          refine lv_iload_n C.1 C.2.1 dX0_productForDivisors_16 rfl (lv_at hl 2 rfl) ?_
          refine z_call C (c_X0_timesAllOf l (x1) (x3) (by first | assumption | omega | rfl | exact decide_eq_false (by omega) | exact decide_eq_true (by assumption) | exact decide_eq_true (by omega) | exact one_shl33 (by omega) | exact pm_lt _ _ | exact rm_lt (by first | assumption | exact pm_lt _ _) | exact Nat.lt_of_le_of_lt (Nat.shiftRight_le _ _) (by assumption) | exact Nat.lt_of_le_of_lt Nat.and_le_right (by omega)) (by first | assumption | omega | rfl | exact decide_eq_false (by omega) | exact decide_eq_true (by assumption) | exact decide_eq_true (by omega) | exact one_shl33 (by omega) | exact pm_lt _ _ | exact rm_lt (by first | assumption | exact pm_lt _ _) | exact Nat.lt_of_le_of_lt (Nat.shiftRight_le _ _) (by assumption) | exact Nat.lt_of_le_of_lt Nat.and_le_right (by omega))) ml_X0_31 ⟨by decide, by decide⟩ ⟨Nat.le_refl _, Nat.le_refl _⟩ hl (Nat.le_of_ble_eq_true rfl) rfl dX0_productForDivisors_17 ?_
          have q17_0 := ta_ltE (x1) (x3).toNat (by first | assumption | omega)
          refine lv_lstore_n (lv' := [(1, .long (lN (ta (x1) (x3).toNat))), (0, .int (iZ (n))), (3, .int (iZ (x3)))]) C.1 C.2.1 dX0_productForDivisors_20 rfl hl (by decide) rfl (fun ls hl => ?_)
          refine z_iinc (j := 2) (lv' := [(3, .int (iZ (x3 + 1))), (1, .long (lN (ta (x1) (x3).toNat))), (0, .int (iZ (n)))]) C dX0_productForDivisors_21 hl rfl (by decide) rfl (fun ls hl => ?_)
          refine lv_goto (tgt := 4) C.1 C.2.1 dX0_productForDivisors_24 (by decide) ?_
          obtain ⟨f, rfl⟩ : ∃ g, f = g + 1 := ⟨f - 1, by omega⟩
          rw [i4_0] at h12
          rw [pdF_t h12] at i4_4
          have ed : x3.toNat = d := by omega
          exact ih4 (f) (d + 1) _ _ _ (by omega) (by omega) (by omega) (by omega) (by exact q17_0) (by rw [ed]; exact i4_4) (lv_sub hl [2, 1, 0] rfl)
  exact L4 _ (n.toNat) (1) _ _ _ (by exact Nat.lt_succ_self _) (by rfl) (by omega) (by omega) (by omega) (by rfl) (lv_sub hl [2, 1, 0] rfl)

set_option maxHeartbeats 4000000 in
set_option maxRecDepth 100000 in
theorem c_X0_signOf (l : Launch) (d : Int) (hd : 1 ≤ d ∧ d ≤ 8) : zP l yX0_signOf 0 20 [.int (iZ (d))] (.int (iZ (sg d))) := by
  refine zP.intro (lo := 0) (nA := 1) (own := RX0) zs_X0_signOf (by decide) rfl rfl (by decide +kernel) rfl (Nat.le_of_ble_eq_true rfl) ?_
  intro p e s m below meth c ls C hr hk hl
  have hl : lv_has ls 1 [(0, .int (iZ (d)))] := hl
  refine lv_iload_n C.1 C.2.1 dX0_signOf_0 rfl (lv_at hl 0 rfl) ?_
  by_cases hs : (d) = 1
  · refine z_tableIn (off := 43) (tgt := 44) C dX0_signOf_1 (by omega) (by omega) (by omega) (by rw [hs]; rfl) (by decide) ?_
    refine z_iconst C dX0_signOf_44 ?_
    exact z_iret C hr hk dX0_signOf_45 (congrArg (fun z : Int => Value.int (iZ z)) (by rw [hs]; rfl))
  · skip
    by_cases hs : (d) = 2
    · refine z_tableIn (off := 45) (tgt := 46) C dX0_signOf_1 (by omega) (by omega) (by omega) (by rw [hs]; rfl) (by decide) ?_
      refine z_iconst C dX0_signOf_46 ?_
      exact z_iret C hr hk dX0_signOf_47 (congrArg (fun z : Int => Value.int (iZ z)) (by rw [hs]; rfl))
    · skip
      by_cases hs : (d) = 3
      · refine z_tableIn (off := 45) (tgt := 46) C dX0_signOf_1 (by omega) (by omega) (by omega) (by rw [hs]; rfl) (by decide) ?_
        refine z_iconst C dX0_signOf_46 ?_
        exact z_iret C hr hk dX0_signOf_47 (congrArg (fun z : Int => Value.int (iZ z)) (by rw [hs]; rfl))
      · skip
        by_cases hs : (d) = 4
        · refine z_tableIn (off := 47) (tgt := 48) C dX0_signOf_1 (by omega) (by omega) (by omega) (by rw [hs]; rfl) (by decide) ?_
          refine z_iconst C dX0_signOf_48 ?_
          exact z_iret C hr hk dX0_signOf_49 (congrArg (fun z : Int => Value.int (iZ z)) (by rw [hs]; rfl))
        · skip
          by_cases hs : (d) = 5
          · refine z_tableIn (off := 45) (tgt := 46) C dX0_signOf_1 (by omega) (by omega) (by omega) (by rw [hs]; rfl) (by decide) ?_
            refine z_iconst C dX0_signOf_46 ?_
            exact z_iret C hr hk dX0_signOf_47 (congrArg (fun z : Int => Value.int (iZ z)) (by rw [hs]; rfl))
          · skip
            by_cases hs : (d) = 6
            · refine z_tableIn (off := 43) (tgt := 44) C dX0_signOf_1 (by omega) (by omega) (by omega) (by rw [hs]; rfl) (by decide) ?_
              refine z_iconst C dX0_signOf_44 ?_
              exact z_iret C hr hk dX0_signOf_45 (congrArg (fun z : Int => Value.int (iZ z)) (by rw [hs]; rfl))
            · skip
              by_cases hs : (d) = 7
              · refine z_tableIn (off := 45) (tgt := 46) C dX0_signOf_1 (by omega) (by omega) (by omega) (by rw [hs]; rfl) (by decide) ?_
                refine z_iconst C dX0_signOf_46 ?_
                exact z_iret C hr hk dX0_signOf_47 (congrArg (fun z : Int => Value.int (iZ z)) (by rw [hs]; rfl))
              · skip
                refine z_tableOut (tgt := 48) C dX0_signOf_1 (by omega) (by omega) (by decide) ?_
                refine z_iconst C dX0_signOf_48 ?_
                exact z_iret C hr hk dX0_signOf_49 (congrArg (fun z : Int => Value.int (iZ z)) (by rw [show d = 8 by omega]; rfl))

set_option maxHeartbeats 4000000 in
set_option maxRecDepth 100000 in
theorem c_X0_formulaFor (l : Launch) (n : Int) (hn : 1 ≤ n ∧ n ≤ 8) : zP l yX0_formulaFor 1 42 [.int (iZ (n))] (.int (iZ (fo n))) := by
  refine zP.intro (lo := 20) (nA := 1) (own := RX0) zs_X0_formulaFor (by decide) rfl rfl (by decide +kernel) rfl (Nat.le_of_ble_eq_true rfl) ?_
  intro p e s m below meth c ls C hr hk hl
  have hl : lv_has ls 3 [(0, .int (iZ (n)))] := hl
  refine z_iconst C dX0_formulaFor_0 ?_
  refine lv_istore_n (lv' := [(1, .int (iZ (0))), (0, .int (iZ (n)))]) C.1 C.2.1 dX0_formulaFor_1 rfl hl (by decide) rfl (fun ls hl => ?_)
  refine z_iconst C dX0_formulaFor_2 ?_
  refine lv_istore_n (lv' := [(2, .int (iZ (1))), (1, .int (iZ (0))), (0, .int (iZ (n)))]) C.1 C.2.1 dX0_formulaFor_3 rfl hl (by decide) rfl (fun ls hl => ?_)
  have L4 : ∀ (j : Nat) (d : Nat) (x1 : Int) (x2 : Int) (ls : Array Slot), 9 - d < j → (x2 = (d : Int) + 1) → (x2 ≤ n + 1) → (x1 = foF n d) → lv_has ls 3 [(0, .int (iZ (n))), (1, .int (iZ (x1))), (2, .int (iZ (x2)))] → W p l e { frames := 1, cells := 0, slots := 0, locals := 20 } s m ([.int (iZ (n))] : List Value).toArray below meth c s.heap [] 0 0 (zQ below [.int (iZ (n))] s (.int (iZ (fo n)))) (F0 m 4 ls []) := by
    intro j
    induction j with
    | zero => intro d x1 x2 ls hmu; exact absurd hmu (Nat.not_lt_zero _)
    | succ j ih4 =>
      intro d x1 x2 ls hmu i4_0 i4_1 i4_2 hl
      refine lv_iload_n C.1 C.2.1 dX0_formulaFor_4 rfl (lv_at hl 2 rfl) ?_
      refine lv_iload_n C.1 C.2.1 dX0_formulaFor_5 rfl (lv_at hl 0 rfl) ?_
      refine z_icmp_gt (tgt := 34) C (by omega) (by omega) dX0_formulaFor_6 (by decide) (fun h6 => ?_) (fun h6 => ?_)
      · refine lv_iload_n C.1 C.2.1 dX0_formulaFor_34 rfl (lv_at hl 0 rfl) ?_
        refine z_if_le (tgt := 44) C (by omega) dX0_formulaFor_35 (by decide) (fun h35 => ?_) (fun h35 => ?_)
        · exact absurd h35 (by omega)
        · refine lv_iload_n C.1 C.2.1 dX0_formulaFor_38 rfl (lv_at hl 1 rfl) ?_
          refine lv_iload_n C.1 C.2.1 dX0_formulaFor_39 rfl (lv_at hl 0 rfl) ?_
          refine z_idiv C (by rw [i4_2, show d = n.toNat by omega]; exact (fo_rngE n hn).1) (by omega) dX0_formulaFor_40 ?_
          refine lv_goto (tgt := 45) C.1 C.2.1 dX0_formulaFor_41 (by decide) ?_
          exact z_iret C hr hk dX0_formulaFor_45 (congrArg (fun z : Int => Value.int (iZ z)) (by rw [i4_2, show d = n.toNat by omega]; rfl))
      · refine lv_iload_n C.1 C.2.1 dX0_formulaFor_9 rfl (lv_at hl 0 rfl) ?_
        refine lv_iload_n C.1 C.2.1 dX0_formulaFor_10 rfl (lv_at hl 2 rfl) ?_
        refine z_irem C (by omega) (by omega) dX0_formulaFor_11 ?_
        refine z_if_ne (tgt := 28) C (by have := Int.emod_nonneg n (b := x2) (by omega); have := Int.emod_lt_of_pos n (b := x2) (by omega); omega) dX0_formulaFor_12 (by decide) (fun h12 => ?_) (fun h12 => ?_)
        · refine z_iinc (j := 2) (lv' := [(2, .int (iZ (x2 + 1))), (0, .int (iZ (n))), (1, .int (iZ (x1)))]) C dX0_formulaFor_28 hl rfl (by decide) rfl (fun ls hl => ?_)
          refine lv_goto (tgt := 4) C.1 C.2.1 dX0_formulaFor_31 (by decide) ?_
          have e2 : x2 = ((d + 1 : Nat) : Int) := by omega
          rw [e2] at h12
          exact ih4 (d + 1) _ _ _ (by omega) (by omega) (by omega) (by rw [foF, if_neg h12]; exact i4_2) (lv_sub hl [1, 2, 0] rfl)
        · refine lv_iload_n C.1 C.2.1 dX0_formulaFor_15 rfl (lv_at hl 1 rfl) ?_
          refine lv_iload_n C.1 C.2.1 dX0_formulaFor_16 rfl (lv_at hl 2 rfl) ?_
          refine z_call C (c_X0_signOf l (x2) (by first | assumption | omega | rfl | exact decide_eq_false (by omega) | exact decide_eq_true (by assumption) | exact decide_eq_true (by omega) | exact one_shl33 (by omega) | exact pm_lt _ _ | exact rm_lt (by first | assumption | exact pm_lt _ _) | exact Nat.lt_of_le_of_lt (Nat.shiftRight_le _ _) (by assumption) | exact Nat.lt_of_le_of_lt Nat.and_le_right (by omega))) ml_X0_63 ⟨by decide, by decide⟩ ⟨Nat.le_refl _, Nat.le_refl _⟩ hl (Nat.le_of_ble_eq_true rfl) rfl dX0_formulaFor_17 ?_
          have q17_0 := sg_rngE (x2)
          refine z_iconst C dX0_formulaFor_20 ?_
          refine lv_iload_n C.1 C.2.1 dX0_formulaFor_21 rfl (lv_at hl 0 rfl) ?_
          refine lv_iload_n C.1 C.2.1 dX0_formulaFor_22 rfl (lv_at hl 2 rfl) ?_
          refine z_idiv C (by omega) (by omega) dX0_formulaFor_23 ?_
          refine z_ishl1 C (((n) / (x2)).toNat) (by have h9 : n / x2 ≤ n := Int.ediv_le_self _ (by omega); have h8 : 0 ≤ n / x2 := Int.ediv_nonneg (by omega) (by omega); omega) (by have h9 : n / x2 ≤ n := Int.ediv_le_self _ (by omega); have h8 : 0 ≤ n / x2 := Int.ediv_nonneg (by omega) (by omega); omega) dX0_formulaFor_24 ?_
          refine z_imul C dX0_formulaFor_25 ?_
          refine z_iadd C dX0_formulaFor_26 ?_
          refine lv_istore_n (lv' := [(1, .int (iZ ((x1) + ((sg (x2)) * (((1 <<< ((n) / (x2)).toNat : Nat) : Int)))))), (0, .int (iZ (n))), (2, .int (iZ (x2)))]) C.1 C.2.1 dX0_formulaFor_27 rfl hl (by decide) rfl (fun ls hl => ?_)
          refine z_iinc (j := 2) (lv' := [(2, .int (iZ (x2 + 1))), (1, .int (iZ ((x1) + ((sg (x2)) * (((1 <<< ((n) / (x2)).toNat : Nat) : Int)))))), (0, .int (iZ (n)))]) C dX0_formulaFor_28 hl rfl (by decide) rfl (fun ls hl => ?_)
          refine lv_goto (tgt := 4) C.1 C.2.1 dX0_formulaFor_31 (by decide) ?_
          have e2 : x2 = ((d + 1 : Nat) : Int) := by omega
          rw [e2] at h12
          exact ih4 (d + 1) _ _ _ (by omega) (by omega) (by omega) (by rw [foF, if_pos h12, i4_2, e2]) (lv_sub hl [2, 1, 0] rfl)
  exact L4 _ (0) _ _ _ (by exact Nat.lt_succ_self _) (by rfl) (by omega) (by rfl) (lv_sub hl [2, 1, 0] rfl)

set_option maxHeartbeats 4000000 in
set_option maxRecDepth 100000 in
theorem c_X0_periodOf (l : Launch) (m0 : Nat) (hm0 : m0 < 512) (hm1 : ¬ m0 = 0) : zP l yX0_periodOf 3 99 [.long (lN (m0))] (.int (iZ (pe m0))) := by
  refine zP.intro (lo := 75) (nA := 1) (own := RX0) zs_X0_periodOf (by decide) rfl rfl (by decide +kernel) rfl (Nat.le_of_ble_eq_true rfl) ?_
  intro p e s m below meth c ls C hr hk hl
  have hl : lv_has ls 5 [(0, .long (lN (m0)))] := hl
  have hb : m0 < 18446744073709551616 := by omega
  have ht := tp_rng hb
  have h9 : tp m0 ≤ 8 := (tp_le (k := 8)).mpr (by omega)
  refine z_lconst (k0 := 1) C dX0_periodOf_0 rfl ?_
  refine lv_lstore_n (lv' := [(2, .long (lN (1))), (0, .long (lN (m0)))]) C.1 C.2.1 dX0_periodOf_1 rfl hl (by decide) rfl (fun ls hl => ?_)
  refine z_iconst C dX0_periodOf_2 ?_
  refine lv_istore (lv' := [(4, .int (iZ (1))), (2, .long (lN (1))), (0, .long (lN (m0)))]) C.1 C.2.1 dX0_periodOf_3 hl (by decide) rfl (fun ls hl => ?_)
  have L5 : ∀ (j : Nat) (f : Nat) (x2 : Nat) (x4 : Int) (ls : Array Slot), f < j → (x4 + (f : Int) = 256) → (1 ≤ x4) → (x2 < 512) → (peF m0 f x4 x2 = pe m0) → lv_has ls 5 [(0, .long (lN (m0))), (2, .long (lN (x2))), (4, .int (iZ (x4)))] → W p l e { frames := 3, cells := 0, slots := 0, locals := 75 } s m ([.long (lN (m0))] : List Value).toArray below meth c s.heap [] 0 0 (zQ below [.long (lN (m0))] s (.int (iZ (pe m0)))) (F0 m 5 ls []) := by
    intro j
    induction j with
    | zero => intro f x2 x4 ls hmu; exact absurd hmu (Nat.not_lt_zero _)
    | succ j ih5 =>
      intro f x2 x4 ls hmu i5_0 i5_1 i5_2 i5_3 hl
      have hx2 : x2 <<< 1 < 18446744073709551616 := shl1_lt (by omega)
      have hr2 := rm_tp (a := x2 <<< 1) hx2 hb hm1
      have hr3 : rm (x2 <<< 1) m0 < 512 := (tp_lt (k := 9)).mp (by omega)
      refine lv_iload C.1 C.2.1 dX0_periodOf_5 (lv_at hl 2 rfl) ?_
      refine z_sipush C dX0_periodOf_7 (by decide) ?_
      refine z_icmp_gt (tgt := 36) C (by omega) (by omega) dX0_periodOf_10 (by decide) (fun h10 => ?_) (fun h10 => ?_)
      · refine z_iconst C dX0_periodOf_36 ?_
        exact z_iret C hr hk dX0_periodOf_37 (congrArg (fun z : Int => Value.int (iZ z)) (by rw [show f = 0 by omega] at i5_3; exact i5_3))
      · refine lv_lload_n C.1 C.2.1 dX0_periodOf_13 rfl (lv_at hl 1 rfl) ?_
        refine z_iconst C dX0_periodOf_14 ?_
        refine z_lshl C (1) (by omega) (by omega) dX0_periodOf_15 ?_
        refine lv_lload_n C.1 C.2.1 dX0_periodOf_16 rfl (lv_at hl 0 rfl) ?_
        refine z_call C (c_X1_restOf l ((x2) <<< (1)) (m0) (by exact hx2) (by exact hb)) ml_X0_60 ⟨by decide, by decide⟩ ⟨Nat.le_refl _, Nat.le_refl _⟩ hl (Nat.le_of_ble_eq_true rfl) rfl dX0_periodOf_17 ?_
        refine lv_lstore_n (lv' := [(2, .long (lN (rm ((x2) <<< (1)) (m0)))), (0, .long (lN (m0))), (4, .int (iZ (x4)))]) C.1 C.2.1 dX0_periodOf_20 rfl hl (by decide) rfl (fun ls hl => ?_)
        refine lv_lload_n C.1 C.2.1 dX0_periodOf_21 rfl (lv_at hl 0 rfl) ?_
        refine z_lconst (k0 := 1) C dX0_periodOf_22 rfl ?_
        refine z_lc_ne (tgt := 30) C (by have := hr3; show rm (x2 <<< 1) m0 < _; omega) (by omega) dX0_periodOf_23 dX0_periodOf_24 (by decide) (fun h23 => ?_) (fun h23 => ?_)
        · refine z_iinc (j := 2) (lv' := [(4, .int (iZ (x4 + 1))), (2, .long (lN (rm ((x2) <<< (1)) (m0)))), (0, .long (lN (m0)))]) C dX0_periodOf_30 hl rfl (by decide) rfl (fun ls hl => ?_)
          refine lv_goto (tgt := 5) C.1 C.2.1 dX0_periodOf_33 (by decide) ?_
          obtain ⟨f, rfl⟩ : ∃ g, f = g + 1 := ⟨f - 1, by omega⟩
          rw [peF_f h23] at i5_3
          exact ih5 (f) _ _ _ (by omega) (by omega) (by omega) (by exact hr3) (by exact i5_3) (lv_sub hl [2, 1, 0] rfl)
        · refine lv_iload C.1 C.2.1 dX0_periodOf_27 (lv_at hl 2 rfl) ?_
          exact z_iret C hr hk dX0_periodOf_29 (congrArg (fun z : Int => Value.int (iZ z)) (by obtain ⟨f, rfl⟩ : ∃ g, f = g + 1 := ⟨f - 1, by omega⟩; rw [peF_t h23] at i5_3; exact i5_3))
  exact L5 _ (255) _ _ _ (by exact Nat.lt_succ_self _) (by omega) (by omega) (by omega) (by rfl) (lv_sub hl [2, 1, 0] rfl)
set_option maxHeartbeats 4000000 in
set_option maxRecDepth 100000 in
theorem c_X5_isIn (l : Launch) (v : Int) (a : Int) (b : Int) (hv : -2147483648 ≤ v ∧ v ≤ 2147483647) (ha : -2147483648 ≤ a ∧ a ≤ 2147483647) (hb : -2147483648 ≤ b ∧ b ≤ 2147483647) : zP l yX5_isIn 0 22 [.int (iZ (v)), .int (iZ (a)), .int (iZ (b))] (.int (iZ (zB (decide (a ≤ v ∧ v ≤ b))))) := by
  refine zP.intro (lo := 0) (nA := 3) (own := RX5) zs_X5_isIn (by decide) rfl rfl (by decide +kernel) rfl (Nat.le_of_ble_eq_true rfl) ?_
  intro p e s m below meth c ls C hr hk hl
  have hl : lv_has ls 3 [(0, .int (iZ (v))), (1, .int (iZ (a))), (2, .int (iZ (b)))] := hl
  refine lv_iload_n C.1 C.2.1 dX5_isIn_0 rfl (lv_at hl 0 rfl) ?_
  refine lv_iload_n C.1 C.2.1 dX5_isIn_1 rfl (lv_at hl 1 rfl) ?_
  refine z_icmp_lt (tgt := 14) C (by omega) (by omega) dX5_isIn_2 (by decide) (fun h2 => ?_) (fun h2 => ?_)
  · refine z_iconst C dX5_isIn_14 ?_
    exact z_zret C hr hk dX5_isIn_15 (by decide) (congrArg (fun z : Int => Value.int (iZ z)) (by exact zB_f (decide_eq_false (by omega))))
  · refine lv_iload_n C.1 C.2.1 dX5_isIn_5 rfl (lv_at hl 0 rfl) ?_
    refine lv_iload_n C.1 C.2.1 dX5_isIn_6 rfl (lv_at hl 2 rfl) ?_
    refine z_icmp_gt (tgt := 14) C (by omega) (by omega) dX5_isIn_7 (by decide) (fun h7 => ?_) (fun h7 => ?_)
    · refine z_iconst C dX5_isIn_14 ?_
      exact z_zret C hr hk dX5_isIn_15 (by decide) (congrArg (fun z : Int => Value.int (iZ z)) (by exact zB_f (decide_eq_false (by omega))))
    · refine z_iconst C dX5_isIn_10 ?_
      refine lv_goto (tgt := 15) C.1 C.2.1 dX5_isIn_11 (by decide) ?_
      exact z_zret C hr hk dX5_isIn_15 (by decide) (congrArg (fun z : Int => Value.int (iZ z)) (by exact zB_t (decide_eq_true (by omega))))

set_option maxHeartbeats 4000000 in
set_option maxRecDepth 100000 in
theorem c_X5_one (l : Launch) (b : Bool) : zP l yX5_one 0 20 [.int (iZ (zB (b)))] (.int (iZ (zB b))) := by
  refine zP.intro (lo := 0) (nA := 1) (own := RX5) zs_X5_one (by decide) rfl rfl (by decide +kernel) rfl (Nat.le_of_ble_eq_true rfl) ?_
  intro p e s m below meth c ls C hr hk hl
  have hl : lv_has ls 1 [(0, .int (iZ (zB (b))))] := hl
  refine lv_iload_n C.1 C.2.1 dX5_one_0 rfl (lv_at hl 0 rfl) ?_
  refine z_ifB_eq (tgt := 8) C dX5_one_1 (by decide) (fun h1 => ?_) (fun h1 => ?_)
  · refine z_iconst C dX5_one_8 ?_
    exact z_iret C hr hk dX5_one_9 (congrArg (fun z : Int => Value.int (iZ z)) (by exact zB_f h1))
  · refine z_iconst C dX5_one_4 ?_
    refine lv_goto (tgt := 9) C.1 C.2.1 dX5_one_5 (by decide) ?_
    exact z_iret C hr hk dX5_one_9 (congrArg (fun z : Int => Value.int (iZ z)) (by exact zB_t h1))

set_option maxHeartbeats 4000000 in
set_option maxRecDepth 100000 in
theorem c_X5_isNo (l : Launch) (v : Int) (hv : -2147483648 ≤ v ∧ v ≤ 2147483647) : zP l yX5_isNo 1 42 [.int (iZ (v))] (.int (iZ (zB (decide (¬ (0 ≤ v ∧ v ≤ 5)))))) := by
  refine zP.intro (lo := 22) (nA := 1) (own := RX5) zs_X5_isNo (by decide) rfl rfl (by decide +kernel) rfl (Nat.le_of_ble_eq_true rfl) ?_
  intro p e s m below meth c ls C hr hk hl
  have hl : lv_has ls 1 [(0, .int (iZ (v)))] := hl
  refine lv_iload_n C.1 C.2.1 dX5_isNo_0 rfl (lv_at hl 0 rfl) ?_
  refine z_iconst C dX5_isNo_1 ?_
  refine z_iconst C dX5_isNo_2 ?_
  refine z_call C (c_X5_isIn l (v) (0 : Int) (5 : Int) (by first | assumption | omega | rfl | exact decide_eq_false (by omega) | exact decide_eq_true (by assumption) | exact decide_eq_true (by omega) | exact one_shl33 (by omega) | exact pm_lt _ _ | exact rm_lt (by first | assumption | exact pm_lt _ _) | exact Nat.lt_of_le_of_lt (Nat.shiftRight_le _ _) (by assumption) | exact Nat.lt_of_le_of_lt Nat.and_le_right (by omega)) (by first | assumption | omega | rfl | exact decide_eq_false (by omega) | exact decide_eq_true (by assumption) | exact decide_eq_true (by omega) | exact one_shl33 (by omega) | exact pm_lt _ _ | exact rm_lt (by first | assumption | exact pm_lt _ _) | exact Nat.lt_of_le_of_lt (Nat.shiftRight_le _ _) (by assumption) | exact Nat.lt_of_le_of_lt Nat.and_le_right (by omega)) (by first | assumption | omega | rfl | exact decide_eq_false (by omega) | exact decide_eq_true (by assumption) | exact decide_eq_true (by omega) | exact one_shl33 (by omega) | exact pm_lt _ _ | exact rm_lt (by first | assumption | exact pm_lt _ _) | exact Nat.lt_of_le_of_lt (Nat.shiftRight_le _ _) (by assumption) | exact Nat.lt_of_le_of_lt Nat.and_le_right (by omega))) ml_X5_21 ⟨by decide, by decide⟩ ⟨Nat.le_refl _, Nat.le_refl _⟩ hl (Nat.le_of_ble_eq_true rfl) rfl dX5_isNo_3 ?_
  refine z_ifB_ne (tgt := 13) C dX5_isNo_6 (by decide) (fun h6 => ?_) (fun h6 => ?_)
  · refine z_iconst C dX5_isNo_13 ?_
    exact z_zret C hr hk dX5_isNo_14 (by decide) (congrArg (fun z : Int => Value.int (iZ z)) (by exact zB_f (decide_eq_false (not_not_intro (of_decide_eq_true h6)))))
  · refine z_iconst C dX5_isNo_9 ?_
    refine lv_goto (tgt := 14) C.1 C.2.1 dX5_isNo_10 (by decide) ?_
    exact z_zret C hr hk dX5_isNo_14 (by decide) (congrArg (fun z : Int => Value.int (iZ z)) (by exact zB_t (decide_eq_true (of_decide_eq_false h6))))

set_option maxHeartbeats 4000000 in
set_option maxRecDepth 100000 in
theorem c_X5_degreeOf (l : Launch) (n : Nat) (hn : n < 18446744073709551616) : zP l yX5_degreeOf 0 24 [.long (lN (n))] (.int (iZ (tp n))) := by
  refine zP.intro (lo := 0) (nA := 1) (own := RX5) zs_X5_degreeOf (by decide) rfl rfl (by decide +kernel) rfl (Nat.le_of_ble_eq_true rfl) ?_
  intro p e s m below meth c ls C hr hk hl
  have hl : lv_has ls 5 [(0, .long (lN (n)))] := hl
  refine z_iconst C dX5_degreeOf_0 ?_
  refine lv_istore_n (lv' := [(2, .int (iZ (-1))), (0, .long (lN (n)))]) C.1 C.2.1 dX5_degreeOf_1 rfl hl (by decide) rfl (fun ls hl => ?_)
  refine lv_lload_n C.1 C.2.1 dX5_degreeOf_2 rfl (lv_at hl 1 rfl) ?_
  refine lv_lstore_n (lv' := [(3, .long (lN (n))), (2, .int (iZ (-1))), (0, .long (lN (n)))]) C.1 C.2.1 dX5_degreeOf_3 rfl hl (by decide) rfl (fun ls hl => ?_)
  have L4 : ∀ (j : Nat) (k : Nat) (x2 : Int) (x3 : Nat) (ls : Array Slot), 65 - k < j → (x3 = n >>> k) → (x2 = (k : Int) - 1) → ((k : Int) ≤ tp n + 1) → lv_has ls 5 [(0, .long (lN (n))), (2, .int (iZ (x2))), (3, .long (lN (x3)))] → W p l e { frames := 0, cells := 0, slots := 0, locals := 0 } s m ([.long (lN (n))] : List Value).toArray below meth c s.heap [] 0 0 (zQ below [.long (lN (n))] s (.int (iZ (tp n)))) (F0 m 4 ls []) := by
    intro j
    induction j with
    | zero => intro k x2 x3 ls hmu; exact absurd hmu (Nat.not_lt_zero _)
    | succ j ih4 =>
      intro k x2 x3 ls hmu i4_0 i4_1 i4_2 hl
      have hx : x3 < 18446744073709551616 := by rw [i4_0]; exact Nat.lt_of_le_of_lt (Nat.shiftRight_le _ _) hn
      have hr9 := tp_rng hn
      refine lv_lload_n C.1 C.2.1 dX5_degreeOf_4 rfl (lv_at hl 2 rfl) ?_
      refine z_lconst (k0 := 0) C dX5_degreeOf_5 rfl ?_
      refine z_lc_eq (tgt := 20) C (by first | assumption | omega | rfl | exact decide_eq_false (by omega) | exact decide_eq_true (by assumption) | exact decide_eq_true (by omega) | exact one_shl33 (by omega) | exact pm_lt _ _ | exact rm_lt (by first | assumption | exact pm_lt _ _) | exact Nat.lt_of_le_of_lt (Nat.shiftRight_le _ _) (by assumption) | exact Nat.lt_of_le_of_lt Nat.and_le_right (by omega)) (by first | assumption | omega | rfl | exact decide_eq_false (by omega) | exact decide_eq_true (by assumption) | exact decide_eq_true (by omega) | exact one_shl33 (by omega) | exact pm_lt _ _ | exact rm_lt (by first | assumption | exact pm_lt _ _) | exact Nat.lt_of_le_of_lt (Nat.shiftRight_le _ _) (by assumption) | exact Nat.lt_of_le_of_lt Nat.and_le_right (by omega)) dX5_degreeOf_6 dX5_degreeOf_7 (by decide) (fun h6 => ?_) (fun h6 => ?_)
      · refine lv_iload_n C.1 C.2.1 dX5_degreeOf_20 rfl (lv_at hl 1 rfl) ?_
        exact z_iret C hr hk dX5_degreeOf_21 (congrArg (fun z : Int => Value.int (iZ z)) (by rw [i4_0] at h6; have := tp_shr.mp h6; omega))
      · refine z_iinc (j := 1) (lv' := [(2, .int (iZ (x2 + 1))), (0, .long (lN (n))), (3, .long (lN (x3)))]) C dX5_degreeOf_10 hl rfl (by decide) rfl (fun ls hl => ?_)
        refine lv_lload_n C.1 C.2.1 dX5_degreeOf_13 rfl (lv_at hl 2 rfl) ?_
        refine z_iconst C dX5_degreeOf_14 ?_
        refine z_lushr C (1) (by first | assumption | omega | rfl | exact decide_eq_false (by omega) | exact decide_eq_true (by assumption) | exact decide_eq_true (by omega) | exact one_shl33 (by omega) | exact pm_lt _ _ | exact rm_lt (by first | assumption | exact pm_lt _ _) | exact Nat.lt_of_le_of_lt (Nat.shiftRight_le _ _) (by assumption) | exact Nat.lt_of_le_of_lt Nat.and_le_right (by omega)) (by omega) (by omega) dX5_degreeOf_15 ?_
        refine lv_lstore_n (lv' := [(3, .long (lN ((x3) >>> (1)))), (2, .int (iZ (x2 + 1))), (0, .long (lN (n)))]) C.1 C.2.1 dX5_degreeOf_16 rfl hl (by decide) rfl (fun ls hl => ?_)
        refine lv_goto (tgt := 4) C.1 C.2.1 dX5_degreeOf_17 (by decide) ?_
        have h9 : ¬ n >>> k = 0 := (by rw [← i4_0]; exact h6)
        have := mt tp_shr.mpr h9
        exact ih4 (k + 1) _ _ _ (by omega) (by rw [i4_0, Nat.shiftRight_add]) (by omega) (by omega) (lv_sub hl [2, 1, 0] rfl)
  have hr9 := tp_rng hn
  exact L4 _ (0) _ _ _ (by exact Nat.lt_succ_self _) (by rfl) (by rfl) (by omega) (lv_sub hl [2, 1, 0] rfl)

set_option maxHeartbeats 4000000 in
set_option maxRecDepth 100000 in
theorem c_X5_has (l : Launch) (n : Nat) (z : Int) (hn : n < 18446744073709551616) (hz : 0 ≤ z ∧ z ≤ 2147483647) : zP l yX5_has 0 22 [.long (lN (n)), .int (iZ (z))] (.int (iZ (zB (tb n z)))) := by
  refine zP.intro (lo := 0) (nA := 2) (own := RX5) zs_X5_has (by decide) rfl rfl (by decide +kernel) rfl (Nat.le_of_ble_eq_true rfl) ?_
  intro p e s m below meth c ls C hr hk hl
  have hl : lv_has ls 3 [(0, .long (lN (n))), (2, .int (iZ (z)))] := hl
  refine lv_iload_n C.1 C.2.1 dX5_has_0 rfl (lv_at hl 1 rfl) ?_
  refine z_bipush C dX5_has_1 (by decide) ?_
  refine z_icmp_ge (tgt := 20) C (by omega) (by omega) dX5_has_3 (by decide) (fun h3 => ?_) (fun h3 => ?_)
  · refine z_iconst C dX5_has_20 ?_
    exact z_zret C hr hk dX5_has_21 (by decide) (congrArg (fun z : Int => Value.int (iZ z)) (by exact zB_f (tb_ge h3)))
  · refine lv_lload_n C.1 C.2.1 dX5_has_6 rfl (lv_at hl 0 rfl) ?_
    refine lv_iload_n C.1 C.2.1 dX5_has_7 rfl (lv_at hl 1 rfl) ?_
    refine z_lushr C ((z).toNat) (by first | assumption | omega | rfl | exact decide_eq_false (by omega) | exact decide_eq_true (by assumption) | exact decide_eq_true (by omega) | exact one_shl33 (by omega) | exact pm_lt _ _ | exact rm_lt (by first | assumption | exact pm_lt _ _) | exact Nat.lt_of_le_of_lt (Nat.shiftRight_le _ _) (by assumption) | exact Nat.lt_of_le_of_lt Nat.and_le_right (by omega)) (by omega) (by omega) dX5_has_8 ?_
    refine z_lconst (k0 := 1) C dX5_has_9 rfl ?_
    refine z_land C dX5_has_10 ?_
    refine z_lconst (k0 := 1) C dX5_has_11 rfl ?_
    refine z_lc_ne (tgt := 20) C (by first | assumption | omega | rfl | exact decide_eq_false (by omega) | exact decide_eq_true (by assumption) | exact decide_eq_true (by omega) | exact one_shl33 (by omega) | exact pm_lt _ _ | exact rm_lt (by first | assumption | exact pm_lt _ _) | exact Nat.lt_of_le_of_lt (Nat.shiftRight_le _ _) (by assumption) | exact Nat.lt_of_le_of_lt Nat.and_le_right (by omega)) (by first | assumption | omega | rfl | exact decide_eq_false (by omega) | exact decide_eq_true (by assumption) | exact decide_eq_true (by omega) | exact one_shl33 (by omega) | exact pm_lt _ _ | exact rm_lt (by first | assumption | exact pm_lt _ _) | exact Nat.lt_of_le_of_lt (Nat.shiftRight_le _ _) (by assumption) | exact Nat.lt_of_le_of_lt Nat.and_le_right (by omega)) dX5_has_12 dX5_has_13 (by decide) (fun h12 => ?_) (fun h12 => ?_)
    · refine z_iconst C dX5_has_20 ?_
      exact z_zret C hr hk dX5_has_21 (by decide) (congrArg (fun z : Int => Value.int (iZ z)) (by exact zB_f (by rw [tb_in (by omega) (by omega)]; exact (bit_and0 _ _).mp h12)))
    · refine z_iconst C dX5_has_16 ?_
      refine lv_goto (tgt := 21) C.1 C.2.1 dX5_has_17 (by decide) ?_
      exact z_zret C hr hk dX5_has_21 (by decide) (congrArg (fun z : Int => Value.int (iZ z)) (by exact zB_t (by rw [tb_in (by omega) (by omega)]; exact (bit_and _ _).mp h12)))

set_option maxHeartbeats 4000000 in
set_option maxRecDepth 100000 in
theorem c_X5_lowOf (l : Launch) (n : Nat) (hn : n < 18446744073709551616) : zP l yX5_lowOf 1 44 [.long (lN (n))] (.int (iZ (bpF n 33 0))) := by
  refine zP.intro (lo := 22) (nA := 1) (own := RX5) zs_X5_lowOf (by decide) rfl rfl (by decide +kernel) rfl (Nat.le_of_ble_eq_true rfl) ?_
  intro p e s m below meth c ls C hr hk hl
  have hl : lv_has ls 3 [(0, .long (lN (n)))] := hl
  refine z_iconst C dX5_lowOf_0 ?_
  refine lv_istore_n (lv' := [(2, .int (iZ (0))), (0, .long (lN (n)))]) C.1 C.2.1 dX5_lowOf_1 rfl hl (by decide) rfl (fun ls hl => ?_)
  have L2 : ∀ (j : Nat) (k : Nat) (f : Nat) (x2 : Int) (ls : Array Slot), 33 - k < j → (x2 = (k : Int)) → (f + k = 33) → (bpF n f k = bpF n 33 0) → lv_has ls 3 [(0, .long (lN (n))), (2, .int (iZ (x2)))] → W p l e { frames := 1, cells := 0, slots := 0, locals := 22 } s m ([.long (lN (n))] : List Value).toArray below meth c s.heap [] 0 0 (zQ below [.long (lN (n))] s (.int (iZ (bpF n 33 0)))) (F0 m 2 ls []) := by
    intro j
    induction j with
    | zero => intro k f x2 ls hmu; exact absurd hmu (Nat.not_lt_zero _)
    | succ j ih2 =>
      intro k f x2 ls hmu i2_0 i2_1 i2_2 hl
      refine lv_iload_n C.1 C.2.1 dX5_lowOf_2 rfl (lv_at hl 1 rfl) ?_
      refine z_bipush C dX5_lowOf_3 (by decide) ?_
      refine z_icmp_gt (tgt := 24) C (by omega) (by omega) dX5_lowOf_5 (by decide) (fun h5 => ?_) (fun h5 => ?_)
      · refine z_iconst C dX5_lowOf_24 ?_
        exact z_iret C hr hk dX5_lowOf_25 (congrArg (fun z : Int => Value.int (iZ z)) (by obtain rfl : f = 0 := (by omega); exact i2_2))
      · refine lv_lload_n C.1 C.2.1 dX5_lowOf_8 rfl (lv_at hl 0 rfl) ?_
        refine lv_iload_n C.1 C.2.1 dX5_lowOf_9 rfl (lv_at hl 1 rfl) ?_
        refine z_call C (c_X5_has l (n) (x2) (by first | assumption | omega | rfl | exact decide_eq_false (by omega) | exact decide_eq_true (by assumption) | exact decide_eq_true (by omega) | exact one_shl33 (by omega) | exact pm_lt _ _ | exact rm_lt (by first | assumption | exact pm_lt _ _) | exact Nat.lt_of_le_of_lt (Nat.shiftRight_le _ _) (by assumption) | exact Nat.lt_of_le_of_lt Nat.and_le_right (by omega)) (by first | assumption | omega | rfl | exact decide_eq_false (by omega) | exact decide_eq_true (by assumption) | exact decide_eq_true (by omega) | exact one_shl33 (by omega) | exact pm_lt _ _ | exact rm_lt (by first | assumption | exact pm_lt _ _) | exact Nat.lt_of_le_of_lt (Nat.shiftRight_le _ _) (by assumption) | exact Nat.lt_of_le_of_lt Nat.and_le_right (by omega))) ml_X5_25 ⟨by decide, by decide⟩ ⟨Nat.le_refl _, Nat.le_refl _⟩ hl (Nat.le_of_ble_eq_true rfl) rfl dX5_lowOf_10 ?_
        refine z_ifB_eq (tgt := 18) C dX5_lowOf_13 (by decide) (fun h13 => ?_) (fun h13 => ?_)
        · refine z_iinc (j := 1) (lv' := [(2, .int (iZ (x2 + 1))), (0, .long (lN (n)))]) C dX5_lowOf_18 hl rfl (by decide) rfl (fun ls hl => ?_)
          refine lv_goto (tgt := 2) C.1 C.2.1 dX5_lowOf_21 (by decide) ?_
          rw [tb_k i2_0 (by omega)] at h13
          obtain ⟨f, rfl⟩ : ∃ g, f = g + 1 := ⟨f - 1, by omega⟩
          rw [bpF_f h13] at i2_2
          exact ih2 (k + 1) (f) _ _ (by omega) (by omega) (by omega) (by exact i2_2) (lv_sub hl [1, 0] rfl)
        · refine lv_iload_n C.1 C.2.1 dX5_lowOf_16 rfl (lv_at hl 1 rfl) ?_
          exact z_iret C hr hk dX5_lowOf_17 (congrArg (fun z : Int => Value.int (iZ z)) (by rw [tb_k i2_0 (by omega)] at h13; obtain ⟨f, rfl⟩ : ∃ g, f = g + 1 := ⟨f - 1, by omega⟩; rw [bpF_t h13] at i2_2; omega))
  exact L2 _ (0) (33) _ _ (by exact Nat.lt_succ_self _) (by rfl) (by rfl) (by rfl) (lv_sub hl [1, 0] rfl)

set_option maxHeartbeats 4000000 in
set_option maxRecDepth 100000 in
theorem c_X5_weightOf (l : Launch) (n : Nat) (hn : n < 18446744073709551616) : zP l yX5_weightOf 1 45 [.long (lN (n))] (.int (iZ (wt n 33))) := by
  refine zP.intro (lo := 22) (nA := 1) (own := RX5) zs_X5_weightOf (by decide) rfl rfl (by decide +kernel) rfl (Nat.le_of_ble_eq_true rfl) ?_
  intro p e s m below meth c ls C hr hk hl
  have hl : lv_has ls 4 [(0, .long (lN (n)))] := hl
  refine z_iconst C dX5_weightOf_0 ?_
  refine lv_istore_n (lv' := [(2, .int (iZ (0))), (0, .long (lN (n)))]) C.1 C.2.1 dX5_weightOf_1 rfl hl (by decide) rfl (fun ls hl => ?_)
  refine z_iconst C dX5_weightOf_2 ?_
  refine lv_istore_n (lv' := [(3, .int (iZ (0))), (2, .int (iZ (0))), (0, .long (lN (n)))]) C.1 C.2.1 dX5_weightOf_3 rfl hl (by decide) rfl (fun ls hl => ?_)
  have L4 : ∀ (j : Nat) (k : Nat) (x2 : Int) (x3 : Int) (ls : Array Slot), 33 - k < j → (x3 = (k : Int)) → (k ≤ 33) → (x2 = wt n k) → lv_has ls 4 [(0, .long (lN (n))), (2, .int (iZ (x2))), (3, .int (iZ (x3)))] → W p l e { frames := 1, cells := 0, slots := 0, locals := 22 } s m ([.long (lN (n))] : List Value).toArray below meth c s.heap [] 0 0 (zQ below [.long (lN (n))] s (.int (iZ (wt n 33)))) (F0 m 4 ls []) := by
    intro j
    induction j with
    | zero => intro k x2 x3 ls hmu; exact absurd hmu (Nat.not_lt_zero _)
    | succ j ih4 =>
      intro k x2 x3 ls hmu i4_0 i4_1 i4_2 hl
      refine lv_iload_n C.1 C.2.1 dX5_weightOf_4 rfl (lv_at hl 2 rfl) ?_
      refine z_bipush C dX5_weightOf_5 (by decide) ?_
      refine z_icmp_gt (tgt := 27) C (by omega) (by omega) dX5_weightOf_7 (by decide) (fun h7 => ?_) (fun h7 => ?_)
      · refine lv_iload_n C.1 C.2.1 dX5_weightOf_27 rfl (lv_at hl 1 rfl) ?_
        exact z_iret C hr hk dX5_weightOf_28 (congrArg (fun z : Int => Value.int (iZ z)) (by rw [i4_2, show k = 33 by omega]))
      · refine lv_iload_n C.1 C.2.1 dX5_weightOf_10 rfl (lv_at hl 1 rfl) ?_
        refine lv_lload_n C.1 C.2.1 dX5_weightOf_11 rfl (lv_at hl 0 rfl) ?_
        refine lv_iload_n C.1 C.2.1 dX5_weightOf_12 rfl (lv_at hl 2 rfl) ?_
        refine z_call C (c_X5_has l (n) (x3) (by first | assumption | omega | rfl | exact decide_eq_false (by omega) | exact decide_eq_true (by assumption) | exact decide_eq_true (by omega) | exact one_shl33 (by omega) | exact pm_lt _ _ | exact rm_lt (by first | assumption | exact pm_lt _ _) | exact Nat.lt_of_le_of_lt (Nat.shiftRight_le _ _) (by assumption) | exact Nat.lt_of_le_of_lt Nat.and_le_right (by omega)) (by first | assumption | omega | rfl | exact decide_eq_false (by omega) | exact decide_eq_true (by assumption) | exact decide_eq_true (by omega) | exact one_shl33 (by omega) | exact pm_lt _ _ | exact rm_lt (by first | assumption | exact pm_lt _ _) | exact Nat.lt_of_le_of_lt (Nat.shiftRight_le _ _) (by assumption) | exact Nat.lt_of_le_of_lt Nat.and_le_right (by omega))) ml_X5_25 ⟨by decide, by decide⟩ ⟨Nat.le_refl _, Nat.le_refl _⟩ hl (Nat.le_of_ble_eq_true rfl) rfl dX5_weightOf_13 ?_
        refine z_call C (c_X5_one l (tb (n) (x3)) ) ml_X5_29 ⟨by decide, by decide⟩ ⟨Nat.le_refl _, Nat.le_refl _⟩ hl (Nat.le_of_ble_eq_true rfl) rfl dX5_weightOf_16 ?_
        have q16_0 := zB_rng (tb (n) (x3))
        refine z_iadd C dX5_weightOf_19 ?_
        refine lv_istore_n (lv' := [(2, .int (iZ ((x2) + (zB (tb (n) (x3)))))), (0, .long (lN (n))), (3, .int (iZ (x3)))]) C.1 C.2.1 dX5_weightOf_20 rfl hl (by decide) rfl (fun ls hl => ?_)
        refine z_iinc (j := 2) (lv' := [(3, .int (iZ (x3 + 1))), (2, .int (iZ ((x2) + (zB (tb (n) (x3)))))), (0, .long (lN (n)))]) C dX5_weightOf_21 hl rfl (by decide) rfl (fun ls hl => ?_)
        refine lv_goto (tgt := 4) C.1 C.2.1 dX5_weightOf_24 (by decide) ?_
        exact ih4 (k + 1) _ _ _ (by omega) (by omega) (by omega) (by rw [wt, i4_2, tb_k i4_0 (by omega)]) (lv_sub hl [2, 1, 0] rfl)
  exact L4 _ (0) _ _ _ (by exact Nat.lt_succ_self _) (by rfl) (by omega) (by rfl) (lv_sub hl [2, 1, 0] rfl)

set_option maxHeartbeats 4000000 in
set_option maxRecDepth 100000 in
theorem c_X5_product (l : Launch) (a : Nat) (b : Nat) (hb : b < 18446744073709551616) : zP l yX5_product 1 51 [.long (lN (a)), .long (lN (b))] (.long (lN (pm a b))) := by
  refine zP.intro (lo := 22) (nA := 2) (own := RX5) zs_X5_product (by decide) rfl rfl (by decide +kernel) rfl (Nat.le_of_ble_eq_true rfl) ?_
  intro p e s m below meth c ls C hr hk hl
  have hl : lv_has ls 10 [(0, .long (lN (a))), (2, .long (lN (b)))] := hl
  refine z_lconst (k0 := 0) C dX5_product_0 rfl ?_
  refine lv_lstore (lv' := [(4, .long (lN (0))), (0, .long (lN (a))), (2, .long (lN (b)))]) C.1 C.2.1 dX5_product_1 hl (by decide) rfl (fun ls hl => ?_)
  refine lv_lload_n C.1 C.2.1 dX5_product_3 rfl (lv_at hl 1 rfl) ?_
  refine lv_lstore (lv' := [(6, .long (lN (a))), (4, .long (lN (0))), (0, .long (lN (a))), (2, .long (lN (b)))]) C.1 C.2.1 dX5_product_4 hl (by decide) rfl (fun ls hl => ?_)
  refine lv_lload_n C.1 C.2.1 dX5_product_6 rfl (lv_at hl 3 rfl) ?_
  refine lv_lstore (lv' := [(8, .long (lN (b))), (6, .long (lN (a))), (4, .long (lN (0))), (0, .long (lN (a))), (2, .long (lN (b)))]) C.1 C.2.1 dX5_product_7 hl (by decide) rfl (fun ls hl => ?_)
  have L9 : ∀ (j : Nat) (k : Nat) (x4 : Nat) (x6 : Nat) (x8 : Nat) (ls : Array Slot), 64 - k < j → (x4 = pmF a b k) → (x6 = a <<< k) → (x8 = b >>> k) → (k ≤ 64) → lv_has ls 10 [(0, .long (lN (a))), (2, .long (lN (b))), (4, .long (lN (x4))), (6, .long (lN (x6))), (8, .long (lN (x8)))] → W p l e { frames := 1, cells := 0, slots := 0, locals := 22 } s m ([.long (lN (a)), .long (lN (b))] : List Value).toArray below meth c s.heap [] 0 0 (zQ below [.long (lN (a)), .long (lN (b))] s (.long (lN (pm a b)))) (F0 m 9 ls []) := by
    intro j
    induction j with
    | zero => intro k x4 x6 x8 ls hmu; exact absurd hmu (Nat.not_lt_zero _)
    | succ j ih9 =>
      intro k x4 x6 x8 ls hmu i9_0 i9_1 i9_2 i9_3 hl
      have hx8 : x8 < 18446744073709551616 := by rw [i9_2]; exact Nat.lt_of_le_of_lt (Nat.shiftRight_le _ _) hb
      refine lv_lload C.1 C.2.1 dX5_product_9 (lv_at hl 4 rfl) ?_
      refine z_lconst (k0 := 0) C dX5_product_11 rfl ?_
      refine z_lc_eq (tgt := 47) C (by first | assumption | omega | rfl | exact decide_eq_false (by omega) | exact decide_eq_true (by assumption) | exact decide_eq_true (by omega) | exact one_shl33 (by omega) | exact pm_lt _ _ | exact rm_lt (by first | assumption | exact pm_lt _ _) | exact Nat.lt_of_le_of_lt (Nat.shiftRight_le _ _) (by assumption) | exact Nat.lt_of_le_of_lt Nat.and_le_right (by omega)) (by first | assumption | omega | rfl | exact decide_eq_false (by omega) | exact decide_eq_true (by assumption) | exact decide_eq_true (by omega) | exact one_shl33 (by omega) | exact pm_lt _ _ | exact rm_lt (by first | assumption | exact pm_lt _ _) | exact Nat.lt_of_le_of_lt (Nat.shiftRight_le _ _) (by assumption) | exact Nat.lt_of_le_of_lt Nat.and_le_right (by omega)) dX5_product_12 dX5_product_13 (by decide) (fun h12 => ?_) (fun h12 => ?_)
      · refine lv_lload C.1 C.2.1 dX5_product_47 (lv_at hl 2 rfl) ?_
        exact z_lret C hr hk dX5_product_49 (by rw [i9_2] at h12; rw [pm, lN_mod, i9_0, pmF_64 h12 i9_3])
      · refine lv_lload C.1 C.2.1 dX5_product_16 (lv_at hl 4 rfl) ?_
        refine z_iconst C dX5_product_18 ?_
        refine z_call C (c_X5_has l (x8) (0 : Int) (by first | assumption | omega | rfl | exact decide_eq_false (by omega) | exact decide_eq_true (by assumption) | exact decide_eq_true (by omega) | exact one_shl33 (by omega) | exact pm_lt _ _ | exact rm_lt (by first | assumption | exact pm_lt _ _) | exact Nat.lt_of_le_of_lt (Nat.shiftRight_le _ _) (by assumption) | exact Nat.lt_of_le_of_lt Nat.and_le_right (by omega)) (by first | assumption | omega | rfl | exact decide_eq_false (by omega) | exact decide_eq_true (by assumption) | exact decide_eq_true (by omega) | exact one_shl33 (by omega) | exact pm_lt _ _ | exact rm_lt (by first | assumption | exact pm_lt _ _) | exact Nat.lt_of_le_of_lt (Nat.shiftRight_le _ _) (by assumption) | exact Nat.lt_of_le_of_lt Nat.and_le_right (by omega))) ml_X5_25 ⟨by decide, by decide⟩ ⟨Nat.le_refl _, Nat.le_refl _⟩ hl (Nat.le_of_ble_eq_true rfl) rfl dX5_product_19 ?_
        refine z_ifB_eq (tgt := 32) C dX5_product_22 (by decide) (fun h22 => ?_) (fun h22 => ?_)
        · refine lv_lload C.1 C.2.1 dX5_product_32 (lv_at hl 3 rfl) ?_
          refine z_iconst C dX5_product_34 ?_
          refine z_lshl C (1) (by omega) (by omega) dX5_product_35 ?_
          refine lv_lstore (lv' := [(6, .long (lN ((x6) <<< (1)))), (0, .long (lN (a))), (2, .long (lN (b))), (4, .long (lN (x4))), (8, .long (lN (x8)))]) C.1 C.2.1 dX5_product_36 hl (by decide) rfl (fun ls hl => ?_)
          refine lv_lload C.1 C.2.1 dX5_product_38 (lv_at hl 4 rfl) ?_
          refine z_iconst C dX5_product_40 ?_
          refine z_lushr C (1) (by first | assumption | omega | rfl | exact decide_eq_false (by omega) | exact decide_eq_true (by assumption) | exact decide_eq_true (by omega) | exact one_shl33 (by omega) | exact pm_lt _ _ | exact rm_lt (by first | assumption | exact pm_lt _ _) | exact Nat.lt_of_le_of_lt (Nat.shiftRight_le _ _) (by assumption) | exact Nat.lt_of_le_of_lt Nat.and_le_right (by omega)) (by omega) (by omega) dX5_product_41 ?_
          refine lv_lstore (lv' := [(8, .long (lN ((x8) >>> (1)))), (6, .long (lN ((x6) <<< (1)))), (0, .long (lN (a))), (2, .long (lN (b))), (4, .long (lN (x4)))]) C.1 C.2.1 dX5_product_42 hl (by decide) rfl (fun ls hl => ?_)
          refine lv_goto (tgt := 9) C.1 C.2.1 dX5_product_44 (by decide) ?_
          have hkk : k < 64 := Nat.lt_of_not_le (fun h => h12 (by rw [i9_2, Nat.le_antisymm i9_3 h]; exact shr_0.mpr hb))
          have hb1 : b.testBit k = false := by rw [i9_2, tb0] at h22; exact h22
          exact ih9 (k + 1) _ _ _ _ (by omega) (by rw [pmF_f hb1]; exact i9_0) (by rw [i9_1, Nat.shiftLeft_add]) (by rw [i9_2, Nat.shiftRight_add]) (by omega) (lv_sub hl [2, 3, 4, 1, 0] rfl)
        · refine lv_lload C.1 C.2.1 dX5_product_25 (lv_at hl 2 rfl) ?_
          refine lv_lload C.1 C.2.1 dX5_product_27 (lv_at hl 3 rfl) ?_
          refine z_lxor C dX5_product_29 ?_
          refine lv_lstore (lv' := [(4, .long (lN ((x4) ^^^ (x6)))), (0, .long (lN (a))), (2, .long (lN (b))), (6, .long (lN (x6))), (8, .long (lN (x8)))]) C.1 C.2.1 dX5_product_30 hl (by decide) rfl (fun ls hl => ?_)
          refine lv_lload C.1 C.2.1 dX5_product_32 (lv_at hl 3 rfl) ?_
          refine z_iconst C dX5_product_34 ?_
          refine z_lshl C (1) (by omega) (by omega) dX5_product_35 ?_
          refine lv_lstore (lv' := [(6, .long (lN ((x6) <<< (1)))), (4, .long (lN ((x4) ^^^ (x6)))), (0, .long (lN (a))), (2, .long (lN (b))), (8, .long (lN (x8)))]) C.1 C.2.1 dX5_product_36 hl (by decide) rfl (fun ls hl => ?_)
          refine lv_lload C.1 C.2.1 dX5_product_38 (lv_at hl 4 rfl) ?_
          refine z_iconst C dX5_product_40 ?_
          refine z_lushr C (1) (by first | assumption | omega | rfl | exact decide_eq_false (by omega) | exact decide_eq_true (by assumption) | exact decide_eq_true (by omega) | exact one_shl33 (by omega) | exact pm_lt _ _ | exact rm_lt (by first | assumption | exact pm_lt _ _) | exact Nat.lt_of_le_of_lt (Nat.shiftRight_le _ _) (by assumption) | exact Nat.lt_of_le_of_lt Nat.and_le_right (by omega)) (by omega) (by omega) dX5_product_41 ?_
          refine lv_lstore (lv' := [(8, .long (lN ((x8) >>> (1)))), (6, .long (lN ((x6) <<< (1)))), (4, .long (lN ((x4) ^^^ (x6)))), (0, .long (lN (a))), (2, .long (lN (b)))]) C.1 C.2.1 dX5_product_42 hl (by decide) rfl (fun ls hl => ?_)
          refine lv_goto (tgt := 9) C.1 C.2.1 dX5_product_44 (by decide) ?_
          have hkk : k < 64 := Nat.lt_of_not_le (fun h => h12 (by rw [i9_2, Nat.le_antisymm i9_3 h]; exact shr_0.mpr hb))
          have hb1 : b.testBit k = true := by rw [i9_2, tb0] at h22; exact h22
          exact ih9 (k + 1) _ _ _ _ (by omega) (by rw [pmF_t hb1, i9_0, i9_1]) (by rw [i9_1, Nat.shiftLeft_add]) (by rw [i9_2, Nat.shiftRight_add]) (by omega) (lv_sub hl [3, 4, 2, 1, 0] rfl)
  exact L9 _ (0) _ _ _ _ (by exact Nat.lt_succ_self _) (by rfl) (by rfl) (by rfl) (by omega) (lv_sub hl [3, 4, 2, 1, 0] rfl)

set_option maxHeartbeats 4000000 in
set_option maxRecDepth 100000 in
theorem c_X5_quotientOf (l : Launch) (a : Nat) (b : Nat) (ha : a < 18446744073709551616) (hb : b < 18446744073709551616) (h2 : ¬ b = 0) : zP l yX5_quotientOf 1 53 [.long (lN (a)), .long (lN (b))] (.long (lN (qo a b))) := by
  refine zP.intro (lo := 24) (nA := 2) (own := RX5) zs_X5_quotientOf (by decide) rfl rfl (by decide +kernel) rfl (Nat.le_of_ble_eq_true rfl) ?_
  intro p e s m below meth c ls C hr hk hl
  have hl : lv_has ls 10 [(0, .long (lN (a))), (2, .long (lN (b)))] := hl
  refine lv_lload_n C.1 C.2.1 dX5_quotientOf_0 rfl (lv_at hl 1 rfl) ?_
  refine z_call C (c_X5_degreeOf l (b) (by first | assumption | omega | rfl | exact decide_eq_false (by omega) | exact decide_eq_true (by assumption) | exact decide_eq_true (by omega) | exact one_shl33 (by omega) | exact pm_lt _ _ | exact rm_lt (by first | assumption | exact pm_lt _ _) | exact Nat.lt_of_le_of_lt (Nat.shiftRight_le _ _) (by assumption) | exact Nat.lt_of_le_of_lt Nat.and_le_right (by omega))) ml_X5_33 ⟨by decide, by decide⟩ ⟨Nat.le_refl _, Nat.le_refl _⟩ hl (Nat.le_of_ble_eq_true rfl) rfl dX5_quotientOf_1 ?_
  have q1_0 := tp_rngE (b) (by first | assumption | omega | exact pm_lt _ _ | exact rm_lt (by assumption))
  refine lv_istore (lv' := [(4, .int (iZ (tp (b)))), (0, .long (lN (a))), (2, .long (lN (b)))]) C.1 C.2.1 dX5_quotientOf_4 hl (by decide) rfl (fun ls hl => ?_)
  refine lv_lload_n C.1 C.2.1 dX5_quotientOf_6 rfl (lv_at hl 1 rfl) ?_
  refine lv_lstore (lv' := [(5, .long (lN (a))), (4, .int (iZ (tp (b)))), (0, .long (lN (a))), (2, .long (lN (b)))]) C.1 C.2.1 dX5_quotientOf_7 hl (by decide) rfl (fun ls hl => ?_)
  refine z_lconst (k0 := 0) C dX5_quotientOf_9 rfl ?_
  refine lv_lstore (lv' := [(7, .long (lN (0))), (5, .long (lN (a))), (4, .int (iZ (tp (b)))), (0, .long (lN (a))), (2, .long (lN (b)))]) C.1 C.2.1 dX5_quotientOf_10 hl (by decide) rfl (fun ls hl => ?_)
  refine lv_lload_n C.1 C.2.1 dX5_quotientOf_12 rfl (lv_at hl 3 rfl) ?_
  refine z_call C (c_X5_degreeOf l (a) (by first | assumption | omega | rfl | exact decide_eq_false (by omega) | exact decide_eq_true (by assumption) | exact decide_eq_true (by omega) | exact one_shl33 (by omega) | exact pm_lt _ _ | exact rm_lt (by first | assumption | exact pm_lt _ _) | exact Nat.lt_of_le_of_lt (Nat.shiftRight_le _ _) (by assumption) | exact Nat.lt_of_le_of_lt Nat.and_le_right (by omega))) ml_X5_33 ⟨by decide, by decide⟩ ⟨Nat.le_refl _, Nat.le_refl _⟩ hl (Nat.le_of_ble_eq_true rfl) rfl dX5_quotientOf_13 ?_
  have q13_0 := tp_rngE (a) (by first | assumption | omega | exact pm_lt _ _ | exact rm_lt (by assumption))
  refine lv_istore (lv' := [(9, .int (iZ (tp (a)))), (7, .long (lN (0))), (5, .long (lN (a))), (4, .int (iZ (tp (b)))), (0, .long (lN (a))), (2, .long (lN (b)))]) C.1 C.2.1 dX5_quotientOf_16 hl (by decide) rfl (fun ls hl => ?_)
  have L18 : ∀ (j : Nat) (j0 : Nat) (x5 : Nat) (x7 : Nat) (x9 : Int) (ls : Array Slot), j0 < j → (x9 + 1 = tp b + (j0 : Int) ∨ (j0 = 0 ∧ x9 < tp b)) → (x9 ≤ 63) → (x5 < 18446744073709551616) → ((qoF b (tp b).toNat j0 x5 x7).2 = qo a b) → (-1 ≤ x9) → lv_has ls 10 [(0, .long (lN (a))), (2, .long (lN (b))), (4, .int (iZ (tp (b)))), (5, .long (lN (x5))), (7, .long (lN (x7))), (9, .int (iZ (x9)))] → W p l e { frames := 1, cells := 0, slots := 0, locals := 24 } s m ([.long (lN (a)), .long (lN (b))] : List Value).toArray below meth c s.heap [] 0 0 (zQ below [.long (lN (a)), .long (lN (b))] s (.long (lN (qo a b)))) (F0 m 18 ls []) := by
    intro j
    induction j with
    | zero => intro j0 x5 x7 x9 ls hmu; exact absurd hmu (Nat.not_lt_zero _)
    | succ j ih18 =>
      intro j0 x5 x7 x9 ls hmu i18_0 i18_1 i18_2 i18_3 i18_4 hl
      have hb0 := mt tp_neg.mp h2
      have hbr := tp_rng hb
      refine lv_iload C.1 C.2.1 dX5_quotientOf_18 (lv_at hl 5 rfl) ?_
      refine lv_iload C.1 C.2.1 dX5_quotientOf_20 (lv_at hl 2 rfl) ?_
      refine z_icmp_lt (tgt := 68) C (by omega) (by omega) dX5_quotientOf_22 (by decide) (fun h22 => ?_) (fun h22 => ?_)
      · refine lv_lload C.1 C.2.1 dX5_quotientOf_68 (lv_at hl 4 rfl) ?_
        exact z_lret C hr hk dX5_quotientOf_70 (congrArg (fun z : Nat => Value.long (lN z)) (by rw [← i18_3, show j0 = 0 by omega]; rfl))
      · refine lv_lload C.1 C.2.1 dX5_quotientOf_25 (lv_at hl 3 rfl) ?_
        refine lv_iload C.1 C.2.1 dX5_quotientOf_27 (lv_at hl 5 rfl) ?_
        refine z_call C (c_X5_has l (x5) (x9) (by first | assumption | omega | rfl | exact decide_eq_false (by omega) | exact decide_eq_true (by assumption) | exact decide_eq_true (by omega) | exact one_shl33 (by omega) | exact pm_lt _ _ | exact rm_lt (by first | assumption | exact pm_lt _ _) | exact Nat.lt_of_le_of_lt (Nat.shiftRight_le _ _) (by assumption) | exact Nat.lt_of_le_of_lt Nat.and_le_right (by omega)) (by first | assumption | omega | rfl | exact decide_eq_false (by omega) | exact decide_eq_true (by assumption) | exact decide_eq_true (by omega) | exact one_shl33 (by omega) | exact pm_lt _ _ | exact rm_lt (by first | assumption | exact pm_lt _ _) | exact Nat.lt_of_le_of_lt (Nat.shiftRight_le _ _) (by assumption) | exact Nat.lt_of_le_of_lt Nat.and_le_right (by omega))) ml_X5_25 ⟨by decide, by decide⟩ ⟨Nat.le_refl _, Nat.le_refl _⟩ hl (Nat.le_of_ble_eq_true rfl) rfl dX5_quotientOf_29 ?_
        refine z_ifB_ne (tgt := 38) C dX5_quotientOf_32 (by decide) (fun h32 => ?_) (fun h32 => ?_)
        · refine lv_lload C.1 C.2.1 dX5_quotientOf_38 (lv_at hl 3 rfl) ?_
          refine lv_lload_n C.1 C.2.1 dX5_quotientOf_40 rfl (lv_at hl 1 rfl) ?_
          refine lv_iload C.1 C.2.1 dX5_quotientOf_41 (lv_at hl 5 rfl) ?_
          refine lv_iload C.1 C.2.1 dX5_quotientOf_43 (lv_at hl 2 rfl) ?_
          refine z_isub C dX5_quotientOf_45 ?_
          refine z_lshl C (((x9) - (tp (b))).toNat) (by omega) (by omega) dX5_quotientOf_46 ?_
          refine z_lxor C dX5_quotientOf_47 ?_
          refine lv_lstore (lv' := [(5, .long (lN ((x5) ^^^ ((b) <<< (((x9) - (tp (b))).toNat))))), (0, .long (lN (a))), (2, .long (lN (b))), (4, .int (iZ (tp (b)))), (7, .long (lN (x7))), (9, .int (iZ (x9)))]) C.1 C.2.1 dX5_quotientOf_48 hl (by decide) rfl (fun ls hl => ?_)
          refine lv_lload C.1 C.2.1 dX5_quotientOf_50 (lv_at hl 4 rfl) ?_
          refine z_lconst (k0 := 1) C dX5_quotientOf_52 rfl ?_
          refine lv_iload C.1 C.2.1 dX5_quotientOf_53 (lv_at hl 5 rfl) ?_
          refine lv_iload C.1 C.2.1 dX5_quotientOf_55 (lv_at hl 3 rfl) ?_
          refine z_isub C dX5_quotientOf_57 ?_
          refine z_lshl C (((x9) - (tp (b))).toNat) (by omega) (by omega) dX5_quotientOf_58 ?_
          refine z_lor C dX5_quotientOf_59 ?_
          refine lv_lstore (lv' := [(7, .long (lN ((x7) ||| ((1) <<< (((x9) - (tp (b))).toNat))))), (5, .long (lN ((x5) ^^^ ((b) <<< (((x9) - (tp (b))).toNat))))), (0, .long (lN (a))), (2, .long (lN (b))), (4, .int (iZ (tp (b)))), (9, .int (iZ (x9)))]) C.1 C.2.1 dX5_quotientOf_60 hl (by decide) rfl (fun ls hl => ?_)
          refine z_iinc (j := 5) (lv' := [(9, .int (iZ (x9 + (-1)))), (7, .long (lN ((x7) ||| ((1) <<< (((x9) - (tp (b))).toNat))))), (5, .long (lN ((x5) ^^^ ((b) <<< (((x9) - (tp (b))).toNat))))), (0, .long (lN (a))), (2, .long (lN (b))), (4, .int (iZ (tp (b))))]) C dX5_quotientOf_62 hl rfl (by decide) rfl (fun ls hl => ?_)
          refine lv_goto (tgt := 18) C.1 C.2.1 dX5_quotientOf_65 (by decide) ?_
          obtain ⟨j1, rfl⟩ : ∃ g, j0 = g + 1 := ⟨j0 - 1, by omega⟩
          rw [tb_k (k := (tp b).toNat + j1) (by omega) (by omega)] at h32
          rw [qoF_t h32] at i18_3
          have ej : (x9 - tp b).toNat = j1 := by omega
          exact ih18 (j1) _ _ _ _ (by omega) (by omega) (by omega) (by rw [ej]; exact xor64 i18_2 (shl64 (by omega) (by omega))) (by rw [ej]; exact i18_3) (by omega) (lv_sub hl [3, 4, 5, 2, 1, 0] rfl)
        · refine lv_goto (tgt := 62) C.1 C.2.1 dX5_quotientOf_35 (by decide) ?_
          refine z_iinc (j := 5) (lv' := [(9, .int (iZ (x9 + (-1)))), (0, .long (lN (a))), (2, .long (lN (b))), (4, .int (iZ (tp (b)))), (5, .long (lN (x5))), (7, .long (lN (x7)))]) C dX5_quotientOf_62 hl rfl (by decide) rfl (fun ls hl => ?_)
          refine lv_goto (tgt := 18) C.1 C.2.1 dX5_quotientOf_65 (by decide) ?_
          obtain ⟨j1, rfl⟩ : ∃ g, j0 = g + 1 := ⟨j0 - 1, by omega⟩
          rw [tb_k (k := (tp b).toNat + j1) (by omega) (by omega)] at h32
          rw [qoF_f h32] at i18_3
          exact ih18 (j1) _ _ _ _ (by omega) (by omega) (by omega) (by exact i18_2) (by exact i18_3) (by omega) (lv_sub hl [1, 2, 3, 4, 5, 0] rfl)
  have hb0 := mt tp_neg.mp h2
  have hbr := tp_rng hb
  have har := tp_rng ha
  exact L18 _ ((tp a + 1 - tp b).toNat) _ _ _ _ (by exact Nat.lt_succ_self _) (by omega) (by omega) (by exact ha) (by rw [qo, if_neg h2]) (by omega) (lv_sub hl [4, 5, 3, 2, 1, 0] rfl)

set_option maxHeartbeats 4000000 in
set_option maxRecDepth 100000 in
theorem c_X5_restOf (l : Launch) (a : Nat) (b : Nat) (ha : a < 18446744073709551616) (hb : b < 18446744073709551616) (h2 : ¬ b = 0) : zP l yX5_restOf 2 76 [.long (lN (a)), .long (lN (b))] (.long (lN (rm a b))) := by
  refine zP.intro (lo := 53) (nA := 2) (own := RX5) zs_X5_restOf (by decide) rfl rfl (by decide +kernel) rfl (Nat.le_of_ble_eq_true rfl) ?_
  intro p e s m below meth c ls C hr hk hl
  have hl : lv_has ls 4 [(0, .long (lN (a))), (2, .long (lN (b)))] := hl
  refine lv_lload_n C.1 C.2.1 dX5_restOf_0 rfl (lv_at hl 0 rfl) ?_
  refine lv_lload_n C.1 C.2.1 dX5_restOf_1 rfl (lv_at hl 0 rfl) ?_
  refine lv_lload_n C.1 C.2.1 dX5_restOf_2 rfl (lv_at hl 1 rfl) ?_
  refine z_call C (c_X5_quotientOf l (a) (b) (by first | assumption | omega | rfl | exact decide_eq_false (by omega) | exact decide_eq_true (by assumption) | exact decide_eq_true (by omega) | exact one_shl33 (by omega) | exact pm_lt _ _ | exact rm_lt (by first | assumption | exact pm_lt _ _) | exact Nat.lt_of_le_of_lt (Nat.shiftRight_le _ _) (by assumption) | exact Nat.lt_of_le_of_lt Nat.and_le_right (by omega)) (by first | assumption | omega | rfl | exact decide_eq_false (by omega) | exact decide_eq_true (by assumption) | exact decide_eq_true (by omega) | exact one_shl33 (by omega) | exact pm_lt _ _ | exact rm_lt (by first | assumption | exact pm_lt _ _) | exact Nat.lt_of_le_of_lt (Nat.shiftRight_le _ _) (by assumption) | exact Nat.lt_of_le_of_lt Nat.and_le_right (by omega)) (by first | assumption | omega | rfl | exact decide_eq_false (by omega) | exact decide_eq_true (by assumption) | exact decide_eq_true (by omega) | exact one_shl33 (by omega) | exact pm_lt _ _ | exact rm_lt (by first | assumption | exact pm_lt _ _) | exact Nat.lt_of_le_of_lt (Nat.shiftRight_le _ _) (by assumption) | exact Nat.lt_of_le_of_lt Nat.and_le_right (by omega))) ml_X5_37 ⟨by decide, by decide⟩ ⟨Nat.le_refl _, Nat.le_refl _⟩ hl (Nat.le_of_ble_eq_true rfl) rfl dX5_restOf_3 ?_
  refine lv_lload_n C.1 C.2.1 dX5_restOf_6 rfl (lv_at hl 1 rfl) ?_
  refine z_call C (c_X5_product l (qo (a) (b)) (b) (by first | assumption | omega | rfl | exact decide_eq_false (by omega) | exact decide_eq_true (by assumption) | exact decide_eq_true (by omega) | exact one_shl33 (by omega) | exact pm_lt _ _ | exact rm_lt (by first | assumption | exact pm_lt _ _) | exact Nat.lt_of_le_of_lt (Nat.shiftRight_le _ _) (by assumption) | exact Nat.lt_of_le_of_lt Nat.and_le_right (by omega))) ml_X5_41 ⟨by decide, by decide⟩ ⟨Nat.le_refl _, Nat.le_refl _⟩ hl (Nat.le_of_ble_eq_true rfl) rfl dX5_restOf_7 ?_
  refine z_lxor C dX5_restOf_10 ?_
  exact z_lret C hr hk dX5_restOf_11 (congrArg (fun z : Nat => Value.long (lN z)) (by rfl))

set_option maxHeartbeats 4000000 in
set_option maxRecDepth 100000 in
theorem c_X5_euclid (l : Launch) (a : Nat) (b : Nat) (z : Int) (ha : a < 18446744073709551616) (hb : b < 18446744073709551616) (hz : 0 ≤ z ∧ z ≤ 2) : zP l yX5_euclid 2 89 [.long (lN (a)), .long (lN (b)), .int (iZ (z))] (.long (lN (eu a b (eux a z) (euy b z)))) := by
  refine zP.intro (lo := 53) (nA := 3) (own := RX5) zs_X5_euclid (by decide) rfl rfl (by decide +kernel) rfl (Nat.le_of_ble_eq_true rfl) ?_
  intro p e s m below meth c ls C hr hk hl
  have hl : lv_has ls 17 [(0, .long (lN (a))), (2, .long (lN (b))), (4, .int (iZ (z)))] := hl
  refine lv_lload_n C.1 C.2.1 dX5_euclid_0 rfl (lv_at hl 0 rfl) ?_
  refine lv_lstore (lv' := [(5, .long (lN (a))), (0, .long (lN (a))), (2, .long (lN (b))), (4, .int (iZ (z)))]) C.1 C.2.1 dX5_euclid_1 hl (by decide) rfl (fun ls hl => ?_)
  refine lv_lload_n C.1 C.2.1 dX5_euclid_3 rfl (lv_at hl 2 rfl) ?_
  refine lv_lstore (lv' := [(7, .long (lN (b))), (5, .long (lN (a))), (0, .long (lN (a))), (2, .long (lN (b))), (4, .int (iZ (z)))]) C.1 C.2.1 dX5_euclid_4 hl (by decide) rfl (fun ls hl => ?_)
  have L50 : ∀ (j : Nat) (f : Nat) (x5 : Nat) (x7 : Nat) (x9 : Nat) (x11 : Nat) (ls : Array Slot), f < j → (x5 < 18446744073709551616) → (x7 < 18446744073709551616) → (x9 < 18446744073709551616) → (x11 < 18446744073709551616) → (tp x7 < (f : Int)) → (euF f x5 x7 x9 x11 = eu a b (eux a z) (euy b z)) → lv_has ls 17 [(0, .long (lN (a))), (2, .long (lN (b))), (4, .int (iZ (z))), (5, .long (lN (x5))), (7, .long (lN (x7))), (9, .long (lN (x9))), (11, .long (lN (x11)))] → W p l e { frames := 2, cells := 0, slots := 0, locals := 53 } s m ([.long (lN (a)), .long (lN (b)), .int (iZ (z))] : List Value).toArray below meth c s.heap [] 0 0 (zQ below [.long (lN (a)), .long (lN (b)), .int (iZ (z))] s (.long (lN (eu a b (eux a z) (euy b z))))) (F0 m 50 ls []) := by
    intro j
    induction j with
    | zero => intro f x5 x7 x9 x11 ls hmu; exact absurd hmu (Nat.not_lt_zero _)
    | succ j ih50 =>
      intro f x5 x7 x9 x11 ls hmu i50_0 i50_1 i50_2 i50_3 i50_4 i50_5 hl
      have ht := tp_ge x7
      have ht2 := @rm_tp x5 x7 i50_0 i50_1
      refine lv_lload C.1 C.2.1 dX5_euclid_50 (lv_at hl 4 rfl) ?_
      refine z_lconst (k0 := 0) C dX5_euclid_52 rfl ?_
      refine z_lc_eq (tgt := 109) C (by first | assumption | omega | rfl | exact decide_eq_false (by omega) | exact decide_eq_true (by assumption) | exact decide_eq_true (by omega) | exact one_shl33 (by omega) | exact pm_lt _ _ | exact rm_lt (by first | assumption | exact pm_lt _ _) | exact Nat.lt_of_le_of_lt (Nat.shiftRight_le _ _) (by assumption) | exact Nat.lt_of_le_of_lt Nat.and_le_right (by omega)) (by first | assumption | omega | rfl | exact decide_eq_false (by omega) | exact decide_eq_true (by assumption) | exact decide_eq_true (by omega) | exact one_shl33 (by omega) | exact pm_lt _ _ | exact rm_lt (by first | assumption | exact pm_lt _ _) | exact Nat.lt_of_le_of_lt (Nat.shiftRight_le _ _) (by assumption) | exact Nat.lt_of_le_of_lt Nat.and_le_right (by omega)) dX5_euclid_53 dX5_euclid_54 (by decide) (fun h53 => ?_) (fun h53 => ?_)
      · refine lv_lload C.1 C.2.1 dX5_euclid_109 (lv_at hl 5 rfl) ?_
        exact z_lret C hr hk dX5_euclid_111 (congrArg (fun z : Nat => Value.long (lN z)) (by rw [← i50_5, h53, euF_0]))
      · refine lv_lload C.1 C.2.1 dX5_euclid_57 (lv_at hl 3 rfl) ?_
        refine lv_lload C.1 C.2.1 dX5_euclid_59 (lv_at hl 4 rfl) ?_
        refine z_call C (c_X5_quotientOf l (x5) (x7) (by first | assumption | omega | rfl | exact decide_eq_false (by omega) | exact decide_eq_true (by assumption) | exact decide_eq_true (by omega) | exact one_shl33 (by omega) | exact pm_lt _ _ | exact rm_lt (by first | assumption | exact pm_lt _ _) | exact Nat.lt_of_le_of_lt (Nat.shiftRight_le _ _) (by assumption) | exact Nat.lt_of_le_of_lt Nat.and_le_right (by omega)) (by first | assumption | omega | rfl | exact decide_eq_false (by omega) | exact decide_eq_true (by assumption) | exact decide_eq_true (by omega) | exact one_shl33 (by omega) | exact pm_lt _ _ | exact rm_lt (by first | assumption | exact pm_lt _ _) | exact Nat.lt_of_le_of_lt (Nat.shiftRight_le _ _) (by assumption) | exact Nat.lt_of_le_of_lt Nat.and_le_right (by omega)) (by first | assumption | omega | rfl | exact decide_eq_false (by omega) | exact decide_eq_true (by assumption) | exact decide_eq_true (by omega) | exact one_shl33 (by omega) | exact pm_lt _ _ | exact rm_lt (by first | assumption | exact pm_lt _ _) | exact Nat.lt_of_le_of_lt (Nat.shiftRight_le _ _) (by assumption) | exact Nat.lt_of_le_of_lt Nat.and_le_right (by omega))) ml_X5_37 ⟨by decide, by decide⟩ ⟨Nat.le_refl _, Nat.le_refl _⟩ hl (Nat.le_of_ble_eq_true rfl) rfl dX5_euclid_61 ?_
        refine lv_lstore (lv' := [(13, .long (lN (qo (x5) (x7)))), (0, .long (lN (a))), (2, .long (lN (b))), (4, .int (iZ (z))), (5, .long (lN (x5))), (7, .long (lN (x7))), (9, .long (lN (x9))), (11, .long (lN (x11)))]) C.1 C.2.1 dX5_euclid_64 hl (by decide) rfl (fun ls hl => ?_)
        refine lv_lload C.1 C.2.1 dX5_euclid_66 (lv_at hl 4 rfl) ?_
        refine lv_lload C.1 C.2.1 dX5_euclid_68 (lv_at hl 0 rfl) ?_
        refine lv_lload C.1 C.2.1 dX5_euclid_70 (lv_at hl 5 rfl) ?_
        refine z_call C (c_X5_product l (qo (x5) (x7)) (x7) (by first | assumption | omega | rfl | exact decide_eq_false (by omega) | exact decide_eq_true (by assumption) | exact decide_eq_true (by omega) | exact one_shl33 (by omega) | exact pm_lt _ _ | exact rm_lt (by first | assumption | exact pm_lt _ _) | exact Nat.lt_of_le_of_lt (Nat.shiftRight_le _ _) (by assumption) | exact Nat.lt_of_le_of_lt Nat.and_le_right (by omega))) ml_X5_41 ⟨by decide, by decide⟩ ⟨Nat.le_refl _, Nat.le_refl _⟩ hl (Nat.le_of_ble_eq_true rfl) rfl dX5_euclid_72 ?_
        refine z_lxor C dX5_euclid_75 ?_
        refine lv_lstore (lv' := [(15, .long (lN ((x5) ^^^ (pm (qo (x5) (x7)) (x7))))), (13, .long (lN (qo (x5) (x7)))), (0, .long (lN (a))), (2, .long (lN (b))), (4, .int (iZ (z))), (5, .long (lN (x5))), (7, .long (lN (x7))), (9, .long (lN (x9))), (11, .long (lN (x11)))]) C.1 C.2.1 dX5_euclid_76 hl (by decide) rfl (fun ls hl => ?_)
        refine lv_lload C.1 C.2.1 dX5_euclid_78 (lv_at hl 6 rfl) ?_
        refine lv_lstore (lv' := [(5, .long (lN (x7))), (15, .long (lN ((x5) ^^^ (pm (qo (x5) (x7)) (x7))))), (13, .long (lN (qo (x5) (x7)))), (0, .long (lN (a))), (2, .long (lN (b))), (4, .int (iZ (z))), (7, .long (lN (x7))), (9, .long (lN (x9))), (11, .long (lN (x11)))]) C.1 C.2.1 dX5_euclid_80 hl (by decide) rfl (fun ls hl => ?_)
        refine lv_lload C.1 C.2.1 dX5_euclid_82 (lv_at hl 1 rfl) ?_
        refine lv_lstore (lv' := [(7, .long (lN ((x5) ^^^ (pm (qo (x5) (x7)) (x7))))), (5, .long (lN (x7))), (15, .long (lN ((x5) ^^^ (pm (qo (x5) (x7)) (x7))))), (13, .long (lN (qo (x5) (x7)))), (0, .long (lN (a))), (2, .long (lN (b))), (4, .int (iZ (z))), (9, .long (lN (x9))), (11, .long (lN (x11)))]) C.1 C.2.1 dX5_euclid_84 hl (by decide) rfl (fun ls hl => ?_)
        refine lv_lload C.1 C.2.1 dX5_euclid_86 (lv_at hl 7 rfl) ?_
        refine lv_lload C.1 C.2.1 dX5_euclid_88 (lv_at hl 3 rfl) ?_
        refine lv_lload C.1 C.2.1 dX5_euclid_90 (lv_at hl 8 rfl) ?_
        refine z_call C (c_X5_product l (qo (x5) (x7)) (x11) (by first | assumption | omega | rfl | exact decide_eq_false (by omega) | exact decide_eq_true (by assumption) | exact decide_eq_true (by omega) | exact one_shl33 (by omega) | exact pm_lt _ _ | exact rm_lt (by first | assumption | exact pm_lt _ _) | exact Nat.lt_of_le_of_lt (Nat.shiftRight_le _ _) (by assumption) | exact Nat.lt_of_le_of_lt Nat.and_le_right (by omega))) ml_X5_41 ⟨by decide, by decide⟩ ⟨Nat.le_refl _, Nat.le_refl _⟩ hl (Nat.le_of_ble_eq_true rfl) rfl dX5_euclid_92 ?_
        refine z_lxor C dX5_euclid_95 ?_
        refine lv_lstore (lv' := [(15, .long (lN ((x9) ^^^ (pm (qo (x5) (x7)) (x11))))), (7, .long (lN ((x5) ^^^ (pm (qo (x5) (x7)) (x7))))), (5, .long (lN (x7))), (13, .long (lN (qo (x5) (x7)))), (0, .long (lN (a))), (2, .long (lN (b))), (4, .int (iZ (z))), (9, .long (lN (x9))), (11, .long (lN (x11)))]) C.1 C.2.1 dX5_euclid_96 hl (by decide) rfl (fun ls hl => ?_)
        refine lv_lload C.1 C.2.1 dX5_euclid_98 (lv_at hl 8 rfl) ?_
        refine lv_lstore (lv' := [(9, .long (lN (x11))), (15, .long (lN ((x9) ^^^ (pm (qo (x5) (x7)) (x11))))), (7, .long (lN ((x5) ^^^ (pm (qo (x5) (x7)) (x7))))), (5, .long (lN (x7))), (13, .long (lN (qo (x5) (x7)))), (0, .long (lN (a))), (2, .long (lN (b))), (4, .int (iZ (z))), (11, .long (lN (x11)))]) C.1 C.2.1 dX5_euclid_100 hl (by decide) rfl (fun ls hl => ?_)
        refine lv_lload C.1 C.2.1 dX5_euclid_102 (lv_at hl 1 rfl) ?_
        refine lv_lstore (lv' := [(11, .long (lN ((x9) ^^^ (pm (qo (x5) (x7)) (x11))))), (9, .long (lN (x11))), (15, .long (lN ((x9) ^^^ (pm (qo (x5) (x7)) (x11))))), (7, .long (lN ((x5) ^^^ (pm (qo (x5) (x7)) (x7))))), (5, .long (lN (x7))), (13, .long (lN (qo (x5) (x7)))), (0, .long (lN (a))), (2, .long (lN (b))), (4, .int (iZ (z)))]) C.1 C.2.1 dX5_euclid_104 hl (by decide) rfl (fun ls hl => ?_)
        refine lv_goto (tgt := 50) C.1 C.2.1 dX5_euclid_106 (by decide) ?_
        obtain ⟨f, rfl⟩ : ∃ g, f = g + 1 := ⟨f - 1, by have := tp_neg (n := x7); omega⟩
        rw [euF_s h53] at i50_5
        have ht3 := ht2 h53
        exact ih50 (f) _ _ _ _ _ (by omega) (by exact i50_1) (by exact rm_lt i50_0) (by exact i50_3) (by exact xor64 i50_2 (pm_lt _ _)) (by have : tp (x5 ^^^ pm (qo x5 x7) x7) < tp x7 := ht3; omega) (by exact i50_5) (lv_sub hl [6, 7, 8, 4, 3, 1, 0] rfl)
  refine lv_iload C.1 C.2.1 dX5_euclid_6 (lv_at hl 4 rfl) ?_
  have L28 : ∀ (j : Nat)  (x9 : Nat) (ls : Array Slot), 0 < j → (x9 = eux a z) → lv_has ls 17 [(0, .long (lN (a))), (2, .long (lN (b))), (4, .int (iZ (z))), (5, .long (lN (a))), (7, .long (lN (b))), (9, .long (lN (x9)))] → W p l e { frames := 2, cells := 0, slots := 0, locals := 53 } s m ([.long (lN (a)), .long (lN (b)), .int (iZ (z))] : List Value).toArray below meth c s.heap [] 0 0 (zQ below [.long (lN (a)), .long (lN (b)), .int (iZ (z))] s (.long (lN (eu a b (eux a z) (euy b z))))) (F0 m 28 ls []) := by
    intro j
    induction j with
    | zero => intro x9 ls hmu; exact absurd hmu (Nat.not_lt_zero _)
    | succ j ih28 =>
      intro x9 ls hmu i28_0 hl
      refine lv_iload C.1 C.2.1 dX5_euclid_28 (lv_at hl 2 rfl) ?_
      refine z_if_ne (tgt := 37) C (by omega) dX5_euclid_30 (by decide) (fun h30 => ?_) (fun h30 => ?_)
      · refine lv_iload C.1 C.2.1 dX5_euclid_37 (lv_at hl 2 rfl) ?_
        refine z_iconst C dX5_euclid_39 ?_
        refine z_icmp_ne (tgt := 47) C (by omega) (by omega) dX5_euclid_40 (by decide) (fun h40 => ?_) (fun h40 => ?_)
        · refine z_lconst (k0 := 1) C dX5_euclid_47 rfl ?_
          refine lv_lstore (lv' := [(11, .long (lN (1))), (0, .long (lN (a))), (2, .long (lN (b))), (4, .int (iZ (z))), (5, .long (lN (a))), (7, .long (lN (b))), (9, .long (lN (x9)))]) C.1 C.2.1 dX5_euclid_48 hl (by decide) rfl (fun ls hl => ?_)
          have hq := tp_rng hb
          exact L50 _ (65) _ _ _ _ _ (by exact Nat.lt_succ_self _) (by exact ha) (by exact hb) (by rw [i28_0]; exact eux_lt ha) (by first | assumption | omega) (by omega) (by rw [i28_0]; unfold euy; first | (rw [if_pos (by assumption)]; rfl) | (rw [if_neg (by assumption), if_pos (by assumption)]; rfl) | (rw [if_neg (by assumption), if_neg (by assumption)]; rfl)) (lv_sub hl [1, 2, 3, 4, 5, 6, 0] rfl)
        · refine z_lconst (k0 := 0) C dX5_euclid_43 rfl ?_
          refine lv_goto (tgt := 48) C.1 C.2.1 dX5_euclid_44 (by decide) ?_
          refine lv_lstore (lv' := [(11, .long (lN (0))), (0, .long (lN (a))), (2, .long (lN (b))), (4, .int (iZ (z))), (5, .long (lN (a))), (7, .long (lN (b))), (9, .long (lN (x9)))]) C.1 C.2.1 dX5_euclid_48 hl (by decide) rfl (fun ls hl => ?_)
          have hq := tp_rng hb
          exact L50 _ (65) _ _ _ _ _ (by exact Nat.lt_succ_self _) (by exact ha) (by exact hb) (by rw [i28_0]; exact eux_lt ha) (by first | assumption | omega) (by omega) (by rw [i28_0]; unfold euy; first | (rw [if_pos (by assumption)]; rfl) | (rw [if_neg (by assumption), if_pos (by assumption)]; rfl) | (rw [if_neg (by assumption), if_neg (by assumption)]; rfl)) (lv_sub hl [1, 2, 3, 4, 5, 6, 0] rfl)
      · refine lv_lload_n C.1 C.2.1 dX5_euclid_33 rfl (lv_at hl 1 rfl) ?_
        refine lv_goto (tgt := 48) C.1 C.2.1 dX5_euclid_34 (by decide) ?_
        refine lv_lstore (lv' := [(11, .long (lN (b))), (0, .long (lN (a))), (2, .long (lN (b))), (4, .int (iZ (z))), (5, .long (lN (a))), (7, .long (lN (b))), (9, .long (lN (x9)))]) C.1 C.2.1 dX5_euclid_48 hl (by decide) rfl (fun ls hl => ?_)
        have hq := tp_rng hb
        exact L50 _ (65) _ _ _ _ _ (by exact Nat.lt_succ_self _) (by exact ha) (by exact hb) (by rw [i28_0]; exact eux_lt ha) (by first | assumption | omega) (by omega) (by rw [i28_0]; unfold euy; first | (rw [if_pos (by assumption)]; rfl) | (rw [if_neg (by assumption), if_pos (by assumption)]; rfl) | (rw [if_neg (by assumption), if_neg (by assumption)]; rfl)) (lv_sub hl [1, 2, 3, 4, 5, 6, 0] rfl)
  refine z_if_ne (tgt := 15) C (by omega) dX5_euclid_8 (by decide) (fun h8 => ?_) (fun h8 => ?_)
  · refine lv_iload C.1 C.2.1 dX5_euclid_15 (lv_at hl 4 rfl) ?_
    refine z_iconst C dX5_euclid_17 ?_
    refine z_icmp_ne (tgt := 25) C (by omega) (by omega) dX5_euclid_18 (by decide) (fun h18 => ?_) (fun h18 => ?_)
    · refine z_lconst (k0 := 0) C dX5_euclid_25 rfl ?_
      refine lv_lstore (lv' := [(9, .long (lN (0))), (7, .long (lN (b))), (5, .long (lN (a))), (0, .long (lN (a))), (2, .long (lN (b))), (4, .int (iZ (z)))]) C.1 C.2.1 dX5_euclid_26 hl (by decide) rfl (fun ls hl => ?_)
      exact L28 _  _ _ (by exact Nat.lt_succ_self _) (by unfold eux; first | rw [if_pos (by assumption)] | rw [if_neg (by assumption), if_pos (by assumption)] | rw [if_neg (by assumption), if_neg (by assumption)]) (lv_sub hl [3, 4, 5, 2, 1, 0] rfl)
    · refine z_lconst (k0 := 1) C dX5_euclid_21 rfl ?_
      refine lv_goto (tgt := 26) C.1 C.2.1 dX5_euclid_22 (by decide) ?_
      refine lv_lstore (lv' := [(9, .long (lN (1))), (7, .long (lN (b))), (5, .long (lN (a))), (0, .long (lN (a))), (2, .long (lN (b))), (4, .int (iZ (z)))]) C.1 C.2.1 dX5_euclid_26 hl (by decide) rfl (fun ls hl => ?_)
      exact L28 _  _ _ (by exact Nat.lt_succ_self _) (by unfold eux; first | rw [if_pos (by assumption)] | rw [if_neg (by assumption), if_pos (by assumption)] | rw [if_neg (by assumption), if_neg (by assumption)]) (lv_sub hl [3, 4, 5, 2, 1, 0] rfl)
  · refine lv_lload_n C.1 C.2.1 dX5_euclid_11 rfl (lv_at hl 2 rfl) ?_
    refine lv_goto (tgt := 26) C.1 C.2.1 dX5_euclid_12 (by decide) ?_
    refine lv_lstore (lv' := [(9, .long (lN (a))), (7, .long (lN (b))), (5, .long (lN (a))), (0, .long (lN (a))), (2, .long (lN (b))), (4, .int (iZ (z)))]) C.1 C.2.1 dX5_euclid_26 hl (by decide) rfl (fun ls hl => ?_)
    exact L28 _  _ _ (by exact Nat.lt_succ_self _) (by unfold eux; first | rw [if_pos (by assumption)] | rw [if_neg (by assumption), if_pos (by assumption)] | rw [if_neg (by assumption), if_neg (by assumption)]) (lv_sub hl [3, 4, 5, 2, 1, 0] rfl)

set_option maxHeartbeats 4000000 in
set_option maxRecDepth 100000 in
theorem c_X5_derived (l : Launch) (n : Nat) (hn : n < 18446744073709551616) : zP l yX5_derived 1 46 [.long (lN (n))] (.long (lN (mdF n 16))) := by
  refine zP.intro (lo := 22) (nA := 1) (own := RX5) zs_X5_derived (by decide) rfl rfl (by decide +kernel) rfl (Nat.le_of_ble_eq_true rfl) ?_
  intro p e s m below meth c ls C hr hk hl
  have hl : lv_has ls 5 [(0, .long (lN (n)))] := hl
  refine z_lconst (k0 := 0) C dX5_derived_0 rfl ?_
  refine lv_lstore_n (lv' := [(2, .long (lN (0))), (0, .long (lN (n)))]) C.1 C.2.1 dX5_derived_1 rfl hl (by decide) rfl (fun ls hl => ?_)
  refine z_iconst C dX5_derived_2 ?_
  refine lv_istore (lv' := [(4, .int (iZ (1))), (2, .long (lN (0))), (0, .long (lN (n)))]) C.1 C.2.1 dX5_derived_3 hl (by decide) rfl (fun ls hl => ?_)
  have L5 : ∀ (j : Nat) (k : Nat) (x2 : Nat) (x4 : Int) (ls : Array Slot), 16 - k < j → (x4 = 2 * (k : Int) + 1) → (k ≤ 16) → (x2 = mdF n k) → lv_has ls 5 [(0, .long (lN (n))), (2, .long (lN (x2))), (4, .int (iZ (x4)))] → W p l e { frames := 1, cells := 0, slots := 0, locals := 22 } s m ([.long (lN (n))] : List Value).toArray below meth c s.heap [] 0 0 (zQ below [.long (lN (n))] s (.long (lN (mdF n 16)))) (F0 m 5 ls []) := by
    intro j
    induction j with
    | zero => intro k x2 x4 ls hmu; exact absurd hmu (Nat.not_lt_zero _)
    | succ j ih5 =>
      intro k x2 x4 ls hmu i5_0 i5_1 i5_2 hl
      refine lv_iload C.1 C.2.1 dX5_derived_5 (lv_at hl 2 rfl) ?_
      refine z_bipush C dX5_derived_7 (by decide) ?_
      refine z_icmp_gt (tgt := 36) C (by omega) (by omega) dX5_derived_9 (by decide) (fun h9 => ?_) (fun h9 => ?_)
      · refine lv_lload_n C.1 C.2.1 dX5_derived_36 rfl (lv_at hl 1 rfl) ?_
        exact z_lret C hr hk dX5_derived_37 (congrArg (fun z : Nat => Value.long (lN z)) (by rw [i5_2, show k = 16 by omega]))
      · refine lv_lload_n C.1 C.2.1 dX5_derived_12 rfl (lv_at hl 0 rfl) ?_
        refine lv_iload C.1 C.2.1 dX5_derived_13 (lv_at hl 2 rfl) ?_
        refine z_call C (c_X5_has l (n) (x4) (by first | assumption | omega | rfl | exact decide_eq_false (by omega) | exact decide_eq_true (by assumption) | exact decide_eq_true (by omega) | exact one_shl33 (by omega) | exact pm_lt _ _ | exact rm_lt (by first | assumption | exact pm_lt _ _) | exact Nat.lt_of_le_of_lt (Nat.shiftRight_le _ _) (by assumption) | exact Nat.lt_of_le_of_lt Nat.and_le_right (by omega)) (by first | assumption | omega | rfl | exact decide_eq_false (by omega) | exact decide_eq_true (by assumption) | exact decide_eq_true (by omega) | exact one_shl33 (by omega) | exact pm_lt _ _ | exact rm_lt (by first | assumption | exact pm_lt _ _) | exact Nat.lt_of_le_of_lt (Nat.shiftRight_le _ _) (by assumption) | exact Nat.lt_of_le_of_lt Nat.and_le_right (by omega))) ml_X5_25 ⟨by decide, by decide⟩ ⟨Nat.le_refl _, Nat.le_refl _⟩ hl (Nat.le_of_ble_eq_true rfl) rfl dX5_derived_15 ?_
        refine z_ifB_eq (tgt := 30) C dX5_derived_18 (by decide) (fun h18 => ?_) (fun h18 => ?_)
        · refine z_iinc (j := 2) (lv' := [(4, .int (iZ (x4 + 2))), (0, .long (lN (n))), (2, .long (lN (x2)))]) C dX5_derived_30 hl rfl (by decide) rfl (fun ls hl => ?_)
          refine lv_goto (tgt := 5) C.1 C.2.1 dX5_derived_33 (by decide) ?_
          rw [tb_k (k := 2 * k + 1) (by omega) (by omega)] at h18
          exact ih5 (k + 1) _ _ _ (by omega) (by omega) (by omega) (by rw [mdF_f h18]; exact i5_2) (lv_sub hl [1, 2, 0] rfl)
        · refine lv_lload_n C.1 C.2.1 dX5_derived_21 rfl (lv_at hl 1 rfl) ?_
          refine z_lconst (k0 := 1) C dX5_derived_22 rfl ?_
          refine lv_iload C.1 C.2.1 dX5_derived_23 (lv_at hl 2 rfl) ?_
          refine z_iconst C dX5_derived_25 ?_
          refine z_isub C dX5_derived_26 ?_
          refine z_lshl C (((x4) - (1)).toNat) (by omega) (by omega) dX5_derived_27 ?_
          refine z_lor C dX5_derived_28 ?_
          refine lv_lstore_n (lv' := [(2, .long (lN ((x2) ||| ((1) <<< (((x4) - (1)).toNat))))), (0, .long (lN (n))), (4, .int (iZ (x4)))]) C.1 C.2.1 dX5_derived_29 rfl hl (by decide) rfl (fun ls hl => ?_)
          refine z_iinc (j := 2) (lv' := [(4, .int (iZ (x4 + 2))), (2, .long (lN ((x2) ||| ((1) <<< (((x4) - (1)).toNat))))), (0, .long (lN (n)))]) C dX5_derived_30 hl rfl (by decide) rfl (fun ls hl => ?_)
          refine lv_goto (tgt := 5) C.1 C.2.1 dX5_derived_33 (by decide) ?_
          rw [tb_k (k := 2 * k + 1) (by omega) (by omega)] at h18
          have ek : (x4 - 1).toNat = 2 * k := by omega
          exact ih5 (k + 1) _ _ _ (by omega) (by omega) (by omega) (by rw [mdF_t h18, ek, i5_2]) (lv_sub hl [2, 1, 0] rfl)
  exact L5 _ (0) _ _ _ (by exact Nat.lt_succ_self _) (by rfl) (by omega) (by rfl) (lv_sub hl [2, 1, 0] rfl)

set_option maxHeartbeats 4000000 in
set_option maxRecDepth 100000 in
theorem c_X5_half (l : Launch) (n : Nat) (hn : n < 18446744073709551616) : zP l yX5_half 1 46 [.long (lN (n))] (.long (lN (ehF n 17))) := by
  refine zP.intro (lo := 22) (nA := 1) (own := RX5) zs_X5_half (by decide) rfl rfl (by decide +kernel) rfl (Nat.le_of_ble_eq_true rfl) ?_
  intro p e s m below meth c ls C hr hk hl
  have hl : lv_has ls 5 [(0, .long (lN (n)))] := hl
  refine z_lconst (k0 := 0) C dX5_half_0 rfl ?_
  refine lv_lstore_n (lv' := [(2, .long (lN (0))), (0, .long (lN (n)))]) C.1 C.2.1 dX5_half_1 rfl hl (by decide) rfl (fun ls hl => ?_)
  refine z_iconst C dX5_half_2 ?_
  refine lv_istore (lv' := [(4, .int (iZ (0))), (2, .long (lN (0))), (0, .long (lN (n)))]) C.1 C.2.1 dX5_half_3 hl (by decide) rfl (fun ls hl => ?_)
  have L5 : ∀ (j : Nat) (k : Nat) (x2 : Nat) (x4 : Int) (ls : Array Slot), 17 - k < j → (x4 = 2 * (k : Int)) → (k ≤ 17) → (x2 = ehF n k) → lv_has ls 5 [(0, .long (lN (n))), (2, .long (lN (x2))), (4, .int (iZ (x4)))] → W p l e { frames := 1, cells := 0, slots := 0, locals := 22 } s m ([.long (lN (n))] : List Value).toArray below meth c s.heap [] 0 0 (zQ below [.long (lN (n))] s (.long (lN (ehF n 17)))) (F0 m 5 ls []) := by
    intro j
    induction j with
    | zero => intro k x2 x4 ls hmu; exact absurd hmu (Nat.not_lt_zero _)
    | succ j ih5 =>
      intro k x2 x4 ls hmu i5_0 i5_1 i5_2 hl
      refine lv_iload C.1 C.2.1 dX5_half_5 (lv_at hl 2 rfl) ?_
      refine z_bipush C dX5_half_7 (by decide) ?_
      refine z_icmp_gt (tgt := 36) C (by omega) (by omega) dX5_half_9 (by decide) (fun h9 => ?_) (fun h9 => ?_)
      · refine lv_lload_n C.1 C.2.1 dX5_half_36 rfl (lv_at hl 1 rfl) ?_
        exact z_lret C hr hk dX5_half_37 (congrArg (fun z : Nat => Value.long (lN z)) (by rw [i5_2, show k = 17 by omega]))
      · refine lv_lload_n C.1 C.2.1 dX5_half_12 rfl (lv_at hl 0 rfl) ?_
        refine lv_iload C.1 C.2.1 dX5_half_13 (lv_at hl 2 rfl) ?_
        refine z_call C (c_X5_has l (n) (x4) (by first | assumption | omega | rfl | exact decide_eq_false (by omega) | exact decide_eq_true (by assumption) | exact decide_eq_true (by omega) | exact one_shl33 (by omega) | exact pm_lt _ _ | exact rm_lt (by first | assumption | exact pm_lt _ _) | exact Nat.lt_of_le_of_lt (Nat.shiftRight_le _ _) (by assumption) | exact Nat.lt_of_le_of_lt Nat.and_le_right (by omega)) (by first | assumption | omega | rfl | exact decide_eq_false (by omega) | exact decide_eq_true (by assumption) | exact decide_eq_true (by omega) | exact one_shl33 (by omega) | exact pm_lt _ _ | exact rm_lt (by first | assumption | exact pm_lt _ _) | exact Nat.lt_of_le_of_lt (Nat.shiftRight_le _ _) (by assumption) | exact Nat.lt_of_le_of_lt Nat.and_le_right (by omega))) ml_X5_25 ⟨by decide, by decide⟩ ⟨Nat.le_refl _, Nat.le_refl _⟩ hl (Nat.le_of_ble_eq_true rfl) rfl dX5_half_15 ?_
        refine z_ifB_eq (tgt := 30) C dX5_half_18 (by decide) (fun h18 => ?_) (fun h18 => ?_)
        · refine z_iinc (j := 2) (lv' := [(4, .int (iZ (x4 + 2))), (0, .long (lN (n))), (2, .long (lN (x2)))]) C dX5_half_30 hl rfl (by decide) rfl (fun ls hl => ?_)
          refine lv_goto (tgt := 5) C.1 C.2.1 dX5_half_33 (by decide) ?_
          rw [tb_k (k := 2 * k) (by omega) (by omega)] at h18
          exact ih5 (k + 1) _ _ _ (by omega) (by omega) (by omega) (by rw [ehF_f h18]; exact i5_2) (lv_sub hl [1, 2, 0] rfl)
        · refine lv_lload_n C.1 C.2.1 dX5_half_21 rfl (lv_at hl 1 rfl) ?_
          refine z_lconst (k0 := 1) C dX5_half_22 rfl ?_
          refine lv_iload C.1 C.2.1 dX5_half_23 (lv_at hl 2 rfl) ?_
          refine z_iconst C dX5_half_25 ?_
          refine z_idiv C (by omega) (by omega) dX5_half_26 ?_
          refine z_lshl C (((x4) / (2)).toNat) (by omega) (by omega) dX5_half_27 ?_
          refine z_lor C dX5_half_28 ?_
          refine lv_lstore_n (lv' := [(2, .long (lN ((x2) ||| ((1) <<< (((x4) / (2)).toNat))))), (0, .long (lN (n))), (4, .int (iZ (x4)))]) C.1 C.2.1 dX5_half_29 rfl hl (by decide) rfl (fun ls hl => ?_)
          refine z_iinc (j := 2) (lv' := [(4, .int (iZ (x4 + 2))), (2, .long (lN ((x2) ||| ((1) <<< (((x4) / (2)).toNat))))), (0, .long (lN (n)))]) C dX5_half_30 hl rfl (by decide) rfl (fun ls hl => ?_)
          refine lv_goto (tgt := 5) C.1 C.2.1 dX5_half_33 (by decide) ?_
          rw [tb_k (k := 2 * k) (by omega) (by omega)] at h18
          have ek : (x4 / 2).toNat = k := by omega
          exact ih5 (k + 1) _ _ _ (by omega) (by omega) (by omega) (by rw [ehF_t h18, ek, i5_2]) (lv_sub hl [2, 1, 0] rfl)
  exact L5 _ (0) _ _ _ (by exact Nat.lt_succ_self _) (by rfl) (by omega) (by rfl) (lv_sub hl [2, 1, 0] rfl)

set_option maxHeartbeats 4000000 in
set_option maxRecDepth 100000 in
theorem c_X5_isIrreducible (l : Launch) (n : Nat) (hn : n < 18446744073709551616) : zP l yX5_isIrreducible 3 100 [.long (lN (n))] (.int (iZ (zB (ir n)))) := by
  refine zP.intro (lo := 76) (nA := 1) (own := RX5) zs_X5_isIrreducible (by decide) rfl rfl (by decide +kernel) rfl (Nat.le_of_ble_eq_true rfl) ?_
  intro p e s m below meth c ls C hr hk hl
  have hl : lv_has ls 5 [(0, .long (lN (n)))] := hl
  refine lv_lload_n C.1 C.2.1 dX5_isIrreducible_0 rfl (lv_at hl 0 rfl) ?_
  refine z_call C (c_X5_degreeOf l (n) (by first | assumption | omega | rfl | exact decide_eq_false (by omega) | exact decide_eq_true (by assumption) | exact decide_eq_true (by omega) | exact one_shl33 (by omega) | exact pm_lt _ _ | exact rm_lt (by first | assumption | exact pm_lt _ _) | exact Nat.lt_of_le_of_lt (Nat.shiftRight_le _ _) (by assumption) | exact Nat.lt_of_le_of_lt Nat.and_le_right (by omega))) ml_X5_33 ⟨by decide, by decide⟩ ⟨Nat.le_refl _, Nat.le_refl _⟩ hl (Nat.le_of_ble_eq_true rfl) rfl dX5_isIrreducible_1 ?_
  have q1_0 := tp_rngE (n) (by first | assumption | omega | exact pm_lt _ _ | exact rm_lt (by assumption))
  refine lv_istore_n (lv' := [(2, .int (iZ (tp (n)))), (0, .long (lN (n)))]) C.1 C.2.1 dX5_isIrreducible_4 rfl hl (by decide) rfl (fun ls hl => ?_)
  refine lv_iload_n C.1 C.2.1 dX5_isIrreducible_5 rfl (lv_at hl 0 rfl) ?_
  refine z_iconst C dX5_isIrreducible_6 ?_
  refine z_icmp_ge (tgt := 12) C (by omega) (by omega) dX5_isIrreducible_7 (by decide) (fun h7 => ?_) (fun h7 => ?_)
  · refine z_ldc2 C 2 (T0_of kl_X5_44 rfl) (by decide) dX5_isIrreducible_12 ?_
    refine lv_lstore_n (lv' := [(3, .long (lN (2))), (2, .int (iZ (tp (n)))), (0, .long (lN (n)))]) C.1 C.2.1 dX5_isIrreducible_15 rfl hl (by decide) rfl (fun ls hl => ?_)
    have L16 : ∀ (j : Nat) (f : Nat) (x3 : Nat) (ls : Array Slot), f < j → (f + x3 = irE n) → (2 ≤ x3) → (irF n f x3 = ir n) → (1 ≤ tp n) → lv_has ls 5 [(0, .long (lN (n))), (2, .int (iZ (tp (n)))), (3, .long (lN (x3)))] → W p l e { frames := 3, cells := 0, slots := 0, locals := 76 } s m ([.long (lN (n))] : List Value).toArray below meth c s.heap [] 0 0 (zQ below [.long (lN (n))] s (.int (iZ (zB (ir n))))) (F0 m 16 ls []) := by
      intro j
      induction j with
      | zero => intro f x3 ls hmu; exact absurd hmu (Nat.not_lt_zero _)
      | succ j ih16 =>
        intro f x3 ls hmu i16_0 i16_1 i16_2 i16_3 hl
        have hq := irE_rng i16_3 (tp_rng hn).2
        have he := irE_tp (n := n) (p := x3) i16_3
        have hx3 : x3 < 18446744073709551616 := by omega
        have ht3 := tp_rng hx3
        refine z_iconst C dX5_isIrreducible_16 ?_
        refine lv_lload_n C.1 C.2.1 dX5_isIrreducible_17 rfl (lv_at hl 2 rfl) ?_
        refine z_call C (c_X5_degreeOf l (x3) (by first | assumption | omega | rfl | exact decide_eq_false (by omega) | exact decide_eq_true (by assumption) | exact decide_eq_true (by omega) | exact one_shl33 (by omega) | exact pm_lt _ _ | exact rm_lt (by first | assumption | exact pm_lt _ _) | exact Nat.lt_of_le_of_lt (Nat.shiftRight_le _ _) (by assumption) | exact Nat.lt_of_le_of_lt Nat.and_le_right (by omega))) ml_X5_33 ⟨by decide, by decide⟩ ⟨Nat.le_refl _, Nat.le_refl _⟩ hl (Nat.le_of_ble_eq_true rfl) rfl dX5_isIrreducible_18 ?_
        have q18_0 := tp_rngE (x3) (by first | assumption | omega | exact pm_lt _ _ | exact rm_lt (by assumption))
        refine z_imul C dX5_isIrreducible_21 ?_
        refine lv_iload_n C.1 C.2.1 dX5_isIrreducible_22 rfl (lv_at hl 1 rfl) ?_
        refine z_icmp_gt (tgt := 45) C (by omega) (by omega) dX5_isIrreducible_23 (by decide) (fun h23 => ?_) (fun h23 => ?_)
        · refine z_iconst C dX5_isIrreducible_45 ?_
          exact z_zret C hr hk dX5_isIrreducible_46 (by decide) (congrArg (fun z : Int => Value.int (iZ z)) (by have h29b := mt he.mpr (by omega); rw [show f = 0 by omega] at i16_2; exact zB_t i16_2.symm))
        · refine lv_lload_n C.1 C.2.1 dX5_isIrreducible_26 rfl (lv_at hl 0 rfl) ?_
          refine lv_lload_n C.1 C.2.1 dX5_isIrreducible_27 rfl (lv_at hl 2 rfl) ?_
          refine z_call C (c_X5_restOf l (n) (x3) (by first | assumption | omega | rfl | exact decide_eq_false (by omega) | exact decide_eq_true (by assumption) | exact decide_eq_true (by omega) | exact one_shl33 (by omega) | exact pm_lt _ _ | exact rm_lt (by first | assumption | exact pm_lt _ _) | exact Nat.lt_of_le_of_lt (Nat.shiftRight_le _ _) (by assumption) | exact Nat.lt_of_le_of_lt Nat.and_le_right (by omega)) (by first | assumption | omega | rfl | exact decide_eq_false (by omega) | exact decide_eq_true (by assumption) | exact decide_eq_true (by omega) | exact one_shl33 (by omega) | exact pm_lt _ _ | exact rm_lt (by first | assumption | exact pm_lt _ _) | exact Nat.lt_of_le_of_lt (Nat.shiftRight_le _ _) (by assumption) | exact Nat.lt_of_le_of_lt Nat.and_le_right (by omega)) (by first | assumption | omega | rfl | exact decide_eq_false (by omega) | exact decide_eq_true (by assumption) | exact decide_eq_true (by omega) | exact one_shl33 (by omega) | exact pm_lt _ _ | exact rm_lt (by first | assumption | exact pm_lt _ _) | exact Nat.lt_of_le_of_lt (Nat.shiftRight_le _ _) (by assumption) | exact Nat.lt_of_le_of_lt Nat.and_le_right (by omega))) ml_X5_46 ⟨by decide, by decide⟩ ⟨Nat.le_refl _, Nat.le_refl _⟩ hl (Nat.le_of_ble_eq_true rfl) rfl dX5_isIrreducible_28 ?_
          refine z_lconst (k0 := 0) C dX5_isIrreducible_31 rfl ?_
          refine z_lc_ne (tgt := 38) C (by exact rm_lt hn) (by omega) dX5_isIrreducible_32 dX5_isIrreducible_33 (by decide) (fun h32 => ?_) (fun h32 => ?_)
          · refine lv_lload_n C.1 C.2.1 dX5_isIrreducible_38 rfl (lv_at hl 2 rfl) ?_
            refine z_lconst (k0 := 1) C dX5_isIrreducible_39 rfl ?_
            refine z_ladd C dX5_isIrreducible_40 ?_
            refine lv_lstore_n (lv' := [(3, .long (lN ((x3) + (1)))), (0, .long (lN (n))), (2, .int (iZ (tp (n))))]) C.1 C.2.1 dX5_isIrreducible_41 rfl hl (by decide) rfl (fun ls hl => ?_)
            refine lv_goto (tgt := 16) C.1 C.2.1 dX5_isIrreducible_42 (by decide) ?_
            have h29b := he.mp h23
            obtain ⟨f, rfl⟩ : ∃ g, f = g + 1 := ⟨f - 1, by omega⟩
            rw [irF_f h32] at i16_2
            exact ih16 (f) _ _ (by omega) (by omega) (by omega) (by exact i16_2) (by exact i16_3) (lv_sub hl [1, 2, 0] rfl)
          · refine z_iconst C dX5_isIrreducible_36 ?_
            exact z_zret C hr hk dX5_isIrreducible_37 (by decide) (congrArg (fun z : Int => Value.int (iZ z)) (by have h29b := he.mp h23; obtain ⟨f, rfl⟩ : ∃ g, f = g + 1 := ⟨f - 1, by omega⟩; rw [irF_t h32] at i16_2; exact zB_f i16_2.symm))
    have hq := irE_rng (n := n) (by omega) (tp_rng hn).2
    exact L16 _ (irE n - 2) _ _ (by exact Nat.lt_succ_self _) (by omega) (by omega) (by rw [ir, if_neg (by omega)]) (by omega) (lv_sub hl [2, 1, 0] rfl)
  · refine z_iconst C dX5_isIrreducible_10 ?_
    exact z_zret C hr hk dX5_isIrreducible_11 (by decide) (congrArg (fun z : Int => Value.int (iZ z)) (by exact zB_f (by rw [ir, if_pos h7])))

set_option maxHeartbeats 4000000 in
set_option maxRecDepth 100000 in
theorem c_X5_rankOf (l : Launch) (n : Nat) (hn : n < 512) : zP l yX5_rankOf 4 124 [.long (lN (n))] (.int (iZ (rk n))) := by
  refine zP.intro (lo := 100) (nA := 1) (own := RX5) zs_X5_rankOf (by decide) rfl rfl (by decide +kernel) rfl (Nat.le_of_ble_eq_true rfl) ?_
  intro p e s m below meth c ls C hr hk hl
  have hl : lv_has ls 5 [(0, .long (lN (n)))] := hl
  have hnb : n < 18446744073709551616 := by omega
  have ht := tp_rng hnb
  have hge := tp_pow n
  refine lv_lload_n C.1 C.2.1 dX5_rankOf_0 rfl (lv_at hl 0 rfl) ?_
  refine z_call C (c_X5_isIrreducible l (n) (by first | assumption | omega | rfl | exact decide_eq_false (by omega) | exact decide_eq_true (by assumption) | exact decide_eq_true (by omega) | exact one_shl33 (by omega) | exact pm_lt _ _ | exact rm_lt (by first | assumption | exact pm_lt _ _) | exact Nat.lt_of_le_of_lt (Nat.shiftRight_le _ _) (by assumption) | exact Nat.lt_of_le_of_lt Nat.and_le_right (by omega))) ml_X5_49 ⟨by decide, by decide⟩ ⟨Nat.le_refl _, Nat.le_refl _⟩ hl (Nat.le_of_ble_eq_true rfl) rfl dX5_rankOf_1 ?_
  refine z_ifB_ne (tgt := 9) C dX5_rankOf_4 (by decide) (fun h4 => ?_) (fun h4 => ?_)
  · refine z_iconst C dX5_rankOf_9 ?_
    refine lv_istore_n (lv' := [(2, .int (iZ (0))), (0, .long (lN (n)))]) C.1 C.2.1 dX5_rankOf_10 rfl hl (by decide) rfl (fun ls hl => ?_)
    refine z_lconst (k0 := 1) C dX5_rankOf_11 rfl ?_
    refine lv_lload_n C.1 C.2.1 dX5_rankOf_12 rfl (lv_at hl 1 rfl) ?_
    refine z_call C (c_X5_degreeOf l (n) (by first | assumption | omega | rfl | exact decide_eq_false (by omega) | exact decide_eq_true (by assumption) | exact decide_eq_true (by omega) | exact one_shl33 (by omega) | exact pm_lt _ _ | exact rm_lt (by first | assumption | exact pm_lt _ _) | exact Nat.lt_of_le_of_lt (Nat.shiftRight_le _ _) (by assumption) | exact Nat.lt_of_le_of_lt Nat.and_le_right (by omega))) ml_X5_33 ⟨by decide, by decide⟩ ⟨Nat.le_refl _, Nat.le_refl _⟩ hl (Nat.le_of_ble_eq_true rfl) rfl dX5_rankOf_13 ?_
    have q13_0 := tp_rngE (n) (by first | assumption | omega | exact pm_lt _ _ | exact rm_lt (by assumption))
    refine z_lshl C ((tp (n)).toNat) (by have h9 := ir_tp (n := n) h4; omega) (by omega) dX5_rankOf_16 ?_
    refine lv_lstore_n (lv' := [(3, .long (lN ((1) <<< ((tp (n)).toNat)))), (2, .int (iZ (0))), (0, .long (lN (n)))]) C.1 C.2.1 dX5_rankOf_17 rfl hl (by decide) rfl (fun ls hl => ?_)
    have L18 : ∀ (j : Nat) (f : Nat) (x2 : Int) (x3 : Nat) (ls : Array Slot), f < j → (f = n - x3) → (x3 ≤ n) → (cbF f x3 x2 = cb (2 ^ (tp n).toNat) n) → (0 ≤ x2) → (x2 ≤ (x3 : Int)) → lv_has ls 5 [(0, .long (lN (n))), (2, .int (iZ (x2))), (3, .long (lN (x3)))] → W p l e { frames := 4, cells := 0, slots := 0, locals := 100 } s m ([.long (lN (n))] : List Value).toArray below meth c s.heap [] 0 0 (zQ below [.long (lN (n))] s (.int (iZ (rk n)))) (F0 m 18 ls []) := by
      intro j
      induction j with
      | zero => intro f x2 x3 ls hmu; exact absurd hmu (Nat.not_lt_zero _)
      | succ j ih18 =>
        intro f x2 x3 ls hmu i18_0 i18_1 i18_2 i18_3 i18_4 hl
        refine lv_lload_n C.1 C.2.1 dX5_rankOf_18 rfl (lv_at hl 2 rfl) ?_
        refine lv_lload_n C.1 C.2.1 dX5_rankOf_19 rfl (lv_at hl 0 rfl) ?_
        refine z_lc_ge (tgt := 41) C (by first | assumption | omega | rfl | exact decide_eq_false (by omega) | exact decide_eq_true (by assumption) | exact decide_eq_true (by omega) | exact one_shl33 (by omega) | exact pm_lt _ _ | exact rm_lt (by first | assumption | exact pm_lt _ _) | exact Nat.lt_of_le_of_lt (Nat.shiftRight_le _ _) (by assumption) | exact Nat.lt_of_le_of_lt Nat.and_le_right (by omega)) (by first | assumption | omega | rfl | exact decide_eq_false (by omega) | exact decide_eq_true (by assumption) | exact decide_eq_true (by omega) | exact one_shl33 (by omega) | exact pm_lt _ _ | exact rm_lt (by first | assumption | exact pm_lt _ _) | exact Nat.lt_of_le_of_lt (Nat.shiftRight_le _ _) (by assumption) | exact Nat.lt_of_le_of_lt Nat.and_le_right (by omega)) dX5_rankOf_20 dX5_rankOf_21 (by decide) (fun h20 => ?_) (fun h20 => ?_)
        · refine lv_iload_n C.1 C.2.1 dX5_rankOf_41 rfl (lv_at hl 1 rfl) ?_
          exact z_iret C hr hk dX5_rankOf_42 (congrArg (fun z : Int => Value.int (iZ z)) (by rw [show f = 0 by omega] at i18_2; rw [rk, if_pos h4]; exact i18_2))
        · refine lv_iload_n C.1 C.2.1 dX5_rankOf_24 rfl (lv_at hl 1 rfl) ?_
          refine lv_lload_n C.1 C.2.1 dX5_rankOf_25 rfl (lv_at hl 2 rfl) ?_
          refine z_call C (c_X5_isIrreducible l (x3) (by first | assumption | omega | rfl | exact decide_eq_false (by omega) | exact decide_eq_true (by assumption) | exact decide_eq_true (by omega) | exact one_shl33 (by omega) | exact pm_lt _ _ | exact rm_lt (by first | assumption | exact pm_lt _ _) | exact Nat.lt_of_le_of_lt (Nat.shiftRight_le _ _) (by assumption) | exact Nat.lt_of_le_of_lt Nat.and_le_right (by omega))) ml_X5_49 ⟨by decide, by decide⟩ ⟨Nat.le_refl _, Nat.le_refl _⟩ hl (Nat.le_of_ble_eq_true rfl) rfl dX5_rankOf_26 ?_
          refine z_call C (c_X5_one l (ir (x3)) ) ml_X5_29 ⟨by decide, by decide⟩ ⟨Nat.le_refl _, Nat.le_refl _⟩ hl (Nat.le_of_ble_eq_true rfl) rfl dX5_rankOf_29 ?_
          have q29_0 := zB_rng (ir (x3))
          refine z_iadd C dX5_rankOf_32 ?_
          refine lv_istore_n (lv' := [(2, .int (iZ ((x2) + (zB (ir (x3)))))), (0, .long (lN (n))), (3, .long (lN (x3)))]) C.1 C.2.1 dX5_rankOf_33 rfl hl (by decide) rfl (fun ls hl => ?_)
          refine lv_lload_n C.1 C.2.1 dX5_rankOf_34 rfl (lv_at hl 2 rfl) ?_
          refine z_lconst (k0 := 1) C dX5_rankOf_35 rfl ?_
          refine z_ladd C dX5_rankOf_36 ?_
          refine lv_lstore_n (lv' := [(3, .long (lN ((x3) + (1)))), (2, .int (iZ ((x2) + (zB (ir (x3)))))), (0, .long (lN (n)))]) C.1 C.2.1 dX5_rankOf_37 rfl hl (by decide) rfl (fun ls hl => ?_)
          refine lv_goto (tgt := 18) C.1 C.2.1 dX5_rankOf_38 (by decide) ?_
          obtain ⟨f, rfl⟩ : ∃ g, f = g + 1 := ⟨f - 1, by omega⟩
          rw [cbF] at i18_2
          exact ih18 (f) _ _ _ (by omega) (by omega) (by omega) (by exact i18_2) (by omega) (by omega) (lv_sub hl [2, 1, 0] rfl)
    have e1 : 1 <<< (tp n).toNat = 2 ^ (tp n).toNat := by rw [Nat.shiftLeft_eq, Nat.one_mul]
    have h9 := ir_tp (n := n) h4
    have h8 := hge (by omega)
    exact L18 _ (n - 2 ^ (tp n).toNat) _ _ _ (by exact Nat.lt_succ_self _) (by rw [e1]) (by rw [e1]; exact h8) (by rw [e1]; rfl) (by omega) (by exact Int.natCast_nonneg _) (lv_sub hl [2, 1, 0] rfl)
  · refine z_iconst C dX5_rankOf_7 ?_
    exact z_iret C hr hk dX5_rankOf_8 (congrArg (fun z : Int => Value.int (iZ z)) (by rw [rk, h4]; rfl))

set_option maxHeartbeats 4000000 in
set_option maxRecDepth 100000 in
theorem c_X5_howMany (l : Launch) (d : Int) (hd : 1 ≤ d ∧ d ≤ 8) : zP l yX5_howMany 4 123 [.int (iZ (d))] (.int (iZ (cb (2 ^ d.toNat) (2 ^ (d.toNat + 1))))) := by
  refine zP.intro (lo := 100) (nA := 1) (own := RX5) zs_X5_howMany (by decide) rfl rfl (by decide +kernel) rfl (Nat.le_of_ble_eq_true rfl) ?_
  intro p e s m below meth c ls C hr hk hl
  have hl : lv_has ls 4 [(0, .int (iZ (d)))] := hl
  have hp := pow_8 (d := d.toNat) (by omega)
  have hps := pow_s d.toNat
  have e1 : 1 <<< d.toNat = 2 ^ d.toNat := by rw [Nat.shiftLeft_eq, Nat.one_mul]
  have e2 : 2 <<< d.toNat = 2 ^ (d.toNat + 1) := by rw [Nat.shiftLeft_eq]; omega
  refine z_iconst C dX5_howMany_0 ?_
  refine lv_istore_n (lv' := [(1, .int (iZ (0))), (0, .int (iZ (d)))]) C.1 C.2.1 dX5_howMany_1 rfl hl (by decide) rfl (fun ls hl => ?_)
  refine z_lconst (k0 := 1) C dX5_howMany_2 rfl ?_
  refine lv_iload_n C.1 C.2.1 dX5_howMany_3 rfl (lv_at hl 1 rfl) ?_
  refine z_lshl C ((d).toNat) (by omega) (by omega) dX5_howMany_4 ?_
  refine lv_lstore_n (lv' := [(2, .long (lN ((1) <<< ((d).toNat)))), (1, .int (iZ (0))), (0, .int (iZ (d)))]) C.1 C.2.1 dX5_howMany_5 rfl hl (by decide) rfl (fun ls hl => ?_)
  have L6 : ∀ (j : Nat) (f : Nat) (x1 : Int) (x2 : Nat) (ls : Array Slot), f < j → (f = 2 ^ (d.toNat + 1) - x2) → (x2 ≤ 512) → (cbF f x2 x1 = cb (2 ^ d.toNat) (2 ^ (d.toNat + 1))) → (0 ≤ x1) → (x1 ≤ (x2 : Int)) → lv_has ls 4 [(0, .int (iZ (d))), (1, .int (iZ (x1))), (2, .long (lN (x2)))] → W p l e { frames := 4, cells := 0, slots := 0, locals := 100 } s m ([.int (iZ (d))] : List Value).toArray below meth c s.heap [] 0 0 (zQ below [.int (iZ (d))] s (.int (iZ (cb (2 ^ d.toNat) (2 ^ (d.toNat + 1)))))) (F0 m 6 ls []) := by
    intro j
    induction j with
    | zero => intro f x1 x2 ls hmu; exact absurd hmu (Nat.not_lt_zero _)
    | succ j ih6 =>
      intro f x1 x2 ls hmu i6_0 i6_1 i6_2 i6_3 i6_4 hl
      refine lv_lload_n C.1 C.2.1 dX5_howMany_6 rfl (lv_at hl 2 rfl) ?_
      refine z_ldc2 C 2 (T0_of kl_X5_44 rfl) (by decide) dX5_howMany_7 ?_
      refine lv_iload_n C.1 C.2.1 dX5_howMany_10 rfl (lv_at hl 0 rfl) ?_
      refine z_lshl C ((d).toNat) (by omega) (by omega) dX5_howMany_11 ?_
      refine z_lc_ge (tgt := 33) C (by omega) (by rw [e2]; omega) dX5_howMany_12 dX5_howMany_13 (by decide) (fun h12 => ?_) (fun h12 => ?_)
      · refine lv_iload_n C.1 C.2.1 dX5_howMany_33 rfl (lv_at hl 1 rfl) ?_
        exact z_iret C hr hk dX5_howMany_34 (congrArg (fun z : Int => Value.int (iZ z)) (by have h12b : 2 ^ (d.toNat + 1) ≤ x2 := (by rw [← e2]; exact h12); rw [show f = 0 by omega] at i6_2; exact i6_2))
      · refine lv_iload_n C.1 C.2.1 dX5_howMany_16 rfl (lv_at hl 1 rfl) ?_
        refine lv_lload_n C.1 C.2.1 dX5_howMany_17 rfl (lv_at hl 2 rfl) ?_
        refine z_call C (c_X5_isIrreducible l (x2) (by first | assumption | omega | rfl | exact decide_eq_false (by omega) | exact decide_eq_true (by assumption) | exact decide_eq_true (by omega) | exact one_shl33 (by omega) | exact pm_lt _ _ | exact rm_lt (by first | assumption | exact pm_lt _ _) | exact Nat.lt_of_le_of_lt (Nat.shiftRight_le _ _) (by assumption) | exact Nat.lt_of_le_of_lt Nat.and_le_right (by omega))) ml_X5_49 ⟨by decide, by decide⟩ ⟨Nat.le_refl _, Nat.le_refl _⟩ hl (Nat.le_of_ble_eq_true rfl) rfl dX5_howMany_18 ?_
        refine z_call C (c_X5_one l (ir (x2)) ) ml_X5_29 ⟨by decide, by decide⟩ ⟨Nat.le_refl _, Nat.le_refl _⟩ hl (Nat.le_of_ble_eq_true rfl) rfl dX5_howMany_21 ?_
        have q21_0 := zB_rng (ir (x2))
        refine z_iadd C dX5_howMany_24 ?_
        refine lv_istore_n (lv' := [(1, .int (iZ ((x1) + (zB (ir (x2)))))), (0, .int (iZ (d))), (2, .long (lN (x2)))]) C.1 C.2.1 dX5_howMany_25 rfl hl (by decide) rfl (fun ls hl => ?_)
        refine lv_lload_n C.1 C.2.1 dX5_howMany_26 rfl (lv_at hl 2 rfl) ?_
        refine z_lconst (k0 := 1) C dX5_howMany_27 rfl ?_
        refine z_ladd C dX5_howMany_28 ?_
        refine lv_lstore_n (lv' := [(2, .long (lN ((x2) + (1)))), (1, .int (iZ ((x1) + (zB (ir (x2)))))), (0, .int (iZ (d)))]) C.1 C.2.1 dX5_howMany_29 rfl hl (by decide) rfl (fun ls hl => ?_)
        refine lv_goto (tgt := 6) C.1 C.2.1 dX5_howMany_30 (by decide) ?_
        obtain ⟨f, rfl⟩ : ∃ g, f = g + 1 := ⟨f - 1, by have h12b : x2 < 2 ^ (d.toNat + 1) := (by rw [← e2]; exact h12); omega⟩
        rw [cbF] at i6_2
        exact ih6 (f) _ _ _ (by omega) (by omega) (by omega) (by exact i6_2) (by omega) (by omega) (lv_sub hl [2, 1, 0] rfl)
  exact L6 _ (2 ^ (d.toNat + 1) - 2 ^ d.toNat) _ _ _ (by exact Nat.lt_succ_self _) (by rw [e1]) (by rw [e1]; omega) (by rw [e1]; rfl) (by omega) (by omega) (lv_sub hl [2, 1, 0] rfl)
/-! ===== an object with six longs: Carryfree (kind 2 of vwCl), CarryfreeModel (kind 4) ===== -/
section OA
/-- the world of one object: its row of longs at a, its other fields -/
def wO (ci : Nat) (cJ : ClassId) (o a : Nat) (c : Nat → Nat) (fs : List Value) : va_W := [(o, .inr (ci, .ref a :: fs)), (a, .inl (cJ, 6, .inr (.inl (fun k => lN (c k)))))]
def zu (c : Nat → Nat) (k x : Nat) : Nat → Nat := fun j => if j = k then x else c j
theorem zu_s {c : Nat → Nat} {k x : Nat} : zu c k x k = x := if_pos rfl
theorem zu_lt {c : Nat → Nat} {k x B : Nat} (h : ∀ j, c j < B) (hx : x < B) : ∀ j, zu c k x j < B := by
  intro j
  unfold zu
  split
  · exact hx
  · exact h j
theorem zu_L (c : Nat → Nat) (k x : Nat) : vp_updL (fun j => lN (c j)) k (lN x) = fun j => lN (zu c k x j) := by
  funext j
  simp only [vp_updL, zu]
  split <;> rfl
/-- the object in a heap; its numbers are below 2 ^ 64 -/
def AtO (D : va_G) (ci : Nat) (cJ : ClassId) (o a : Nat) (c : Nat → Nat) (fs : List Value) (U : State) (H : Heap) : Prop :=
  va_P D vwCl (wO ci cJ o a c fs) H ∧ va_K D vwCl [(cJ, .long)] U ∧ o ≠ a ∧ ∀ k, c k < 8589934592
/-- what its methods may change -/
def zF (o a sz : Nat) : Nat → Prop := fun q => q = o ∨ q = a ∨ sz ≤ q
theorem AtO.D {D : va_G} {ci : Nat} {cJ : ClassId} {o a sz : Nat} {c : Nat → Nat} {fs : List Value} {U : State} {H : Heap} (h : AtO D ci cJ o a c fs U H) : va_D (zF o a sz) (wO ci cJ o a c fs) := by
  refine ⟨fun i j p q hp hq hpq => ?_, fun k q hk => ?_⟩
  · match i, j, hp, hq with
    | 0, 0, _, _ => rfl
    | 1, 1, _, _ => rfl
    | 0, 1, hp, hq => cases hp; cases hq; exact absurd hpq h.2.2.1
    | 1, 0, hp, hq => cases hp; cases hq; exact absurd hpq.symm h.2.2.1
    | i + 2, _, hp, _ => simp [wO] at hp
    | 0, j + 2, _, hq => simp [wO] at hq
    | 1, j + 2, _, hq => simp [wO] at hq
  · match k, hk with
    | 0, hk => cases hk; exact Or.inl rfl
    | 1, hk => cases hk; exact Or.inr (Or.inl rfl)
    | k + 2, hk => simp [wO] at hk
theorem AtO.moved {D : va_G} {ci : Nat} {cJ : ClassId} {o a : Nat} {c : Nat → Nat} {fs : List Value} {u U : State} {H : Heap} (hvm : u.vm.Alike U.vm) (h : AtO D ci cJ o a c fs u H) : AtO D ci cJ o a c fs U H := ⟨h.1, va_K.moved hvm h.2.1, h.2.2.1, h.2.2.2⟩
theorem AtO.lt {D : va_G} {ci : Nat} {cJ : ClassId} {o a : Nat} {c : Nat → Nat} {fs : List Value} {U : State} {H : Heap} (h : AtO D ci cJ o a c fs U H) : o < H.size ∧ a < H.size := ⟨(h.1 0 _ rfl).lt, (h.1 1 _ rfl).lt⟩
theorem AtO.kept {D : va_G} {ci : Nat} {cJ : ClassId} {o a : Nat} {c : Nat → Nat} {fs : List Value} {U : State} {H H1 : Heap} (h : AtO D ci cJ o a c fs U H) (ho : H1[o]? = H[o]?) (ha : H1[a]? = H[a]?) : AtO D ci cJ o a c fs U H1 := by
  refine ⟨h.1.kept (fun k q hk => ?_), h.2⟩
  match k, hk with
  | 0, hk => cases hk; exact ho
  | 1, hk => cases hk; exact ha
  | k + 2, hk => simp [wO] at hk
/-- inside one of its methods: s is the state at the method's start -/
def zIn (D : va_G) (ci : Nat) (cJ : ClassId) (o a : Nat) (c : Nat → Nat) (fs : List Value) (s : State) (H : Heap) (locs : List Loc) : Prop :=
  AtO D ci cJ o a c fs s H ∧ va_S (zF o a s.heap.size) s.heap H locs
/-- a method of the object, that returns: rv says what, c2 and fs2 are what is held then -/
def zA (l : Launch) (y : MethodName) (fr need mc ms : Nat) (D : va_G) (ci : Nat) (cJ : ClassId) (o a : Nat) (as : List Value) (c : Nat → Nat) (fs : List Value) (rv : Option Value → Prop) (c2 : Nat → Nat) (fs2 : List Value) : Prop :=
  ∃ (bytes : ByteArray) (maxL lo : Nat) (ret : Option FieldType), zI y bytes maxL ret ∧ need = 8 + (maxL + 11) + lo ∧
    (y.cls = y.cls ∧ y.cls ≠ "java/lang/invoke/MethodHandle" ∧ y.cls ≠ "java/lang/invoke/VarHandle" ∧ (parseMethodDescriptor y.desc).map (fun d => d.parameters.length) = some as.length) ∧
    ∀ sz : Nat, Met l y (Cond.code y bytes maxL ret :: T0) { frames := fr, cells := mc, slots := ms, locals := lo } (fun v U => v = (Value.ref o :: as).toArray ∧ U.heap.size = sz ∧ AtO D ci cJ o a c fs U U.heap)
      (fun _ st oc t => (∃ v, oc = .returned v ∧ rv v) ∧ AtO D ci cJ o a c2 fs2 t t.heap ∧ va_F (zF o a sz) st t) mc ms (zF o a sz)
/-- what such a method owes at its end -/
abbrev zE1 (below : List Frame) (D : va_G) (ci : Nat) (cJ : ClassId) (o a : Nat) (av : Array Value) (s : State) (mc ms : Nat) (rv : Option Value → Prop) (c2 : Nat → Nat) (fs2 : List Value) : State → Prop :=
  MQ below (fun _ st oc t => (∃ v, oc = .returned v ∧ rv v) ∧ AtO D ci cJ o a c2 fs2 t t.heap ∧ va_F (zF o a s.heap.size) st t) av s mc ms (zF o a s.heap.size)
theorem zA.intro {l : Launch} {y : MethodName} {fr need lo nA mc ms : Nat} {D : va_G} {ci : Nat} {cJ : ClassId} {o a : Nat} {as : List Value} {c : Nat → Nat} {fs : List Value} {rv : Option Value → Prop} {c2 : Nat → Nat} {fs2 : List Value} {cc : ByteArray} {maxL : Nat} {ret : Option FieldType} {own : String} (hz : zI y cc maxL ret) (hy : plainName y.cls = true) (ho : own = y.cls) (hn : need = 8 + (maxL + 11) + lo)
    (hd : y.cls ≠ "java/lang/invoke/MethodHandle" ∧ y.cls ≠ "java/lang/invoke/VarHandle" ∧ (parseMethodDescriptor y.desc).map (fun d => d.parameters.length) = some nA) (hA : as.length = nA) (hle : (lg_sl (.ref o :: as)).length ≤ maxL)
    (body : ∀ (p : Program) (e : Env) (s : State) (m : MethodId) (below : List Frame) (meth : Method) (c0 : Code) (ls : Array Slot), CallFix p m c0 cc maxL s (Value.ref o :: as).toArray T0 own → meth.sig.returnType = ret → meth.locks = false → zIn D ci cJ o a c fs s s.heap [] → lv_has ls maxL (lv_args 0 (.ref o :: as)) →
      W p l e { frames := fr, cells := mc, slots := ms, locals := lo } s m (Value.ref o :: as).toArray below meth c0 s.heap [] 0 0 (zE1 below D ci cJ o a (Value.ref o :: as).toArray s mc ms rv c2 fs2) (F0 m 0 ls [])) : zA l y fr need mc ms D ci cJ o a as c fs rv c2 fs2 := by
  subst hA
  refine ⟨cc, maxL, lo, ret, hz, hn, ⟨rfl, hd⟩, fun sz => ?_⟩
  refine Met.ofW (ws' := T0) hy rfl ?_
  intro p e s m args below meth c0 s₁ B hml hv
  obtain ⟨hv, hsz, hAt⟩ := hv
  subst hv
  subst hsz
  have hts := atoms_spec (ws := Cond.code y cc maxL ret :: T0) B.pre
  have hown : s.vm.findClass own = some m.cls := by rw [ho]; exact findClass_of_methodNamed B.named
  rw [lg_entry_eq]
  exact body p e s m below meth c0 _ ⟨B.exec, B.bytes, hml, hown, fun w h => hts w (List.mem_cons_of_mem _ h)⟩ B.returns B.notSynchronized ⟨hAt, va_S.rf⟩ (lv_entry (.ref o :: as) hle)
theorem zgV {own : String} {idx : Nat} {y : MethodName} {bytes : ByteArray} {maxL : Nat} {ret : Option FieldType} (h1 : Cond.methodLink own idx y ∈ lw_tbl) (h : zI y bytes maxL ret) : GoodIn T0 (wsV own idx y.cls y (Cond.code y bytes maxL ret :: T0)) := by
  intro w hw
  have hm : w ∈ T0 := by
    rcases List.mem_append.mp hw with hw | hw
    · simp only [List.mem_cons, List.not_mem_nil, or_false] at hw
      rcases hw with rfl | rfl | rfl | rfl
      · exact T0_of h1 rfl
      · exact T0_of h.1 rfl
      · exact T0_of h.2.1 rfl
      · exact T0_of h.2.2.1 rfl
    · rcases List.mem_cons.mp hw with rfl | hw
      · exact T0_of h.2.2.2 rfl
      · exact hw
  exact ⟨hm, T0_good hm⟩
end OA
section OB
variable {p : Program} {l : Launch} {e : Env} {R : Room} {s : State} {m : MethodId} {args : Array Value} {below : List Frame} {meth : Method} {c : Code} {H : Heap} {locs : List Loc} {cells slots : Nat} {Q : State → Prop}
variable {cc : ByteArray} {pc nL : Nat} {ls : Array Slot} {rest st : List Value} {own : String} {lv : List (Nat × Value)} {D : va_G} {ci : Nat} {cJ : ClassId} {o a : Nat} {ce : Nat → Nat} {fs : List Value}
theorem zo_get (C : CallFix p m c cc nL s args T0 own) (B : zIn D ci cJ o a ce fs s H locs) {Cn : String} {T : u_T} {N idx : Nat} (hc : vwCl[ci]? = some (Cn, T, N)) (hin : ∀ w ∈ u_ws Cn T N, w ∈ T0) (k : Nat) (hk : k < N) {ref : String} (hlink : Cond.fieldLink own idx ref (T k).2.1 (T k).2.2.1 ∈ lw_tbl) (href : (T k).1 = ref) {v : Value} (hv : (Value.ref a :: fs)[k]? = some v) (d : decode cc pc = .ok (.getfield idx, 3))
    (kk : W p l e R s m args below meth c H locs cells slots Q (F0 m (pc + 3) ls (v :: rest))) : W p l e R s m args below meth c H locs cells slots Q (F0 m pc ls (.ref o :: rest)) :=
  va_get (D := D) (cl := vwCl) (ws := wO ci cJ o a ce fs) (tys := [(cJ, .long)]) C.1 C.2.1 C.2.2.2.2 hin C.2.2.2.1 B.1.2.1 B.1.1 0 rfl hc k hk (C.2.2.2.2 _ (T0_of hlink rfl)) (fun x h => by rw [← href]; exact h) hv d kk
theorem zo_put (C : CallFix p m c cc nL s args T0 own) (B : zIn D ci cJ o a ce fs s H locs) {Cn : String} {T : u_T} {N idx : Nat} (hc : vwCl[ci]? = some (Cn, T, N)) (hin : ∀ w ∈ u_ws Cn T N, w ∈ T0) (ty0 : Nat → FieldType) (hty : ∀ k, k < N → parseFieldDescriptor (T k).2.2.1 = some (ty0 k)) (hnm : ∀ a, a < N → ∀ b, b < N → a ≠ b → (T a).2.1 ≠ (T b).2.1)
    (k : Nat) (hk : k + 1 < N) {ref : String} (hlink : Cond.fieldLink own idx ref (T (k + 1)).2.1 (T (k + 1)).2.2.1 ∈ lw_tbl) (href : (T (k + 1)).1 = ref) (hfin : (T (k + 1)).2.2.2 = false) (hd : parseFieldDescriptor (T (k + 1)).2.2.1 = some .int) {x : Int32} {fs2 : List Value} (hl : k < fs.length) (hfs : fs.set k (.int x) = fs2) (d : decode cc pc = .ok (.putfield idx, 3))
    (kk : ∀ H1 locs1, zIn D ci cJ o a ce fs2 s H1 locs1 → W p l e R s m args below meth c H1 locs1 cells slots Q (F0 m (pc + 3) ls rest)) : W p l e R s m args below meth c H locs cells slots Q (F0 m pc ls (.int x :: .ref o :: rest)) := by
  subst hfs
  refine va_put (D := D) (cl := vwCl) (ws := wO ci cJ o a ce fs) (tys := [(cJ, .long)]) (v := .int x) (ty := .int) C.1 C.2.1 C.2.2.2.2 hin ty0 hty hnm C.2.2.2.1 B.1.2.1 B.1.1 (B.1.D (sz := s.heap.size)) B.2 0 rfl hc (k + 1) hk (C.2.2.2.2 _ (T0_of hlink rfl)) (fun y h => by rw [← href]; exact h) hfin hd rfl rfl (by show k + 1 < fs.length + 1; omega) d (fun H1 locs1 hP hD hS => ?_)
  exact kk H1 locs1 ⟨⟨hP, B.1.2⟩, hS⟩
theorem zo_lald (C : CallFix p m c cc nL s args T0 own) (B : zIn D ci cJ o a ce fs s H locs) {z : Int} (j : Nat) (hz : z = (j : Int)) (hj : j < 6) (d : decode cc pc = .ok (.laload, 1))
    (kk : W p l e R s m args below meth c H locs cells slots Q (F0 m (pc + 1) ls (.long (lN (ce j)) :: rest))) : W p l e R s m args below meth c H locs cells slots Q (F0 m pc ls (.int (iZ z) :: .ref a :: rest)) := by
  subst hz
  refine va_lald (D := D) (cl := vwCl) (ws := wO ci cJ o a ce fs) (tys := [(cJ, .long)]) (n := 6) (f := fun k => lN (ce k)) C.1 C.2.1 B.1.2.1 B.1.1 1 0 rfl rfl (iZ_in (by omega) (by omega)) d ?_
  have e1 : (iZ (j : Int)).toNatClampNeg = j := by rw [iZ_clamp (by omega)]; rfl
  rw [e1]
  exact kk
theorem zo_last (C : CallFix p m c cc nL s args T0 own) (B : zIn D ci cJ o a ce fs s H locs) {z : Int} {x : Nat} (j : Nat) (hz : z = (j : Int)) (hj : j < 6) (hx : x < 8589934592) (d : decode cc pc = .ok (.lastore, 1))
    (kk : ∀ H1 locs1, zIn D ci cJ o a (zu ce j x) fs s H1 locs1 → W p l e R s m args below meth c H1 locs1 cells slots Q (F0 m (pc + 1) ls rest)) : W p l e R s m args below meth c H locs cells slots Q (F0 m pc ls (.long (lN x) :: .int (iZ z) :: .ref a :: rest)) := by
  subst hz
  refine va_last (D := D) (cl := vwCl) (ws := wO ci cJ o a ce fs) (tys := [(cJ, .long)]) (n := 6) (f := fun k => lN (ce k)) (A := zF o a s.heap.size) C.1 C.2.1 B.1.2.1 B.1.1 (B.1.D (sz := s.heap.size)) B.2 1 0 rfl rfl (iZ_in (by omega) (by omega)) d (fun H1 locs1 hP hD hS => ?_)
  have e1 : (iZ (j : Int)).toNatClampNeg = j := by rw [iZ_clamp (by omega)]; rfl
  rw [e1, zu_L] at hP
  exact kk H1 locs1 ⟨⟨hP, B.1.2.1, B.1.2.2.1, zu_lt B.1.2.2.2 hx⟩, hS⟩
theorem zo_alen (C : CallFix p m c cc nL s args T0 own) (B : zIn D ci cJ o a ce fs s H locs) (d : decode cc pc = .ok (.arraylength, 1))
    (kk : W p l e R s m args below meth c H locs cells slots Q (F0 m (pc + 1) ls (.int (iZ 6) :: rest))) : W p l e R s m args below meth c H locs cells slots Q (F0 m pc ls (.ref a :: rest)) :=
  va_alen (D := D) (cl := vwCl) (ws := wO ci cJ o a ce fs) (tys := [(cJ, .long)]) C.1 C.2.1 B.1.2.1 B.1.1 1 0 rfl rfl rfl d kk
/-- a call of one of the object's own methods -/
theorem zo_call (C : CallFix p m c cc nL s args T0 own) (B : zIn D ci cJ o a ce fs s H locs) {y : MethodName} {fr need mc ms idx : Nat} {as : List Value} {rv : Option Value → Prop} {c2 : Nat → Nat} {fs2 : List Value} {T : u_T} {N : Nat} (hM : zA l y fr need mc ms D ci cJ o a as ce fs rv c2 fs2) (hG : Cond.methodLink own idx y ∈ lw_tbl) (hcl : vwCl[ci]? = some (y.cls, T, N))
    (hR : fr + 1 ≤ R.frames ∧ need ≤ R.locals) (hf : cells + mc ≤ R.cells ∧ slots + ms ≤ R.slots) (hl : lv_has ls nL lv) (hcat : (rest.map fun v => v.category).sum ≤ 8) (hst : st = as.reverse ++ .ref o :: rest) (d : decode cc pc = .ok (.invokevirtual idx, 3))
    (k : ∀ v H1 locs1, rv v → zIn D ci cJ o a c2 fs2 s H1 locs1 → W p l e R s m args below meth c H1 locs1 (cells + mc) (slots + ms) Q (F0 m (pc + 3) ls (v.toList ++ rest))) : W p l e R s m args below meth c H locs cells slots Q (F0 m pc ls st) := by
  obtain ⟨bytes, maxL, lo, ret, hz, hn, hd, hM⟩ := hM
  have hM := hM H.size
  have cw := cwV (R := R) (own := own) (index := idx) (C := y.cls) (y := y) (bytes := bytes) (maxL := maxL) (ret := ret) (ws := Cond.code y bytes maxL ret :: T0) (ws' := T0) (rm := { frames := fr, cells := mc, slots := ms, locals := lo }) (mc := mc) (ms := ms) as.length C.2.2.2.2 (zgV hG hz) rfl rfl rfl hd ⟨hR.1, by rw [hn] at hR; exact hR.2⟩
  have hr := va_runV (p := p) (l := l) (e := e) (below := below) (meth := meth) (c := c) (H := H) (locs := locs) (cells := cells) (slots := slots) (g := F0 m pc ls st) (rest := rest) C hM cw ⟨fun A U g mk q => ⟨q.1, q.2.1, q.2.2.moved (U := U.calling g mk A) (Vm.Alike.refl U.vm)⟩, va_recv B.1.2.1 B.1.1 (ci := ci) (q0 := 0) hcl rfl, fun U hU hW => ⟨rfl, by rw [hU], by rw [hU]; exact B.1.moved hW.alike⟩⟩ rfl rfl hl.1 hst (lv_room hcat) d hf
  intro T9 hT X
  obtain ⟨v2, st₀, t, T', L, h0, X', hL, e1, e2, ⟨⟨v3, hv, hrv⟩, hAt, hF⟩, st2⟩ := hr T9 hT X
  cases hv
  obtain ⟨hz2, hk2⟩ := hF
  rw [h0] at hz2 hk2
  have hss : s.heap.size ≤ H.size := B.2.1
  have hsub : ∀ q, zF o a H.size q → zF o a s.heap.size q := by
    intro q hq
    rcases hq with h | h | h
    · exact Or.inl h
    · exact Or.inr (Or.inl h)
    · exact Or.inr (Or.inr (Nat.le_trans hss h))
  have hS : va_S (zF o a s.heap.size) s.heap T'.heap (locs ++ L) := by
    refine ⟨Nat.le_trans hss (by rw [e1]; exact hz2), fun q h1 h2 => ?_, fun q hq => ?_⟩
    · rw [e1, hk2 q (Nat.lt_of_lt_of_le h1 hss) (fun z => h2 (hsub q z))]
      exact B.2.2.1 q h1 h2
    · rcases List.mem_append.mp hq with h | h
      · exact B.2.2.2 q h
      · exact hsub _ (hL q h)
  have hB : zIn D ci cJ o a c2 fs2 s T'.heap (locs ++ L) := by
    refine ⟨?_, hS⟩
    rw [e1]
    exact hAt.moved (by rw [← e2]; exact X'.warmed.alike.symm)
  obtain ⟨t2, a1, b1⟩ := k v2 T'.heap (locs ++ L) hrv hB T' rfl X'
  exact ⟨t2, st2 t2 a1, b1⟩
-- ends of such methods
theorem zo_iret {as : List Value} {mc ms : Nat} {rv : Option Value → Prop} {c2 : Nat → Nat} {fs2 : List Value} {r : Int32} (C : CallFix p m c cc nL s as.toArray T0 own) (B : zIn D ci cJ o a ce fs s H locs) (hr : meth.sig.returnType = some .int) (hk : meth.locks = false) (h1 : cells ≤ mc) (h2 : slots ≤ ms) (d : decode cc pc = .ok (.ireturn, 1)) (hv : rv (some (.int r))) (hc : ce = c2) (hfs : fs = fs2) : W p l e R s m as.toArray below meth c H locs cells slots (zE1 below D ci cJ o a as.toArray s mc ms rv c2 fs2) (F0 m pc ls [.int r]) := by
  subst hc hfs
  refine W.widen (k := mc) (n := ms) h1 h2 ?_
  exact W.iret C.1 C.2.1 hr (fun t ht hW => ⟨⟨_, rfl, hv⟩, by rw [ht]; exact B.1.moved hW.alike, B.2.F ht⟩) B.2.2.2 d hk
theorem zo_zret {as : List Value} {mc ms : Nat} {rv : Option Value → Prop} {c2 : Nat → Nat} {fs2 : List Value} {r : Int32} {ty : FieldType} (C : CallFix p m c cc nL s as.toArray T0 own) (B : zIn D ci cJ o a ce fs s H locs) (hr : meth.sig.returnType = some ty) (hk : meth.locks = false) (h1 : cells ≤ mc) (h2 : slots ≤ ms) (d : decode cc pc = .ok (.ireturn, 1)) (hn : narrow ty (.int r) = .int r) (hv : rv (some (.int r))) (hc : ce = c2) (hfs : fs = fs2) : W p l e R s m as.toArray below meth c H locs cells slots (zE1 below D ci cJ o a as.toArray s mc ms rv c2 fs2) (F0 m pc ls [.int r]) := by
  subst hc hfs
  refine W.widen (k := mc) (n := ms) h1 h2 ?_
  exact W.zret C.1 C.2.1 hr hn (fun t ht hW => ⟨⟨_, rfl, hv⟩, by rw [ht]; exact B.1.moved hW.alike, B.2.F ht⟩) B.2.2.2 d hk
theorem zo_lret {as : List Value} {mc ms : Nat} {rv : Option Value → Prop} {c2 : Nat → Nat} {fs2 : List Value} {r : Int64} (C : CallFix p m c cc nL s as.toArray T0 own) (B : zIn D ci cJ o a ce fs s H locs) (hr : meth.sig.returnType = some .long) (hk : meth.locks = false) (h1 : cells ≤ mc) (h2 : slots ≤ ms) (d : decode cc pc = .ok (.lreturn, 1)) (hv : rv (some (.long r))) (hc : ce = c2) (hfs : fs = fs2) : W p l e R s m as.toArray below meth c H locs cells slots (zE1 below D ci cJ o a as.toArray s mc ms rv c2 fs2) (F0 m pc ls [.long r]) := by
  subst hc hfs
  refine W.widen (k := mc) (n := ms) h1 h2 ?_
  exact W.lret C.1 C.2.1 hr (fun t ht hW => ⟨⟨_, rfl, hv⟩, by rw [ht]; exact B.1.moved hW.alike, B.2.F ht⟩) B.2.2.2 d hk
theorem zo_vret {as : List Value} {mc ms : Nat} {rv : Option Value → Prop} {c2 : Nat → Nat} {fs2 : List Value} (C : CallFix p m c cc nL s as.toArray T0 own) (B : zIn D ci cJ o a ce fs s H locs) (hr : meth.sig.returnType = none) (hk : meth.locks = false) (h1 : cells ≤ mc) (h2 : slots ≤ ms) (d : decode cc pc = .ok (.return_, 1)) (hv : rv none) (hc : ce = c2) (hfs : fs = fs2) : W p l e R s m as.toArray below meth c H locs cells slots (zE1 below D ci cJ o a as.toArray s mc ms rv c2 fs2) (F0 m pc ls []) := by
  subst hc hfs
  refine W.widen (k := mc) (n := ms) h1 h2 ?_
  exact W.vret C.1 C.2.1 hr (fun t ht hW => ⟨⟨_, rfl, hv⟩, by rw [ht]; exact B.1.moved hW.alike, B.2.F ht⟩) B.2.2.2 d hk
end OB
section OC
/-- an act: some x is laid into the cell k; none: it is refused. What is answered, and what is held then -/
def aR (c : Nat → Nat) (k : Nat) : Option Nat → Int
  | some x => if c k = x then 0 else 1
  | none => -9
def aC (c : Nat → Nat) (k : Nat) : Option Nat → Nat → Nat
  | some x => zu c k x
  | none => c
def aA (ac : Int32) : Option Nat → Int32
  | some _ => ac + iZ 1
  | none => ac
def aF (re : Int32) : Option Nat → Int32
  | some _ => re
  | none => re + iZ 1
theorem aR_rng (c : Nat → Nat) (k : Nat) (w : Option Nat) : -9 ≤ aR c k w ∧ aR c k w ≤ 1 := by
  cases w with
  | none => exact ⟨Int.le_refl _, show (-9 : Int) ≤ 1 by decide⟩
  | some x =>
    show -9 ≤ (if c k = x then (0 : Int) else 1) ∧ (if c k = x then (0 : Int) else 1) ≤ 1
    split <;> omega
variable {p : Program} {l : Launch} {e : Env} {R : Room} {s : State} {m : MethodId} {args : Array Value} {below : List Frame} {meth : Method} {c : Code} {H : Heap} {locs : List Loc} {cells slots : Nat} {Q : State → Prop}
variable {cc : ByteArray} {pc nL : Nat} {ls : Array Slot} {rest st : List Value} {own : String} {lv : List (Nat × Value)} {D : va_G} {ci : Nat} {cJ : ClassId} {o a : Nat} {ce : Nat → Nat} {fs : List Value}
/-- .. whose answer is known -/
theorem zo_callD (C : CallFix p m c cc nL s args T0 own) (B : zIn D ci cJ o a ce fs s H locs) {y : MethodName} {fr need mc ms idx : Nat} {as : List Value} {r : Option Value} {c2 : Nat → Nat} {fs2 : List Value} {T : u_T} {N : Nat} (hM : zA l y fr need mc ms D ci cJ o a as ce fs (fun v => v = r) c2 fs2) (hG : Cond.methodLink own idx y ∈ lw_tbl) (hcl : vwCl[ci]? = some (y.cls, T, N))
    (hR : fr + 1 ≤ R.frames ∧ need ≤ R.locals) (hf : cells + mc ≤ R.cells ∧ slots + ms ≤ R.slots) (hl : lv_has ls nL lv) (hcat : (rest.map fun v => v.category).sum ≤ 8) (hst : st = as.reverse ++ .ref o :: rest) (d : decode cc pc = .ok (.invokevirtual idx, 3))
    (k : ∀ H1 locs1, zIn D ci cJ o a c2 fs2 s H1 locs1 → W p l e R s m args below meth c H1 locs1 (cells + mc) (slots + ms) Q (F0 m (pc + 3) ls (r.toList ++ rest))) : W p l e R s m args below meth c H locs cells slots Q (F0 m pc ls st) :=
  zo_call C B hM hG hcl hR hf hl hcat hst d (fun v H1 locs1 hv hB => by subst hv; exact k H1 locs1 hB)
theorem z_lsub (C : CallFix p m c cc nL s args T0 own) {x y : Nat} (h : y ≤ x) (d : decode cc pc = .ok (.lsub, 1)) (k : W p l e R s m args below meth c H locs cells slots Q (F0 m (pc + 1) ls (.long (lN (x - y)) :: rest))) : W p l e R s m args below meth c H locs cells slots Q (F0 m pc ls (.long (lN y) :: .long (lN x) :: rest)) := lv_lsub C.1 C.2.1 d (by rw [lN_sub h]; exact k)
theorem z_iand127 (C : CallFix p m c cc nL s args T0 own) {z : Int} (n : Nat) (hz : z = (n : Int)) (hn : n < 18446744073709551616) (d : decode cc pc = .ok (.iand, 1)) (k : W p l e R s m args below meth c H locs cells slots Q (F0 m (pc + 1) ls (.int (iZ ((n % 128 : Nat) : Int)) :: rest))) : W p l e R s m args below meth c H locs cells slots Q (F0 m pc ls (.int (iZ 127) :: .int (iZ z) :: rest)) := by
  subst hz
  refine lv_iand C.1 C.2.1 d ?_
  have e1 : iZ (n : Int) &&& iZ 127 = nI (n % 128) := by
    rw [iZ_nI, pk_and (nI n) 7 (by decide)]
    congr 1
    show (BitVec.ofNat 32 n).toNat % 2 ^ 7 = n % 128
    rw [BitVec.toNat_ofNat]
    omega
  rw [e1, ← iZ_nI]
  exact k
end OC
set_option maxHeartbeats 4000000 in
set_option maxRecDepth 100000 in
theorem c_J13_bitCount_95d88 (l : Launch) (n : Nat) (hn : n < 8589934592) : zP l yJ13_bitCount_95d88 0 21 [.long (lN (n))] (.int (iZ (bc n))) := by
  refine zP.intro (lo := 0) (nA := 1) (own := RJ13) zs_J13_bitCount_95d88 (by decide) rfl rfl (by decide +kernel) rfl (Nat.le_of_ble_eq_true rfl) ?_
  intro p e s m below meth c ls C hr hk hl
  have hl : lv_has ls 2 [(0, .long (lN (n)))] := hl
  have h1 : (n >>> 1) &&& 6148914691236517205 ≤ n := Nat.le_trans Nat.and_le_left (Nat.shiftRight_le n 1)
  have h2 : bc1 n ≤ n := Nat.sub_le _ _
  have h3 : bc1 n &&& 3689348814741910323 ≤ bc1 n := Nat.and_le_left
  have h4 : (bc1 n >>> 2) &&& 3689348814741910323 ≤ bc1 n := Nat.le_trans Nat.and_le_left (Nat.shiftRight_le _ 2)
  have h5 : bc2 (bc1 n) ≤ 2 * bc1 n := (by unfold bc2; omega)
  have h6 : bc3 (bc2 (bc1 n)) ≤ 2 * bc2 (bc1 n) := Nat.le_trans Nat.and_le_left (by have := Nat.shiftRight_le (bc2 (bc1 n)) 4; omega)
  have h7 : ∀ k x : Nat, bcs k x ≤ 2 * x := (fun k x => by have := Nat.shiftRight_le x k; unfold bcs; omega)
  have h8 := h7 8 (bc3 (bc2 (bc1 n)))
  have h9 := h7 16 (bcs 8 (bc3 (bc2 (bc1 n))))
  have h10 := h7 32 (bcs 16 (bcs 8 (bc3 (bc2 (bc1 n)))))
  refine lv_lload_n C.1 C.2.1 dJ13_bitCount_95d88_0 rfl (lv_at hl 0 rfl) ?_
  refine lv_lload_n C.1 C.2.1 dJ13_bitCount_95d88_1 rfl (lv_at hl 0 rfl) ?_
  refine z_iconst C dJ13_bitCount_95d88_2 ?_
  refine z_lushr C (1) (by first | assumption | omega | rfl | exact decide_eq_false (by omega) | exact decide_eq_true (by assumption) | exact decide_eq_true (by omega) | exact one_shl33 (by omega) | exact pm_lt _ _ | exact rm_lt (by first | assumption | exact pm_lt _ _) | exact Nat.lt_of_le_of_lt (Nat.shiftRight_le _ _) (by assumption) | exact Nat.lt_of_le_of_lt Nat.and_le_right (by omega)) (by omega) (by omega) dJ13_bitCount_95d88_3 ?_
  refine z_ldc2 C 6148914691236517205 (T0_of kl_J13_314 rfl) (by decide) dJ13_bitCount_95d88_4 ?_
  refine z_land C dJ13_bitCount_95d88_7 ?_
  refine z_lsub C (by exact h1) dJ13_bitCount_95d88_8 ?_
  refine lv_lstore_n (lv' := [(0, .long (lN ((n) - (((n) >>> (1)) &&& (6148914691236517205)))))]) C.1 C.2.1 dJ13_bitCount_95d88_9 rfl hl (by decide) rfl (fun ls hl => ?_)
  refine lv_lload_n C.1 C.2.1 dJ13_bitCount_95d88_10 rfl (lv_at hl 0 rfl) ?_
  refine z_ldc2 C 3689348814741910323 (T0_of kl_J13_316 rfl) (by decide) dJ13_bitCount_95d88_11 ?_
  refine z_land C dJ13_bitCount_95d88_14 ?_
  refine lv_lload_n C.1 C.2.1 dJ13_bitCount_95d88_15 rfl (lv_at hl 0 rfl) ?_
  refine z_iconst C dJ13_bitCount_95d88_16 ?_
  refine z_lushr C (2) (by show bc1 n < _; omega) (by omega) (by omega) dJ13_bitCount_95d88_17 ?_
  refine z_ldc2 C 3689348814741910323 (T0_of kl_J13_316 rfl) (by decide) dJ13_bitCount_95d88_18 ?_
  refine z_land C dJ13_bitCount_95d88_21 ?_
  refine z_ladd C dJ13_bitCount_95d88_22 ?_
  refine lv_lstore_n (lv' := [(0, .long (lN ((((n) - (((n) >>> (1)) &&& (6148914691236517205))) &&& (3689348814741910323)) + ((((n) - (((n) >>> (1)) &&& (6148914691236517205))) >>> (2)) &&& (3689348814741910323)))))]) C.1 C.2.1 dJ13_bitCount_95d88_23 rfl hl (by decide) rfl (fun ls hl => ?_)
  refine lv_lload_n C.1 C.2.1 dJ13_bitCount_95d88_24 rfl (lv_at hl 0 rfl) ?_
  refine lv_lload_n C.1 C.2.1 dJ13_bitCount_95d88_25 rfl (lv_at hl 0 rfl) ?_
  refine z_iconst C dJ13_bitCount_95d88_26 ?_
  refine z_lushr C (4) (by show bc2 (bc1 n) < _; omega) (by omega) (by omega) dJ13_bitCount_95d88_27 ?_
  refine z_ladd C dJ13_bitCount_95d88_28 ?_
  refine z_ldc2 C 1085102592571150095 (T0_of kl_J13_318 rfl) (by decide) dJ13_bitCount_95d88_29 ?_
  refine z_land C dJ13_bitCount_95d88_32 ?_
  refine lv_lstore_n (lv' := [(0, .long (lN ((((((n) - (((n) >>> (1)) &&& (6148914691236517205))) &&& (3689348814741910323)) + ((((n) - (((n) >>> (1)) &&& (6148914691236517205))) >>> (2)) &&& (3689348814741910323))) + (((((n) - (((n) >>> (1)) &&& (6148914691236517205))) &&& (3689348814741910323)) + ((((n) - (((n) >>> (1)) &&& (6148914691236517205))) >>> (2)) &&& (3689348814741910323))) >>> (4))) &&& (1085102592571150095))))]) C.1 C.2.1 dJ13_bitCount_95d88_33 rfl hl (by decide) rfl (fun ls hl => ?_)
  refine lv_lload_n C.1 C.2.1 dJ13_bitCount_95d88_34 rfl (lv_at hl 0 rfl) ?_
  refine lv_lload_n C.1 C.2.1 dJ13_bitCount_95d88_35 rfl (lv_at hl 0 rfl) ?_
  refine z_bipush C dJ13_bitCount_95d88_36 (by decide) ?_
  refine z_lushr C (8) (by show bc3 (bc2 (bc1 n)) < _; omega) (by omega) (by omega) dJ13_bitCount_95d88_38 ?_
  refine z_ladd C dJ13_bitCount_95d88_39 ?_
  refine lv_lstore_n (lv' := [(0, .long (lN (((((((n) - (((n) >>> (1)) &&& (6148914691236517205))) &&& (3689348814741910323)) + ((((n) - (((n) >>> (1)) &&& (6148914691236517205))) >>> (2)) &&& (3689348814741910323))) + (((((n) - (((n) >>> (1)) &&& (6148914691236517205))) &&& (3689348814741910323)) + ((((n) - (((n) >>> (1)) &&& (6148914691236517205))) >>> (2)) &&& (3689348814741910323))) >>> (4))) &&& (1085102592571150095)) + (((((((n) - (((n) >>> (1)) &&& (6148914691236517205))) &&& (3689348814741910323)) + ((((n) - (((n) >>> (1)) &&& (6148914691236517205))) >>> (2)) &&& (3689348814741910323))) + (((((n) - (((n) >>> (1)) &&& (6148914691236517205))) &&& (3689348814741910323)) + ((((n) - (((n) >>> (1)) &&& (6148914691236517205))) >>> (2)) &&& (3689348814741910323))) >>> (4))) &&& (1085102592571150095)) >>> (8)))))]) C.1 C.2.1 dJ13_bitCount_95d88_40 rfl hl (by decide) rfl (fun ls hl => ?_)
  refine lv_lload_n C.1 C.2.1 dJ13_bitCount_95d88_41 rfl (lv_at hl 0 rfl) ?_
  refine lv_lload_n C.1 C.2.1 dJ13_bitCount_95d88_42 rfl (lv_at hl 0 rfl) ?_
  refine z_bipush C dJ13_bitCount_95d88_43 (by decide) ?_
  refine z_lushr C (16) (by show bcs 8 (bc3 (bc2 (bc1 n))) < _; omega) (by omega) (by omega) dJ13_bitCount_95d88_45 ?_
  refine z_ladd C dJ13_bitCount_95d88_46 ?_
  refine lv_lstore_n (lv' := [(0, .long (lN ((((((((n) - (((n) >>> (1)) &&& (6148914691236517205))) &&& (3689348814741910323)) + ((((n) - (((n) >>> (1)) &&& (6148914691236517205))) >>> (2)) &&& (3689348814741910323))) + (((((n) - (((n) >>> (1)) &&& (6148914691236517205))) &&& (3689348814741910323)) + ((((n) - (((n) >>> (1)) &&& (6148914691236517205))) >>> (2)) &&& (3689348814741910323))) >>> (4))) &&& (1085102592571150095)) + (((((((n) - (((n) >>> (1)) &&& (6148914691236517205))) &&& (3689348814741910323)) + ((((n) - (((n) >>> (1)) &&& (6148914691236517205))) >>> (2)) &&& (3689348814741910323))) + (((((n) - (((n) >>> (1)) &&& (6148914691236517205))) &&& (3689348814741910323)) + ((((n) - (((n) >>> (1)) &&& (6148914691236517205))) >>> (2)) &&& (3689348814741910323))) >>> (4))) &&& (1085102592571150095)) >>> (8))) + ((((((((n) - (((n) >>> (1)) &&& (6148914691236517205))) &&& (3689348814741910323)) + ((((n) - (((n) >>> (1)) &&& (6148914691236517205))) >>> (2)) &&& (3689348814741910323))) + (((((n) - (((n) >>> (1)) &&& (6148914691236517205))) &&& (3689348814741910323)) + ((((n) - (((n) >>> (1)) &&& (6148914691236517205))) >>> (2)) &&& (3689348814741910323))) >>> (4))) &&& (1085102592571150095)) + (((((((n) - (((n) >>> (1)) &&& (6148914691236517205))) &&& (3689348814741910323)) + ((((n) - (((n) >>> (1)) &&& (6148914691236517205))) >>> (2)) &&& (3689348814741910323))) + (((((n) - (((n) >>> (1)) &&& (6148914691236517205))) &&& (3689348814741910323)) + ((((n) - (((n) >>> (1)) &&& (6148914691236517205))) >>> (2)) &&& (3689348814741910323))) >>> (4))) &&& (1085102592571150095)) >>> (8))) >>> (16)))))]) C.1 C.2.1 dJ13_bitCount_95d88_47 rfl hl (by decide) rfl (fun ls hl => ?_)
  refine lv_lload_n C.1 C.2.1 dJ13_bitCount_95d88_48 rfl (lv_at hl 0 rfl) ?_
  refine lv_lload_n C.1 C.2.1 dJ13_bitCount_95d88_49 rfl (lv_at hl 0 rfl) ?_
  refine z_bipush C dJ13_bitCount_95d88_50 (by decide) ?_
  refine z_lushr C (32) (by show bcs 16 (bcs 8 (bc3 (bc2 (bc1 n)))) < _; omega) (by omega) (by omega) dJ13_bitCount_95d88_52 ?_
  refine z_ladd C dJ13_bitCount_95d88_53 ?_
  refine lv_lstore_n (lv' := [(0, .long (lN (((((((((n) - (((n) >>> (1)) &&& (6148914691236517205))) &&& (3689348814741910323)) + ((((n) - (((n) >>> (1)) &&& (6148914691236517205))) >>> (2)) &&& (3689348814741910323))) + (((((n) - (((n) >>> (1)) &&& (6148914691236517205))) &&& (3689348814741910323)) + ((((n) - (((n) >>> (1)) &&& (6148914691236517205))) >>> (2)) &&& (3689348814741910323))) >>> (4))) &&& (1085102592571150095)) + (((((((n) - (((n) >>> (1)) &&& (6148914691236517205))) &&& (3689348814741910323)) + ((((n) - (((n) >>> (1)) &&& (6148914691236517205))) >>> (2)) &&& (3689348814741910323))) + (((((n) - (((n) >>> (1)) &&& (6148914691236517205))) &&& (3689348814741910323)) + ((((n) - (((n) >>> (1)) &&& (6148914691236517205))) >>> (2)) &&& (3689348814741910323))) >>> (4))) &&& (1085102592571150095)) >>> (8))) + ((((((((n) - (((n) >>> (1)) &&& (6148914691236517205))) &&& (3689348814741910323)) + ((((n) - (((n) >>> (1)) &&& (6148914691236517205))) >>> (2)) &&& (3689348814741910323))) + (((((n) - (((n) >>> (1)) &&& (6148914691236517205))) &&& (3689348814741910323)) + ((((n) - (((n) >>> (1)) &&& (6148914691236517205))) >>> (2)) &&& (3689348814741910323))) >>> (4))) &&& (1085102592571150095)) + (((((((n) - (((n) >>> (1)) &&& (6148914691236517205))) &&& (3689348814741910323)) + ((((n) - (((n) >>> (1)) &&& (6148914691236517205))) >>> (2)) &&& (3689348814741910323))) + (((((n) - (((n) >>> (1)) &&& (6148914691236517205))) &&& (3689348814741910323)) + ((((n) - (((n) >>> (1)) &&& (6148914691236517205))) >>> (2)) &&& (3689348814741910323))) >>> (4))) &&& (1085102592571150095)) >>> (8))) >>> (16))) + (((((((((n) - (((n) >>> (1)) &&& (6148914691236517205))) &&& (3689348814741910323)) + ((((n) - (((n) >>> (1)) &&& (6148914691236517205))) >>> (2)) &&& (3689348814741910323))) + (((((n) - (((n) >>> (1)) &&& (6148914691236517205))) &&& (3689348814741910323)) + ((((n) - (((n) >>> (1)) &&& (6148914691236517205))) >>> (2)) &&& (3689348814741910323))) >>> (4))) &&& (1085102592571150095)) + (((((((n) - (((n) >>> (1)) &&& (6148914691236517205))) &&& (3689348814741910323)) + ((((n) - (((n) >>> (1)) &&& (6148914691236517205))) >>> (2)) &&& (3689348814741910323))) + (((((n) - (((n) >>> (1)) &&& (6148914691236517205))) &&& (3689348814741910323)) + ((((n) - (((n) >>> (1)) &&& (6148914691236517205))) >>> (2)) &&& (3689348814741910323))) >>> (4))) &&& (1085102592571150095)) >>> (8))) + ((((((((n) - (((n) >>> (1)) &&& (6148914691236517205))) &&& (3689348814741910323)) + ((((n) - (((n) >>> (1)) &&& (6148914691236517205))) >>> (2)) &&& (3689348814741910323))) + (((((n) - (((n) >>> (1)) &&& (6148914691236517205))) &&& (3689348814741910323)) + ((((n) - (((n) >>> (1)) &&& (6148914691236517205))) >>> (2)) &&& (3689348814741910323))) >>> (4))) &&& (1085102592571150095)) + (((((((n) - (((n) >>> (1)) &&& (6148914691236517205))) &&& (3689348814741910323)) + ((((n) - (((n) >>> (1)) &&& (6148914691236517205))) >>> (2)) &&& (3689348814741910323))) + (((((n) - (((n) >>> (1)) &&& (6148914691236517205))) &&& (3689348814741910323)) + ((((n) - (((n) >>> (1)) &&& (6148914691236517205))) >>> (2)) &&& (3689348814741910323))) >>> (4))) &&& (1085102592571150095)) >>> (8))) >>> (16))) >>> (32)))))]) C.1 C.2.1 dJ13_bitCount_95d88_54 rfl hl (by decide) rfl (fun ls hl => ?_)
  refine lv_lload_n C.1 C.2.1 dJ13_bitCount_95d88_55 rfl (lv_at hl 0 rfl) ?_
  refine z_l2i C dJ13_bitCount_95d88_56 ?_
  refine z_bipush C dJ13_bitCount_95d88_57 (by decide) ?_
  refine z_iand127 C (((((((((n) - (((n) >>> (1)) &&& (6148914691236517205))) &&& (3689348814741910323)) + ((((n) - (((n) >>> (1)) &&& (6148914691236517205))) >>> (2)) &&& (3689348814741910323))) + (((((n) - (((n) >>> (1)) &&& (6148914691236517205))) &&& (3689348814741910323)) + ((((n) - (((n) >>> (1)) &&& (6148914691236517205))) >>> (2)) &&& (3689348814741910323))) >>> (4))) &&& (1085102592571150095)) + (((((((n) - (((n) >>> (1)) &&& (6148914691236517205))) &&& (3689348814741910323)) + ((((n) - (((n) >>> (1)) &&& (6148914691236517205))) >>> (2)) &&& (3689348814741910323))) + (((((n) - (((n) >>> (1)) &&& (6148914691236517205))) &&& (3689348814741910323)) + ((((n) - (((n) >>> (1)) &&& (6148914691236517205))) >>> (2)) &&& (3689348814741910323))) >>> (4))) &&& (1085102592571150095)) >>> (8))) + ((((((((n) - (((n) >>> (1)) &&& (6148914691236517205))) &&& (3689348814741910323)) + ((((n) - (((n) >>> (1)) &&& (6148914691236517205))) >>> (2)) &&& (3689348814741910323))) + (((((n) - (((n) >>> (1)) &&& (6148914691236517205))) &&& (3689348814741910323)) + ((((n) - (((n) >>> (1)) &&& (6148914691236517205))) >>> (2)) &&& (3689348814741910323))) >>> (4))) &&& (1085102592571150095)) + (((((((n) - (((n) >>> (1)) &&& (6148914691236517205))) &&& (3689348814741910323)) + ((((n) - (((n) >>> (1)) &&& (6148914691236517205))) >>> (2)) &&& (3689348814741910323))) + (((((n) - (((n) >>> (1)) &&& (6148914691236517205))) &&& (3689348814741910323)) + ((((n) - (((n) >>> (1)) &&& (6148914691236517205))) >>> (2)) &&& (3689348814741910323))) >>> (4))) &&& (1085102592571150095)) >>> (8))) >>> (16))) + (((((((((n) - (((n) >>> (1)) &&& (6148914691236517205))) &&& (3689348814741910323)) + ((((n) - (((n) >>> (1)) &&& (6148914691236517205))) >>> (2)) &&& (3689348814741910323))) + (((((n) - (((n) >>> (1)) &&& (6148914691236517205))) &&& (3689348814741910323)) + ((((n) - (((n) >>> (1)) &&& (6148914691236517205))) >>> (2)) &&& (3689348814741910323))) >>> (4))) &&& (1085102592571150095)) + (((((((n) - (((n) >>> (1)) &&& (6148914691236517205))) &&& (3689348814741910323)) + ((((n) - (((n) >>> (1)) &&& (6148914691236517205))) >>> (2)) &&& (3689348814741910323))) + (((((n) - (((n) >>> (1)) &&& (6148914691236517205))) &&& (3689348814741910323)) + ((((n) - (((n) >>> (1)) &&& (6148914691236517205))) >>> (2)) &&& (3689348814741910323))) >>> (4))) &&& (1085102592571150095)) >>> (8))) + ((((((((n) - (((n) >>> (1)) &&& (6148914691236517205))) &&& (3689348814741910323)) + ((((n) - (((n) >>> (1)) &&& (6148914691236517205))) >>> (2)) &&& (3689348814741910323))) + (((((n) - (((n) >>> (1)) &&& (6148914691236517205))) &&& (3689348814741910323)) + ((((n) - (((n) >>> (1)) &&& (6148914691236517205))) >>> (2)) &&& (3689348814741910323))) >>> (4))) &&& (1085102592571150095)) + (((((((n) - (((n) >>> (1)) &&& (6148914691236517205))) &&& (3689348814741910323)) + ((((n) - (((n) >>> (1)) &&& (6148914691236517205))) >>> (2)) &&& (3689348814741910323))) + (((((n) - (((n) >>> (1)) &&& (6148914691236517205))) &&& (3689348814741910323)) + ((((n) - (((n) >>> (1)) &&& (6148914691236517205))) >>> (2)) &&& (3689348814741910323))) >>> (4))) &&& (1085102592571150095)) >>> (8))) >>> (16))) >>> (32))) (by omega) (by show bcs 32 (bcs 16 (bcs 8 (bc3 (bc2 (bc1 n))))) < _; omega) dJ13_bitCount_95d88_59 ?_
  exact z_iret C hr hk dJ13_bitCount_95d88_60 (congrArg (fun z : Int => Value.int (iZ z)) (by rfl))

section JM
variable {p : Program} {l : Launch} {e : Env} {R : Room} {s : State} {m : MethodId} {args : Array Value} {below : List Frame} {meth : Method} {c : Code} {H : Heap} {locs : List Loc} {cells slots : Nat} {Q : State → Prop}
variable {cc : ByteArray} {pc nL : Nat} {ls : Array Slot} {rest : List Value} {own : String} {lv : List (Nat × Value)}
theorem z_mmax (C : CallFix p m c cc nL s args T0 own) {a b idx : Nat} (ha : a < 8589934592) (hb : b < 8589934592) (hG : Cond.methodLink own idx yJ9_max_f86c9 ∈ lw_tbl) (hl : lv_has ls nL lv) (hR : 1 ≤ R.frames ∧ 31 ≤ R.locals) (hf : cells ≤ R.cells ∧ slots ≤ R.slots) (hcat : (rest.map fun v => v.category).sum ≤ 16) (d : decode cc pc = .ok (.invokestatic idx, 3))
    (k : W p l e R s m args below meth c H locs cells slots Q (F0 m (pc + 3) ls (.long (lN (mx a b)) :: rest))) : W p l e R s m args below meth c H locs cells slots Q (F0 m pc ls (.long (lN b) :: .long (lN a) :: rest)) := by
  refine va_mmax_long C.1 C.2.1 (C.2.2.1.trans hl.1.symm) C.2.2.2.1 (C.2.2.2.2 _ (T0_of hG rfl)) (C.2.2.2.2 _ (T0_of zs_J9_max_f86c9.1 rfl)) (C.2.2.2.2 _ (T0_of zs_J9_max_f86c9.2.1 rfl)) (C.2.2.2.2 _ (T0_of zs_J9_max_f86c9.2.2 rfl)) hR.1 (by omega) hf.1 hf.2 d ?_
  have e1 : (if lN b < lN a then lN a else lN b) = lN (mx a b) := by
    have h := lN_lt63 (a := b) (b := a) (by omega) (by omega)
    unfold mx
    by_cases h1 : b < a
    · rw [if_pos (h.mpr h1), if_pos (by omega)]
    · rw [if_neg (fun h2 => h1 (h.mp h2))]
      by_cases h3 : b = a
      · rw [if_pos (by omega), h3]
      · rw [if_neg (by omega)]
  rw [e1]
  exact k
theorem z_mmin (C : CallFix p m c cc nL s args T0 own) {a b idx : Nat} (ha : a < 8589934592) (hb : b < 8589934592) (hG : Cond.methodLink own idx yJ9_min_f86c9 ∈ lw_tbl) (hl : lv_has ls nL lv) (hR : 1 ≤ R.frames ∧ 31 ≤ R.locals) (hf : cells ≤ R.cells ∧ slots ≤ R.slots) (hcat : (rest.map fun v => v.category).sum ≤ 16) (d : decode cc pc = .ok (.invokestatic idx, 3))
    (k : W p l e R s m args below meth c H locs cells slots Q (F0 m (pc + 3) ls (.long (lN (mn a b)) :: rest))) : W p l e R s m args below meth c H locs cells slots Q (F0 m pc ls (.long (lN b) :: .long (lN a) :: rest)) := by
  refine va_mmin_long C.1 C.2.1 (C.2.2.1.trans hl.1.symm) C.2.2.2.1 (C.2.2.2.2 _ (T0_of hG rfl)) (C.2.2.2.2 _ (T0_of zs_J9_min_f86c9.1 rfl)) (C.2.2.2.2 _ (T0_of zs_J9_min_f86c9.2.1 rfl)) (C.2.2.2.2 _ (T0_of zs_J9_min_f86c9.2.2 rfl)) hR.1 (by omega) hf.1 hf.2 d ?_
  have e1 : (if lN b < lN a then lN b else lN a) = lN (mn a b) := by
    have h := lN_lt63 (a := b) (b := a) (by omega) (by omega)
    unfold mn
    by_cases h1 : b < a
    · rw [if_pos (h.mpr h1), if_neg (by omega)]
    · rw [if_neg (fun h2 => h1 (h.mp h2)), if_pos (by omega)]
  rw [e1]
  exact k
end JM
