/-! ===== polys as numbers: what the methods answer ===== -/
section MA
theorem zB_f {b : Bool} (h : b = false) : (0 : Int) = zB b := by rw [h]; rfl
theorem zB_t {b : Bool} (h : b = true) : (1 : Int) = zB b := by rw [h]; rfl
theorem zB_rng (b : Bool) : 0 ≤ zB b ∧ zB b ≤ 1 := by cases b <;> decide
/-- the digit at a place, of an int -/
def tb (n : Nat) (z : Int) : Bool := decide (0 ≤ z) && (decide (z < 64) && n.testBit z.toNat)
theorem tb_neg {n : Nat} {z : Int} (h : z < 0) : tb n z = false := by
  have : ¬ 0 ≤ z := by omega
  simp [tb, this]
theorem tb_ge {n : Nat} {z : Int} (h : 64 ≤ z) : tb n z = false := by
  have : ¬ z < 64 := by omega
  simp [tb, this]
theorem tb_in {n : Nat} {z : Int} (h0 : 0 ≤ z) (h : z < 64) : tb n z = n.testBit z.toNat := by simp [tb, h0, h]
theorem tb_k {n k : Nat} {z : Int} (hz : z = (k : Int)) (h : k < 64) : tb n z = n.testBit k := by
  rw [tb_in (by omega) (by omega)]
  congr 1
  omega
theorem bit_and (n k : Nat) : ((n >>> k) &&& 1 = 1) ↔ n.testBit k = true := by
  rw [Nat.testBit_eq_decide_div_mod_eq, Nat.shiftRight_eq_div_pow, Nat.and_one_is_mod]
  simp
theorem bit_and0 (n k : Nat) : (¬ (n >>> k) &&& 1 = 1) ↔ n.testBit k = false := by
  rw [not_congr (bit_and n k)]
  simp
/-- DEGREE -/
def tp (n : Nat) : Int := if n = 0 then -1 else (Nat.log2 n : Int)
theorem tp_0 : tp 0 = -1 := rfl
theorem tp_pos {n : Nat} (h : n ≠ 0) : tp n = (Nat.log2 n : Int) := if_neg h
theorem tp_ge (n : Nat) : -1 ≤ tp n := by
  unfold tp
  split <;> omega
theorem shr_0 {n k : Nat} : n >>> k = 0 ↔ n < 2 ^ k := by
  rw [Nat.shiftRight_eq_div_pow, Nat.div_eq_zero_iff]
  have : 2 ^ k ≠ 0 := by exact Nat.ne_of_gt (Nat.two_pow_pos k)
  simp [this]
theorem tp_lt {n k : Nat} : tp n < (k : Int) ↔ n < 2 ^ k := by
  unfold tp
  split
  · rename_i h
    subst h
    exact ⟨fun _ => Nat.two_pow_pos k, fun _ => by omega⟩
  · rename_i h
    rw [← Nat.log2_lt h]
    omega
theorem tp_shr {n k : Nat} : n >>> k = 0 ↔ tp n < (k : Int) := by rw [shr_0, tp_lt]
theorem tp_rng {n : Nat} (h : n < 18446744073709551616) : -1 ≤ tp n ∧ tp n ≤ 63 := by
  have h1 := (tp_lt (n := n) (k := 64)).mpr (by omega)
  exact ⟨tp_ge n, by omega⟩
theorem tp_le {n k : Nat} : tp n ≤ (k : Int) ↔ n < 2 ^ (k + 1) := by
  rw [← tp_lt]
  omega
theorem tp_at {n : Nat} {k : Nat} (h1 : n >>> k ≠ 0) (h2 : n >>> (k + 1) = 0) : tp n = (k : Int) := by
  have a := mt tp_shr.mpr h1
  have b := tp_shr.mp h2
  omega
theorem tp_neg {n : Nat} : tp n < 0 ↔ n = 0 := by
  have h := tp_lt (n := n) (k := 0)
  simp at h
  exact h
theorem tp_top {n k : Nat} (h : tp n = (k : Int)) : n.testBit k = true := by
  have h0 : n ≠ 0 := fun h0 => by rw [h0, tp_0] at h; omega
  rw [tp_pos h0] at h
  have h2 : n.log2 = k := by omega
  rw [← h2]
  exact Nat.testBit_log2 h0
theorem tp_hi {n k : Nat} (h : tp n < (k : Int)) : n.testBit k = false := Nat.testBit_lt_two_pow (tp_lt.mp h)
theorem xor64 {a b : Nat} (ha : a < 18446744073709551616) (hb : b < 18446744073709551616) : a ^^^ b < 18446744073709551616 := Nat.xor_lt_two_pow (n := 64) ha hb
theorem or64 {a b : Nat} (ha : a < 18446744073709551616) (hb : b < 18446744073709551616) : a ||| b < 18446744073709551616 := Nat.or_lt_two_pow (n := 64) ha hb
theorem lN_mod (n : Nat) : lN (n % 18446744073709551616) = lN n := by
  apply Int64.toBitVec.inj
  rw [lN_bv, lN_bv]
  apply BitVec.eq_of_toNat_eq
  rw [BitVec.toNat_ofNat, BitVec.toNat_ofNat]
  omega
theorem shl64 {b j : Nat} (h : tp b + (j : Int) < 64) (hj : j < 64) : b <<< j < 18446744073709551616 := by
  rcases Nat.eq_zero_or_pos b with h0 | h0
  · rw [h0, Nat.zero_shiftLeft]
    omega
  · have h1 : tp b = ((tp b).toNat : Int) := by
      have := mt tp_neg.mp (by omega : ¬ b = 0)
      omega
    have h2 : b < 2 ^ ((tp b).toNat + 1) := tp_le.mp (by omega)
    rw [Nat.shiftLeft_eq]
    have h3 : b * 2 ^ j < 2 ^ ((tp b).toNat + 1) * 2 ^ j := Nat.mul_lt_mul_of_pos_right h2 (Nat.two_pow_pos j)
    rw [← Nat.pow_add] at h3
    have h4 : 2 ^ ((tp b).toNat + 1 + j) ≤ 2 ^ 64 := Nat.pow_le_pow_right (by omega) (by omega)
    omega
/-- LOW, from the place k on, f places -/
def bpF (n : Nat) : Nat → Nat → Int
  | 0, _ => -1
  | f + 1, k => if n.testBit k = true then (k : Int) else bpF n f (k + 1)
def bp (n : Nat) : Int := bpF n 64 0
theorem bpF_t {n f k : Nat} (h : n.testBit k = true) : bpF n (f + 1) k = k := by rw [bpF, if_pos h]
theorem bpF_f {n f k : Nat} (h : n.testBit k = false) : bpF n (f + 1) k = bpF n f (k + 1) := by rw [bpF, if_neg (by rw [h]; decide)]
theorem bpF_rng (n : Nat) : ∀ (f k : Nat), -1 ≤ bpF n f k ∧ bpF n f k < (f + k : Nat) + 1 := by
  intro f
  induction f with
  | zero => intro k; rw [bpF]; omega
  | succ f ih =>
    intro k
    rw [bpF]
    split
    · omega
    · have := ih (k + 1)
      omega
theorem bp_rng (n : Nat) : -1 ≤ bp n ∧ bp n ≤ 64 := by
  have := bpF_rng n 64 0
  unfold bp
  omega
/-- PRODUCT, the first k places of the second one -/
def pmF (a b : Nat) : Nat → Nat
  | 0 => 0
  | k + 1 => if b.testBit k = true then pmF a b k ^^^ (a <<< k) else pmF a b k
def pm (a b : Nat) : Nat := pmF a b 64 % 18446744073709551616
theorem pm_lt (a b : Nat) : pm a b < 18446744073709551616 := Nat.mod_lt _ (by omega)
theorem pmF_t {a b k : Nat} (h : b.testBit k = true) : pmF a b (k + 1) = pmF a b k ^^^ (a <<< k) := by rw [pmF, if_pos h]
theorem pmF_f {a b k : Nat} (h : b.testBit k = false) : pmF a b (k + 1) = pmF a b k := by rw [pmF, if_neg (by rw [h]; decide)]
theorem pmF_top {a b k : Nat} (h : b >>> k = 0) : ∀ f : Nat, pmF a b (k + f) = pmF a b k := by
  intro f
  induction f with
  | zero => rfl
  | succ f ih =>
    rw [← Nat.add_assoc, pmF_f, ih]
    have h1 := tp_shr.mp h
    exact tp_hi (by omega)
theorem pmF_64 {a b k : Nat} (h : b >>> k = 0) (hk : k ≤ 64) : pmF a b k = pmF a b 64 := by
  have := pmF_top (a := a) h (64 - k)
  rw [show k + (64 - k) = 64 by omega] at this
  exact this.symm
/-- the division's row: b of the degree d, j places to go; what is left, and the quotient -/
def qoF (b d : Nat) : Nat → Nat → Nat → Nat × Nat
  | 0, x, q => (x, q)
  | j + 1, x, q => if x.testBit (d + j) = true then qoF b d j (x ^^^ (b <<< j)) (q ||| (1 <<< j)) else qoF b d j x q
def qo (a b : Nat) : Nat := if b = 0 then 0 else (qoF b (tp b).toNat (tp a + 1 - tp b).toNat a 0).2
def rm (a b : Nat) : Nat := a ^^^ pm (qo a b) b
theorem qoF_t {b d j x q : Nat} (h : x.testBit (d + j) = true) : qoF b d (j + 1) x q = qoF b d j (x ^^^ (b <<< j)) (q ||| (1 <<< j)) := by rw [qoF, if_pos h]
theorem qoF_f {b d j x q : Nat} (h : x.testBit (d + j) = false) : qoF b d (j + 1) x q = qoF b d j x q := by rw [qoF, if_neg (by rw [h]; decide)]
theorem one_shl64 {j : Nat} (h : j < 64) : 1 <<< j < 18446744073709551616 := by
  rw [Nat.shiftLeft_eq, Nat.one_mul]
  have : 2 ^ j ≤ 2 ^ 63 := Nat.pow_le_pow_right (by omega) (by omega)
  omega
theorem qoF_lt {b d : Nat} : ∀ (j x q : Nat), j ≤ 64 → q < 18446744073709551616 → (qoF b d j x q).2 < 18446744073709551616 := by
  intro j
  induction j with
  | zero => intro x q _ h; exact h
  | succ j ih =>
    intro x q hj hq
    rw [qoF]
    split
    · exact ih _ _ (by omega) (or64 hq (one_shl64 (by omega)))
    · exact ih _ _ (by omega) hq
theorem qo_lt {a b : Nat} (ha : a < 18446744073709551616) : qo a b < 18446744073709551616 := by
  unfold qo
  split
  · omega
  · rename_i h
    have h1 := mt tp_neg.mp h
    have h2 := tp_rng ha
    exact qoF_lt _ _ _ (by omega) (by omega)
theorem rm_lt {a b : Nat} (ha : a < 18446744073709551616) : rm a b < 18446744073709551616 := xor64 ha (pm_lt _ _)
end MA
section MB
/-- EUCLID: f steps at most; a and b the last two of the first row, x and y those of another one -/
def euF : Nat → Nat → Nat → Nat → Nat → Nat
  | 0, _, _, x, _ => x
  | f + 1, a, b, x, y => if b = 0 then x else euF f b (rm a b) y (x ^^^ pm (qo a b) y)
def eu (a b x y : Nat) : Nat := euF 65 a b x y
theorem euF_0 {f a x y : Nat} : euF f a 0 x y = x := by
  cases f with
  | zero => rfl
  | succ f => rw [euF, if_pos rfl]
theorem euF_s {f a b x y : Nat} (h : ¬ b = 0) : euF (f + 1) a b x y = euF f b (rm a b) y (x ^^^ pm (qo a b) y) := by rw [euF, if_neg h]
theorem euF_lt : ∀ (f a b x y : Nat), x < 18446744073709551616 → y < 18446744073709551616 → euF f a b x y < 18446744073709551616 := by
  intro f
  induction f with
  | zero => intro a b x y hx _; exact hx
  | succ f ih =>
    intro a b x y hx hy
    rw [euF]
    split
    · exact hx
    · exact ih _ _ _ _ hy (xor64 hx (pm_lt _ _))
theorem eu_lt {a b x y : Nat} (hx : x < 18446744073709551616) (hy : y < 18446744073709551616) : eu a b x y < 18446744073709551616 := euF_lt _ _ _ _ _ hx hy
def dv (n : Nat) : Nat := (n >>> 1) &&& 6148914691236517205
theorem dv_lt (n : Nat) : dv n < 18446744073709551616 := by
  have : dv n ≤ 6148914691236517205 := Nat.and_le_right
  omega
/-- what stands at even places, at half of them -/
def ehF (n : Nat) : Nat → Nat
  | 0 => 0
  | k + 1 => if n.testBit (2 * k) = true then ehF n k ||| (1 <<< k) else ehF n k
def eh (n : Nat) : Nat := ehF n 32
theorem ehF_t {n k : Nat} (h : n.testBit (2 * k) = true) : ehF n (k + 1) = ehF n k ||| (1 <<< k) := by rw [ehF, if_pos h]
theorem ehF_f {n k : Nat} (h : n.testBit (2 * k) = false) : ehF n (k + 1) = ehF n k := by rw [ehF, if_neg (by rw [h]; decide)]
theorem ehF_lt (n : Nat) : ∀ k : Nat, ehF n k < 2 ^ k := by
  intro k
  induction k with
  | zero => exact Nat.one_pos
  | succ k ih =>
    have h1 : ehF n k < 2 ^ (k + 1) := by rw [Nat.pow_succ]; omega
    rw [ehF]
    split
    · refine Nat.or_lt_two_pow h1 ?_
      rw [Nat.shiftLeft_eq, Nat.one_mul, Nat.pow_succ]
      have := Nat.two_pow_pos k
      omega
    · exact h1
theorem eh_lt (n : Nat) : eh n < 4294967296 := ehF_lt n 32
/-- TURNED -/
def tuF (n : Nat) (t : Int) : Nat → Nat
  | 0 => 0
  | k + 1 => if n.testBit k = true then tuF n t k ||| (1 <<< (t - (k : Int)).toNat) else tuF n t k
def tu (n : Nat) : Nat := tuF n (tp n) (tp n + 1).toNat
theorem tuF_t {n k : Nat} {t : Int} (h : n.testBit k = true) : tuF n t (k + 1) = tuF n t k ||| (1 <<< (t - (k : Int)).toNat) := by rw [tuF, if_pos h]
theorem tuF_f {n k : Nat} {t : Int} (h : n.testBit k = false) : tuF n t (k + 1) = tuF n t k := by rw [tuF, if_neg (by rw [h]; decide)]
theorem tuF_lt {n : Nat} {t : Int} (ht : t ≤ 63) : ∀ k : Nat, tuF n t k < 18446744073709551616 := by
  intro k
  induction k with
  | zero => rw [tuF]; omega
  | succ k ih =>
    rw [tuF]
    split
    · exact or64 ih (one_shl64 (by omega))
    · exact ih
theorem tu_lt {n : Nat} (h : n < 18446744073709551616) : tu n < 18446744073709551616 := tuF_lt (tp_rng h).2 _
/-- MOVED: j places to go -/
def mvF (n : Nat) : Nat → Nat → Nat
  | 0, s => s
  | j + 1, s => mvF n j (((s <<< 1) ^^^ s) ^^^ ((n >>> j) &&& 1))
def mv (n : Nat) : Nat := mvF n (tp n + 1).toNat 0 % 18446744073709551616
theorem mv_lt (n : Nat) : mv n < 18446744073709551616 := Nat.mod_lt _ (by omega)
/-- the REST of a power: j bits of t to go -/
def pwF (t x m : Nat) : Nat → Nat → Nat
  | 0, p => p
  | j + 1, p => pwF t x m j (if t.testBit j = true then rm (pm (rm (pm p p) m) x) m else rm (pm p p) m)
def pw (a t m : Nat) : Nat := pwF t (rm a m) m 8 1
theorem pwF_t {t x m j p : Nat} (h : t.testBit j = true) : pwF t x m (j + 1) p = pwF t x m j (rm (pm (rm (pm p p) m) x) m) := by rw [pwF, if_pos h]
theorem pwF_f {t x m j p : Nat} (h : t.testBit j = false) : pwF t x m (j + 1) p = pwF t x m j (rm (pm p p) m) := by rw [pwF, if_neg (by rw [h]; decide)]
theorem pwF_lt {t x m : Nat} : ∀ (j p : Nat), p < 18446744073709551616 → pwF t x m j p < 18446744073709551616 := by
  intro j
  induction j with
  | zero => intro p h; exact h
  | succ j ih =>
    intro p h
    rw [pwF]
    split
    · exact ih _ (rm_lt (pm_lt _ _))
    · exact ih _ (rm_lt (pm_lt _ _))
theorem pw_lt {a t m : Nat} : pw a t m < 18446744073709551616 := pwF_lt _ _ (by omega)
theorem bitN (n k : Nat) : (n >>> k) % 2 = 1 ↔ n.testBit k = true := by rw [← Nat.and_one_is_mod, bit_and]
theorem bitN0 (n k : Nat) : ¬ (n >>> k) % 2 = 1 ↔ n.testBit k = false := by rw [← Nat.and_one_is_mod, bit_and0]
def jo (a b : Nat) (h : Int) : Nat := if h = 0 then a ^^^ b else if h = 1 then a &&& b else if h = 2 then a ||| b else a &&& (b ^^^ 18446744073709551615)
theorem jo_lt {a b : Nat} {h : Int} (ha : a < 18446744073709551616) (hb : b < 18446744073709551616) : jo a b h < 18446744073709551616 := by
  unfold jo
  split
  · exact xor64 ha hb
  · split
    · exact Nat.lt_of_le_of_lt Nat.and_le_left ha
    · split
      · exact or64 ha hb
      · exact Nat.lt_of_le_of_lt Nat.and_le_left ha
end MB
theorem tp_rngE (n : Nat) (h : n < 18446744073709551616) : -1 ≤ tp n ∧ tp n ≤ 63 := tp_rng h
theorem eu_ltE (a b x y : Nat) (hx : x < 18446744073709551616) (hy : y < 18446744073709551616) : eu a b x y < 18446744073709551616 := eu_lt hx hy
