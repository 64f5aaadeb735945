/-! ===== polys as numbers: what the methods answer ===== -/
section MA
theorem zB_f {b : Bool} (h : b = false) : (0 : Int) = zB b := by rw [h]; rfl
theorem zB_t {b : Bool} (h : b = true) : (1 : Int) = zB b := by rw [h]; rfl
theorem zB_rng (b : Bool) : 0 ≤ zB b ∧ zB b ≤ 1 := by cases b <;> decide
/-- the digit at a place, of an int -/
def tb (n : Nat) (z : Int) : Bool := decide (0 ≤ z) && (decide (z < 64) && n.testBit z.toNat)
theorem tb_neg {n : Nat} {z : Int} (h : z < 0) : tb n z = false := by
  have : ¬ 0 ≤ z := by omega
  simp [tb, this]
theorem tb_ge {n : Nat} {z : Int} (h : 64 ≤ z) : tb n z = false := by
  have : ¬ z < 64 := by omega
  simp [tb, this]
theorem tb_in {n : Nat} {z : Int} (h0 : 0 ≤ z) (h : z < 64) : tb n z = n.testBit z.toNat := by simp [tb, h0, h]
theorem tb_k {n k : Nat} {z : Int} (hz : z = (k : Int)) (h : k < 64) : tb n z = n.testBit k := by
  rw [tb_in (by omega) (by omega)]
  congr 1
  omega
theorem tb0 (b k : Nat) : tb (b >>> k) 0 = b.testBit k := by
  rw [tb_in (by decide) (by decide), Nat.testBit_shiftRight]
  rfl
theorem tb_0 (n : Nat) : tb n 0 = n.testBit 0 := by
  rw [tb_in (by decide) (by decide)]
  rfl
theorem bit_and (n k : Nat) : ((n >>> k) &&& 1 = 1) ↔ n.testBit k = true := by
  rw [Nat.testBit_eq_decide_div_mod_eq, Nat.shiftRight_eq_div_pow, Nat.and_one_is_mod]
  simp
theorem bit_and0 (n k : Nat) : (¬ (n >>> k) &&& 1 = 1) ↔ n.testBit k = false := by
  rw [not_congr (bit_and n k)]
  simp
/-- DEGREE -/
def tp (n : Nat) : Int := if n = 0 then -1 else (Nat.log2 n : Int)
theorem tp_0 : tp 0 = -1 := rfl
theorem tp_pos {n : Nat} (h : n ≠ 0) : tp n = (Nat.log2 n : Int) := if_neg h
theorem tp_ge (n : Nat) : -1 ≤ tp n := by
  unfold tp
  split <;> omega
theorem shr_0 {n k : Nat} : n >>> k = 0 ↔ n < 2 ^ k := by
  rw [Nat.shiftRight_eq_div_pow, Nat.div_eq_zero_iff]
  have : 2 ^ k ≠ 0 := by exact Nat.ne_of_gt (Nat.two_pow_pos k)
  simp [this]
theorem tp_lt {n k : Nat} : tp n < (k : Int) ↔ n < 2 ^ k := by
  unfold tp
  split
  · rename_i h
    subst h
    exact ⟨fun _ => Nat.two_pow_pos k, fun _ => by omega⟩
  · rename_i h
    rw [← Nat.log2_lt h]
    omega
theorem tp_shr {n k : Nat} : n >>> k = 0 ↔ tp n < (k : Int) := by rw [shr_0, tp_lt]
theorem tp_rng {n : Nat} (h : n < 18446744073709551616) : -1 ≤ tp n ∧ tp n ≤ 63 := by
  have h1 := (tp_lt (n := n) (k := 64)).mpr (by omega)
  exact ⟨tp_ge n, by omega⟩
theorem tp_le {n k : Nat} : tp n ≤ (k : Int) ↔ n < 2 ^ (k + 1) := by
  rw [← tp_lt]
  omega
theorem tp_at {n : Nat} {k : Nat} (h1 : n >>> k ≠ 0) (h2 : n >>> (k + 1) = 0) : tp n = (k : Int) := by
  have a := mt tp_shr.mpr h1
  have b := tp_shr.mp h2
  omega
theorem tp_neg {n : Nat} : tp n < 0 ↔ n = 0 := by
  have h := tp_lt (n := n) (k := 0)
  simp at h
  exact h
theorem tp_top {n k : Nat} (h : tp n = (k : Int)) : n.testBit k = true := by
  have h0 : n ≠ 0 := fun h0 => by rw [h0, tp_0] at h; omega
  rw [tp_pos h0] at h
  have h2 : n.log2 = k := by omega
  rw [← h2]
  exact Nat.testBit_log2 h0
theorem tp_hi {n k : Nat} (h : tp n < (k : Int)) : n.testBit k = false := Nat.testBit_lt_two_pow (tp_lt.mp h)
theorem xor64 {a b : Nat} (ha : a < 18446744073709551616) (hb : b < 18446744073709551616) : a ^^^ b < 18446744073709551616 := Nat.xor_lt_two_pow (n := 64) ha hb
theorem or64 {a b : Nat} (ha : a < 18446744073709551616) (hb : b < 18446744073709551616) : a ||| b < 18446744073709551616 := Nat.or_lt_two_pow (n := 64) ha hb
theorem lN_mod (n : Nat) : lN (n % 18446744073709551616) = lN n := by
  apply Int64.toBitVec.inj
  rw [lN_bv, lN_bv]
  apply BitVec.eq_of_toNat_eq
  rw [BitVec.toNat_ofNat, BitVec.toNat_ofNat]
  omega
theorem shl64 {b j : Nat} (h : tp b + (j : Int) < 64) (hj : j < 64) : b <<< j < 18446744073709551616 := by
  rcases Nat.eq_zero_or_pos b with h0 | h0
  · rw [h0, Nat.zero_shiftLeft]
    omega
  · have h1 : tp b = ((tp b).toNat : Int) := by
      have := mt tp_neg.mp (by omega : ¬ b = 0)
      omega
    have h2 : b < 2 ^ ((tp b).toNat + 1) := tp_le.mp (by omega)
    rw [Nat.shiftLeft_eq]
    have h3 : b * 2 ^ j < 2 ^ ((tp b).toNat + 1) * 2 ^ j := Nat.mul_lt_mul_of_pos_right h2 (Nat.two_pow_pos j)
    rw [← Nat.pow_add] at h3
    have h4 : 2 ^ ((tp b).toNat + 1 + j) ≤ 2 ^ 64 := Nat.pow_le_pow_right (by omega) (by omega)
    omega
/-- LOW, from the place k on, f places -/
def bpF (n : Nat) : Nat → Nat → Int
  | 0, _ => -1
  | f + 1, k => if n.testBit k = true then (k : Int) else bpF n f (k + 1)
def bp (n : Nat) : Int := bpF n 64 0
theorem bpF_t {n f k : Nat} (h : n.testBit k = true) : bpF n (f + 1) k = k := by rw [bpF, if_pos h]
theorem bpF_f {n f k : Nat} (h : n.testBit k = false) : bpF n (f + 1) k = bpF n f (k + 1) := by rw [bpF, if_neg (by rw [h]; decide)]
theorem bpF_rng (n : Nat) : ∀ (f k : Nat), -1 ≤ bpF n f k ∧ bpF n f k < (f + k : Nat) + 1 := by
  intro f
  induction f with
  | zero => intro k; rw [bpF]; omega
  | succ f ih =>
    intro k
    rw [bpF]
    split
    · omega
    · have := ih (k + 1)
      omega
theorem bp_rng (n : Nat) : -1 ≤ bp n ∧ bp n ≤ 64 := by
  have := bpF_rng n 64 0
  unfold bp
  omega
/-- PRODUCT, the first k places of the second one -/
def pmF (a b : Nat) : Nat → Nat
  | 0 => 0
  | k + 1 => if b.testBit k = true then pmF a b k ^^^ (a <<< k) else pmF a b k
def pm (a b : Nat) : Nat := pmF a b 64 % 18446744073709551616
theorem pm_lt (a b : Nat) : pm a b < 18446744073709551616 := Nat.mod_lt _ (by omega)
theorem pmF_t {a b k : Nat} (h : b.testBit k = true) : pmF a b (k + 1) = pmF a b k ^^^ (a <<< k) := by rw [pmF, if_pos h]
theorem pmF_f {a b k : Nat} (h : b.testBit k = false) : pmF a b (k + 1) = pmF a b k := by rw [pmF, if_neg (by rw [h]; decide)]
theorem pmF_top {a b k : Nat} (h : b >>> k = 0) : ∀ f : Nat, pmF a b (k + f) = pmF a b k := by
  intro f
  induction f with
  | zero => rfl
  | succ f ih =>
    rw [← Nat.add_assoc, pmF_f, ih]
    have h1 := tp_shr.mp h
    exact tp_hi (by omega)
theorem pmF_64 {a b k : Nat} (h : b >>> k = 0) (hk : k ≤ 64) : pmF a b k = pmF a b 64 := by
  have := pmF_top (a := a) h (64 - k)
  rw [show k + (64 - k) = 64 by omega] at this
  exact this.symm
/-- the division's row: b of the degree d, j places to go; what is left, and the quotient -/
def qoF (b d : Nat) : Nat → Nat → Nat → Nat × Nat
  | 0, x, q => (x, q)
  | j + 1, x, q => if x.testBit (d + j) = true then qoF b d j (x ^^^ (b <<< j)) (q ||| (1 <<< j)) else qoF b d j x q
def qo (a b : Nat) : Nat := if b = 0 then 0 else (qoF b (tp b).toNat (tp a + 1 - tp b).toNat a 0).2
def rm (a b : Nat) : Nat := a ^^^ pm (qo a b) b
theorem qoF_t {b d j x q : Nat} (h : x.testBit (d + j) = true) : qoF b d (j + 1) x q = qoF b d j (x ^^^ (b <<< j)) (q ||| (1 <<< j)) := by rw [qoF, if_pos h]
theorem qoF_f {b d j x q : Nat} (h : x.testBit (d + j) = false) : qoF b d (j + 1) x q = qoF b d j x q := by rw [qoF, if_neg (by rw [h]; decide)]
theorem one_shl64 {j : Nat} (h : j < 64) : 1 <<< j < 18446744073709551616 := by
  rw [Nat.shiftLeft_eq, Nat.one_mul]
  have : 2 ^ j ≤ 2 ^ 63 := Nat.pow_le_pow_right (by omega) (by omega)
  omega
theorem qoF_lt {b d : Nat} : ∀ (j x q : Nat), j ≤ 64 → q < 18446744073709551616 → (qoF b d j x q).2 < 18446744073709551616 := by
  intro j
  induction j with
  | zero => intro x q _ h; exact h
  | succ j ih =>
    intro x q hj hq
    rw [qoF]
    split
    · exact ih _ _ (by omega) (or64 hq (one_shl64 (by omega)))
    · exact ih _ _ (by omega) hq
theorem qo_lt {a b : Nat} (ha : a < 18446744073709551616) : qo a b < 18446744073709551616 := by
  unfold qo
  split
  · omega
  · rename_i h
    have h1 := mt tp_neg.mp h
    have h2 := tp_rng ha
    exact qoF_lt _ _ _ (by omega) (by omega)
theorem rm_lt {a b : Nat} (ha : a < 18446744073709551616) : rm a b < 18446744073709551616 := xor64 ha (pm_lt _ _)
end MA
section MB
/-- EUCLID: f steps at most; a and b the last two of the first row, x and y those of another one -/
def euF : Nat → Nat → Nat → Nat → Nat → Nat
  | 0, _, _, x, _ => x
  | f + 1, a, b, x, y => if b = 0 then x else euF f b (rm a b) y (x ^^^ pm (qo a b) y)
def eu (a b x y : Nat) : Nat := euF 65 a b x y
theorem euF_0 {f a x y : Nat} : euF f a 0 x y = x := by
  cases f with
  | zero => rfl
  | succ f => rw [euF, if_pos rfl]
theorem euF_s {f a b x y : Nat} (h : ¬ b = 0) : euF (f + 1) a b x y = euF f b (rm a b) y (x ^^^ pm (qo a b) y) := by rw [euF, if_neg h]
theorem euF_lt : ∀ (f a b x y : Nat), x < 18446744073709551616 → y < 18446744073709551616 → euF f a b x y < 18446744073709551616 := by
  intro f
  induction f with
  | zero => intro a b x y hx _; exact hx
  | succ f ih =>
    intro a b x y hx hy
    rw [euF]
    split
    · exact hx
    · exact ih _ _ _ _ hy (xor64 hx (pm_lt _ _))
theorem eu_lt {a b x y : Nat} (hx : x < 18446744073709551616) (hy : y < 18446744073709551616) : eu a b x y < 18446744073709551616 := euF_lt _ _ _ _ _ hx hy
def dv (n : Nat) : Nat := (n >>> 1) &&& 6148914691236517205
theorem dv_lt (n : Nat) : dv n < 18446744073709551616 := by
  have : dv n ≤ 6148914691236517205 := Nat.and_le_right
  omega
/-- what stands at even places, at half of them -/
def ehF (n : Nat) : Nat → Nat
  | 0 => 0
  | k + 1 => if n.testBit (2 * k) = true then ehF n k ||| (1 <<< k) else ehF n k
def eh (n : Nat) : Nat := ehF n 32
theorem ehF_t {n k : Nat} (h : n.testBit (2 * k) = true) : ehF n (k + 1) = ehF n k ||| (1 <<< k) := by rw [ehF, if_pos h]
theorem ehF_f {n k : Nat} (h : n.testBit (2 * k) = false) : ehF n (k + 1) = ehF n k := by rw [ehF, if_neg (by rw [h]; decide)]
theorem ehF_lt (n : Nat) : ∀ k : Nat, ehF n k < 2 ^ k := by
  intro k
  induction k with
  | zero => exact Nat.one_pos
  | succ k ih =>
    have h1 : ehF n k < 2 ^ (k + 1) := by rw [Nat.pow_succ]; omega
    rw [ehF]
    split
    · refine Nat.or_lt_two_pow h1 ?_
      rw [Nat.shiftLeft_eq, Nat.one_mul, Nat.pow_succ]
      have := Nat.two_pow_pos k
      omega
    · exact h1
theorem eh_lt (n : Nat) : eh n < 4294967296 := ehF_lt n 32
/-- TURNED -/
def tuF (n : Nat) (t : Int) : Nat → Nat
  | 0 => 0
  | k + 1 => if n.testBit k = true then tuF n t k ||| (1 <<< (t - (k : Int)).toNat) else tuF n t k
def tu (n : Nat) : Nat := tuF n (tp n) (tp n + 1).toNat
theorem tuF_t {n k : Nat} {t : Int} (h : n.testBit k = true) : tuF n t (k + 1) = tuF n t k ||| (1 <<< (t - (k : Int)).toNat) := by rw [tuF, if_pos h]
theorem tuF_f {n k : Nat} {t : Int} (h : n.testBit k = false) : tuF n t (k + 1) = tuF n t k := by rw [tuF, if_neg (by rw [h]; decide)]
theorem tuF_lt {n : Nat} {t : Int} (ht : t ≤ 63) : ∀ k : Nat, tuF n t k < 18446744073709551616 := by
  intro k
  induction k with
  | zero => rw [tuF]; omega
  | succ k ih =>
    rw [tuF]
    split
    · exact or64 ih (one_shl64 (by omega))
    · exact ih
theorem tu_lt {n : Nat} (h : n < 18446744073709551616) : tu n < 18446744073709551616 := tuF_lt (tp_rng h).2 _
/-- MOVED: j places to go -/
def mvF (n : Nat) : Nat → Nat → Nat
  | 0, s => s
  | j + 1, s => mvF n j (((s <<< 1) ^^^ s) ^^^ ((n >>> j) &&& 1))
def mv (n : Nat) : Nat := mvF n (tp n + 1).toNat 0 % 18446744073709551616
theorem mv_lt (n : Nat) : mv n < 18446744073709551616 := Nat.mod_lt _ (by omega)
/-- the REST of a power: j bits of t to go -/
def pwF (t x m : Nat) : Nat → Nat → Nat
  | 0, p => p
  | j + 1, p => pwF t x m j (if t.testBit j = true then rm (pm (rm (pm p p) m) x) m else rm (pm p p) m)
def pw (a t m : Nat) : Nat := pwF t (rm a m) m 8 1
theorem pwF_t {t x m j p : Nat} (h : t.testBit j = true) : pwF t x m (j + 1) p = pwF t x m j (rm (pm (rm (pm p p) m) x) m) := by rw [pwF, if_pos h]
theorem pwF_f {t x m j p : Nat} (h : t.testBit j = false) : pwF t x m (j + 1) p = pwF t x m j (rm (pm p p) m) := by rw [pwF, if_neg (by rw [h]; decide)]
theorem pwF_lt {t x m : Nat} : ∀ (j p : Nat), p < 18446744073709551616 → pwF t x m j p < 18446744073709551616 := by
  intro j
  induction j with
  | zero => intro p h; exact h
  | succ j ih =>
    intro p h
    rw [pwF]
    split
    · exact ih _ (rm_lt (pm_lt _ _))
    · exact ih _ (rm_lt (pm_lt _ _))
theorem pw_lt {a t m : Nat} : pw a t m < 18446744073709551616 := pwF_lt _ _ (by omega)
theorem bitN (n k : Nat) : (n >>> k) % 2 = 1 ↔ n.testBit k = true := by rw [← Nat.and_one_is_mod, bit_and]
theorem bitN0 (n k : Nat) : ¬ (n >>> k) % 2 = 1 ↔ n.testBit k = false := by rw [← Nat.and_one_is_mod, bit_and0]
def jo (a b : Nat) (h : Int) : Nat := if h = 0 then a ^^^ b else if h = 1 then a &&& b else if h = 2 then a ||| b else a &&& (b ^^^ 18446744073709551615)
theorem jo_lt {a b : Nat} {h : Int} (ha : a < 18446744073709551616) (hb : b < 18446744073709551616) : jo a b h < 18446744073709551616 := by
  unfold jo
  split
  · exact xor64 ha hb
  · split
    · exact Nat.lt_of_le_of_lt Nat.and_le_left ha
    · split
      · exact or64 ha hb
      · exact Nat.lt_of_le_of_lt Nat.and_le_left ha
end MB
theorem tp_rngE (n : Nat) (h : n < 18446744073709551616) : -1 ≤ tp n ∧ tp n ≤ 63 := tp_rng h
theorem eu_ltE (a b x y : Nat) (hx : x < 18446744073709551616) (hy : y < 18446744073709551616) : eu a b x y < 18446744073709551616 := eu_lt hx hy
section MC
theorem shl_xor (a b k : Nat) : (a ^^^ b) <<< k = (a <<< k) ^^^ (b <<< k) := by
  apply Nat.eq_of_testBit_eq
  intro i
  simp only [Nat.testBit_xor, Nat.testBit_shiftLeft]
  by_cases h : k ≤ i <;> simp [h]
theorem x4 (a b c d : Nat) : (a ^^^ b) ^^^ (c ^^^ d) = (a ^^^ c) ^^^ (b ^^^ d) := by
  rw [Nat.xor_assoc, Nat.xor_assoc, ← Nat.xor_assoc b c d, ← Nat.xor_assoc c b d, Nat.xor_comm b c]
theorem one_bit {i : Nat} (h : ¬ i = 0) : Nat.testBit 1 i = false := by
  cases hc : Nat.testBit 1 i with
  | false => rfl
  | true => exact absurd (Nat.testBit_one_eq_true_iff_self_eq_zero.mp hc) h
theorem pmF_xl (a a' b : Nat) : ∀ n : Nat, pmF (a ^^^ a') b n = pmF a b n ^^^ pmF a' b n := by
  intro n
  induction n with
  | zero => simp [pmF]
  | succ n ih =>
    cases h : b.testBit n with
    | true => rw [pmF_t h, pmF_t h, pmF_t h, ih, shl_xor, x4]
    | false => rw [pmF_f h, pmF_f h, pmF_f h, ih]
theorem pmF_sl (a b k : Nat) : ∀ n : Nat, pmF (a <<< k) b n = (pmF a b n) <<< k := by
  intro n
  induction n with
  | zero => exact (Nat.zero_shiftLeft k).symm
  | succ n ih =>
    cases h : b.testBit n with
    | true => rw [pmF_t h, pmF_t h, ih, shl_xor, ← Nat.shiftLeft_add, ← Nat.shiftLeft_add, Nat.add_comm]
    | false => rw [pmF_f h, pmF_f h, ih]
theorem pmF_0l (b : Nat) : ∀ n : Nat, pmF 0 b n = 0 := by
  intro n
  induction n with
  | zero => rfl
  | succ n ih =>
    cases h : b.testBit n with
    | true => rw [pmF_t h, ih, Nat.zero_shiftLeft]; rfl
    | false => rw [pmF_f h, ih]
theorem pmF_low (a b : Nat) : ∀ n : Nat, pmF a b (n + 1) = (if b.testBit 0 = true then a else 0) ^^^ ((pmF a (b >>> 1) n) <<< 1) := by
  intro n
  induction n with
  | zero =>
    cases h : b.testBit 0 with
    | true => rw [pmF_t h]; simp [pmF]
    | false => rw [pmF_f h]; simp [pmF]
  | succ n ih =>
    have e : (b >>> 1).testBit n = b.testBit (n + 1) := by rw [Nat.testBit_shiftRight, Nat.add_comm]
    cases h : b.testBit (n + 1) with
    | true => rw [pmF_t h, ih, pmF_t (e.trans h), shl_xor, ← Nat.xor_assoc, ← Nat.shiftLeft_add]
    | false => rw [pmF_f h, ih, pmF_f (e.trans h)]
theorem pmF_congr {a b b' : Nat} : ∀ n : Nat, (∀ i, i < n → b.testBit i = b'.testBit i) → pmF a b n = pmF a b' n := by
  intro n
  induction n with
  | zero => intro _; rfl
  | succ n ih =>
    intro h
    have h1 := ih (fun i hi => h i (by omega))
    have h2 := h n (by omega)
    cases h3 : b.testBit n with
    | true => rw [pmF_t h3, pmF_t (h2.symm.trans h3), h1]
    | false => rw [pmF_f h3, pmF_f (h2.symm.trans h3), h1]
theorem pmF_1l {b : Nat} : ∀ n : Nat, b < 2 ^ n → pmF 1 b n = b := by
  intro n
  induction n generalizing b with
  | zero => intro h; simp only [Nat.pow_zero] at h; rw [pmF]; omega
  | succ n ih =>
    intro h
    have h1 : b >>> 1 < 2 ^ n := by rw [Nat.shiftRight_eq_div_pow]; rw [Nat.pow_succ] at h; omega
    rw [pmF_low, ih h1]
    apply Nat.eq_of_testBit_eq
    intro i
    cases i with
    | zero => cases h0 : b.testBit 0 <;> simp [h0, Nat.testBit_xor, Nat.testBit_shiftLeft]
    | succ i => cases h0 : b.testBit 0 <;> simp [Nat.testBit_xor, Nat.testBit_shiftLeft, Nat.testBit_shiftRight, Nat.add_comm, one_bit (Nat.succ_ne_zero i)]
theorem split1 (a : Nat) : a = ((a >>> 1) <<< 1) ^^^ (if a.testBit 0 = true then 1 else 0) := by
  apply Nat.eq_of_testBit_eq
  intro i
  cases i with
  | zero => cases h0 : a.testBit 0 <;> simp [h0, Nat.testBit_xor, Nat.testBit_shiftLeft]
  | succ i => cases h0 : a.testBit 0 <;> simp [Nat.testBit_xor, Nat.testBit_shiftLeft, Nat.testBit_shiftRight, Nat.add_comm, one_bit (Nat.succ_ne_zero i)]
theorem pmF_comm : ∀ (n m a b : Nat), a < 2 ^ n → b < 2 ^ m → pmF a b m = pmF b a n := by
  intro n
  induction n with
  | zero =>
    intro m a b h _
    have : a = 0 := by simp only [Nat.pow_zero] at h; omega
    subst this
    rw [pmF_0l]
    rfl
  | succ n ih =>
    intro m a b ha hb
    have h1 : a >>> 1 < 2 ^ n := by rw [Nat.shiftRight_eq_div_pow]; rw [Nat.pow_succ] at ha; omega
    rw [pmF_low, ← ih m (a >>> 1) b h1 hb]
    conv => lhs; rw [split1 a]
    rw [pmF_xl, pmF_sl, Nat.xor_comm]
    congr 1
    cases h0 : a.testBit 0 with
    | true => rw [if_pos rfl, if_pos rfl, pmF_1l m hb]
    | false => rw [if_neg (by decide), if_neg (by decide), pmF_0l]
theorem lt2_of {x n : Nat} (h : ∀ i, n ≤ i → x.testBit i = false) : x < 2 ^ n := Nat.lt_pow_two_of_testBit x (fun i hi => h i hi)
theorem tp_down {x n : Nat} (h : tp x < ((n + 1 : Nat) : Int)) (h0 : x.testBit n = false) : tp x < (n : Int) := by
  rw [tp_lt]
  refine lt2_of (fun i hi => ?_)
  rcases Nat.eq_or_lt_of_le hi with e | e
  · rw [← e]; exact h0
  · exact tp_hi (by omega)
theorem pmF_bit {a b : Nat} : ∀ n : Nat, ∀ d : Nat, a < 2 ^ d → pmF a b n < 2 ^ (d + n) := by
  intro n
  induction n with
  | zero => intro d _; rw [pmF]; exact Nat.two_pow_pos _
  | succ n ih =>
    intro d h
    have h1 : pmF a b n < 2 ^ (d + (n + 1)) := Nat.lt_of_lt_of_le (ih d h) (Nat.pow_le_pow_right (by omega) (by omega))
    rw [pmF]
    split
    · refine Nat.xor_lt_two_pow h1 ?_
      rw [Nat.shiftLeft_eq]
      have h2 : a * 2 ^ n < 2 ^ d * 2 ^ n := Nat.mul_lt_mul_of_pos_right h (Nat.two_pow_pos n)
      rw [← Nat.pow_add] at h2
      exact Nat.lt_of_lt_of_le h2 (Nat.pow_le_pow_right (by omega) (by omega))
    · exact h1
/-- what a row of the division does: the rest is of a lesser degree, and it is the first one less the quotient's product -/
theorem qoF_spec {b d : Nat} (hd : tp b = (d : Int)) : ∀ (j x q : Nat), tp x < ((d + j : Nat) : Int) → (∀ i, i < j → q.testBit i = false) →
    tp (qoF b d j x q).1 < (d : Int) ∧ ∃ r, r < 2 ^ j ∧ (qoF b d j x q).2 = q ^^^ r ∧ (qoF b d j x q).1 = x ^^^ pmF b r j := by
  intro j
  induction j with
  | zero =>
    intro x q hx _
    exact ⟨hx, 0, Nat.one_pos, by simp [qoF], by simp [qoF, pmF]⟩
  | succ j ih =>
    intro x q hx hq
    cases h : x.testBit (d + j) with
    | true =>
      have e1 : tp (x ^^^ (b <<< j)) < ((d + j : Nat) : Int) := by
        rw [tp_lt]
        refine lt2_of (fun i hi => ?_)
        rw [Nat.testBit_xor, Nat.testBit_shiftLeft]
        rcases Nat.eq_or_lt_of_le hi with e | e
        · subst e
          rw [h, show d + j - j = d by omega, tp_top hd]
          simp
        · have h1 : x.testBit i = false := tp_hi (by omega)
          have h2 : b.testBit (i - j) = false := tp_hi (by rw [hd]; omega)
          simp [h1, h2]
      have e2 : ∀ i, i < j → (q ||| (1 <<< j)).testBit i = false := by
        intro i hi
        rw [Nat.testBit_or, Nat.testBit_shiftLeft, hq i (by omega)]
        have : ¬ i ≥ j := by omega
        simp [this]
      obtain ⟨a1, r, a2, a3, a4⟩ := ih (x ^^^ (b <<< j)) (q ||| (1 <<< j)) e1 e2
      rw [qoF_t h]
      have hr : r.testBit j = false := Nat.testBit_lt_two_pow a2
      have eq1 : q ||| (1 <<< j) = q ^^^ (1 <<< j) := by
        apply Nat.eq_of_testBit_eq
        intro i
        rw [Nat.testBit_or, Nat.testBit_xor, Nat.testBit_shiftLeft]
        by_cases hi : i = j
        · subst hi
          rw [hq i (by omega)]
          simp
        · by_cases hi2 : j ≤ i
          · have : (1 : Nat).testBit (i - j) = false := one_bit (by omega)
            simp [this]
          · simp [hi2]
      refine ⟨a1, r ^^^ (1 <<< j), ?_, ?_, ?_⟩
      · refine Nat.xor_lt_two_pow (by rw [Nat.pow_succ]; omega) ?_
        rw [Nat.shiftLeft_eq, Nat.one_mul, Nat.pow_succ]
        have := Nat.two_pow_pos j
        omega
      · rw [a3, eq1, Nat.xor_assoc, Nat.xor_comm (1 <<< j) r]
      · have h3 : (r ^^^ (1 <<< j)).testBit j = true := by
          rw [Nat.testBit_xor, hr, Nat.testBit_shiftLeft]
          simp
        rw [pmF_t h3, a4, Nat.xor_assoc, Nat.xor_comm (b <<< j)]
        congr 2
        refine (pmF_congr j (fun i hi => ?_)).symm
        rw [Nat.testBit_xor, Nat.testBit_shiftLeft]
        have : ¬ i ≥ j := by omega
        simp [this]
    | false =>
      obtain ⟨a1, r, a2, a3, a4⟩ := ih x q (tp_down (by rw [show d + (j + 1) = d + j + 1 by omega] at hx; exact hx) h) (fun i hi => hq i (by omega))
      rw [qoF_f h]
      refine ⟨a1, r, by rw [Nat.pow_succ]; omega, a3, ?_⟩
      rw [pmF_f (Nat.testBit_lt_two_pow a2)]
      exact a4
theorem lt64_tp {a : Nat} (h : a < 18446744073709551616) : a < 2 ^ 64 := h
/-- quotient and rest: a is their sum; q·b hangs on no order -/
theorem qo_spec {a b : Nat} (ha : a < 18446744073709551616) (hb : b < 18446744073709551616) (h0 : ¬ b = 0) : tp (rm a b) < tp b ∧ qo a b < 2 ^ (tp a + 1 - tp b).toNat ∧ rm a b = a ^^^ pmF b (qo a b) (tp a + 1 - tp b).toNat := by
  have hbr := tp_rng hb
  have har := tp_rng ha
  have hb1 := mt tp_neg.mp h0
  have hd : tp b = ((tp b).toNat : Int) := by omega
  obtain ⟨a1, r, a2, a3, a4⟩ := qoF_spec hd (tp a + 1 - tp b).toNat a 0 (by omega) (fun i _ => Nat.zero_testBit i)
  have e0 : qo a b = r := by
    rw [qo, if_neg h0, a3, Nat.zero_xor]
  have e1 : rm a b = (qoF b (tp b).toNat (tp a + 1 - tp b).toNat a 0).1 := by
    rw [rm, e0, a4, pm]
    have hbb : b < 2 ^ 64 := hb
    have e2 : pmF r b 64 = pmF b r (tp a + 1 - tp b).toNat := pmF_comm _ _ _ _ a2 hbb
    rw [e2]
    congr 1
    refine Nat.mod_eq_of_lt ?_
    have e3 : pmF b r (tp a + 1 - tp b).toNat < 2 ^ 64 := by
      rcases Nat.eq_zero_or_pos r with hr | hr
      · subst hr
        have : ∀ n : Nat, pmF b 0 n = 0 := by
          intro n
          induction n with
          | zero => rfl
          | succ n ih => rw [pmF_f (Nat.zero_testBit n), ih]
        rw [this]
        exact Nat.two_pow_pos _
      · by_cases hj : (tp a + 1 - tp b).toNat = 0
        · rw [hj, Nat.pow_zero] at a2
          omega
        · have h6 := pmF_bit (a := b) (b := r) (tp a + 1 - tp b).toNat ((tp b).toNat + 1) (tp_le.mp (by omega))
          have h7 : (tp b).toNat + 1 + (tp a + 1 - tp b).toNat ≤ 65 := by omega
          -- the row's own rest is below 2 ^ 64, and so is a
          have h8 : (qoF b (tp b).toNat (tp a + 1 - tp b).toNat a 0).1 < 2 ^ 64 := by
            rw [← tp_lt]
            omega
          have h9 : pmF b r (tp a + 1 - tp b).toNat = a ^^^ (qoF b (tp b).toNat (tp a + 1 - tp b).toNat a 0).1 := by
            rw [a4, ← Nat.xor_assoc, Nat.xor_self, Nat.zero_xor]
          rw [h9]
          exact Nat.xor_lt_two_pow ha h8
    exact e3
  refine ⟨by rw [e1]; omega, by rw [e0]; exact a2, ?_⟩
  rw [e1, e0]
  exact a4
theorem rm_tp {a b : Nat} (ha : a < 18446744073709551616) (hb : b < 18446744073709551616) (h0 : ¬ b = 0) : tp (rm a b) < tp b := (qo_spec ha hb h0).1
end MC
section MD
/-- WEIGHT of the first k places -/
def wt (n : Nat) : Nat → Int
  | 0 => 0
  | k + 1 => wt n k + zB (n.testBit k)
theorem wt_rng (n : Nat) : ∀ k : Nat, 0 ≤ wt n k ∧ wt n k ≤ (k : Int) := by
  intro k
  induction k with
  | zero => rw [wt]; omega
  | succ k ih =>
    have := zB_rng (n.testBit k)
    rw [wt]
    omega
theorem wt_rngE (n : Nat) : 0 ≤ wt n 33 ∧ wt n 33 ≤ 33 := wt_rng n 33
theorem bp33 (n : Nat) : -1 ≤ bpF n 33 0 ∧ bpF n 33 0 ≤ 33 := by
  have := bpF_rng n 33 0
  omega
/-- the model's DERIVED, k odd places read -/
def mdF (n : Nat) : Nat → Nat
  | 0 => 0
  | k + 1 => if n.testBit (2 * k + 1) = true then mdF n k ||| (1 <<< (2 * k)) else mdF n k
theorem mdF_t {n k : Nat} (h : n.testBit (2 * k + 1) = true) : mdF n (k + 1) = mdF n k ||| (1 <<< (2 * k)) := by rw [mdF, if_pos h]
theorem mdF_f {n k : Nat} (h : n.testBit (2 * k + 1) = false) : mdF n (k + 1) = mdF n k := by rw [mdF, if_neg (by rw [h]; decide)]
theorem mdF_lt (n : Nat) : mdF n 16 < 18446744073709551616 := by
  have h : ∀ k : Nat, k ≤ 31 → mdF n k < 18446744073709551616 := by
    intro k
    induction k with
    | zero => intro _; rw [mdF]; omega
    | succ k ih =>
      intro hk
      rw [mdF]
      split
      · exact or64 (ih (by omega)) (one_shl64 (by omega))
      · exact ih (by omega)
  exact h 16 (by omega)
theorem ehF17_lt (n : Nat) : ehF n 17 < 18446744073709551616 := Nat.lt_of_lt_of_le (ehF_lt n 17) (by decide)
-- IRREDUCIBLE
def irE (n : Nat) : Nat := 1 <<< (tp n / 2 + 1).toNat
def irF (n : Nat) : Nat → Nat → Bool
  | 0, _ => true
  | f + 1, p => if rm n p = 0 then false else irF n f (p + 1)
def ir (n : Nat) : Bool := if tp n < 1 then false else irF n (irE n - 2) 2
theorem irF_t {n f p : Nat} (h : rm n p = 0) : irF n (f + 1) p = false := by rw [irF, if_pos h]
theorem irF_f {n f p : Nat} (h : ¬ rm n p = 0) : irF n (f + 1) p = irF n f (p + 1) := by rw [irF, if_neg h]
theorem irE_eq {n : Nat} (h : 1 ≤ tp n) : irE n = 2 ^ (tp n / 2 + 1).toNat := by rw [irE, Nat.shiftLeft_eq, Nat.one_mul]
theorem irE_rng {n : Nat} (h : 1 ≤ tp n) (h2 : tp n ≤ 63) : 2 ≤ irE n ∧ irE n ≤ 4294967296 := by
  rw [irE_eq h]
  have h3 : 2 ^ 1 ≤ 2 ^ (tp n / 2 + 1).toNat := Nat.pow_le_pow_right (by omega) (by omega)
  have h4 : 2 ^ (tp n / 2 + 1).toNat ≤ 2 ^ 32 := Nat.pow_le_pow_right (by omega) (by omega)
  omega
theorem irE_tp {n p : Nat} (h : 1 ≤ tp n) : 2 * tp p ≤ tp n ↔ p < irE n := by
  rw [irE_eq h, ← tp_lt]
  omega
def cbF : Nat → Nat → Int → Int
  | 0, _, c => c
  | f + 1, p, c => cbF f (p + 1) (c + zB (ir p))
def cb (s e : Nat) : Int := cbF (e - s) s 0
theorem cbF_rng : ∀ (f p : Nat) (c : Int), c ≤ cbF f p c ∧ cbF f p c ≤ c + (f : Int) := by
  intro f
  induction f with
  | zero => intro p c; rw [cbF]; omega
  | succ f ih =>
    intro p c
    have h1 := ih (p + 1) (c + zB (ir p))
    have h2 := zB_rng (ir p)
    rw [cbF]
    omega
theorem cb_rngE (s e : Nat) : 0 ≤ cb s e ∧ cb s e ≤ (e : Int) := by
  have := cbF_rng (e - s) s 0
  unfold cb
  omega
/-- the irreducible one with a rank: f numbers to look at, from p on; a of them seen -/
def wrF (r : Int) : Nat → Nat → Int → Nat
  | 0, _, _ => 0
  | f + 1, p, a => if ir p = true then (if a = r then p else wrF r f (p + 1) (a + 1)) else wrF r f (p + 1) a
def wr (d : Nat) (r : Int) : Nat := wrF r (2 ^ (d + 1) - 2 ^ d) (2 ^ d) 0
theorem wrF_n {r : Int} {f p : Nat} {a : Int} (h : ir p = false) : wrF r (f + 1) p a = wrF r f (p + 1) a := by rw [wrF, if_neg (by rw [h]; decide)]
theorem wrF_e {r : Int} {f p : Nat} {a : Int} (h : ir p = true) (h2 : a = r) : wrF r (f + 1) p a = p := by rw [wrF, if_pos h, if_pos h2]
theorem wrF_s {r : Int} {f p : Nat} {a : Int} (h : ir p = true) (h2 : ¬ a = r) : wrF r (f + 1) p a = wrF r f (p + 1) (a + 1) := by rw [wrF, if_pos h, if_neg h2]
theorem wrF_lt {r : Int} : ∀ (f p : Nat) (a : Int), wrF r f p a < p + f + 1 := by
  intro f
  induction f with
  | zero => intro p a; rw [wrF]; omega
  | succ f ih =>
    intro p a
    have h1 := ih (p + 1) (a + 1)
    have h2 := ih (p + 1) a
    rw [wrF]
    split
    · split <;> omega
    · omega
theorem pow_s (d : Nat) : 2 ^ (d + 1) = 2 * 2 ^ d := by rw [Nat.pow_succ, Nat.mul_comm]
theorem pow_8 {d : Nat} (h : d ≤ 8) : 1 ≤ 2 ^ d ∧ 2 ^ d ≤ 256 := ⟨Nat.two_pow_pos d, Nat.pow_le_pow_right (n := 2) (by omega) h⟩
theorem wr_ltE (d : Nat) (r : Int) (h : d ≤ 8) : wr d r < 513 := by
  have h1 := wrF_lt (r := r) (2 ^ (d + 1) - 2 ^ d) (2 ^ d) 0
  have h2 := pow_8 h
  have h3 := pow_s d
  unfold wr
  omega
def taF : Nat → Nat → Nat → Nat
  | 0, _, x => x
  | f + 1, p, x => taF f (p + 1) (if ir p = true then pm x p else x)
def ta (x d : Nat) : Nat := taF (2 ^ (d + 1) - 2 ^ d) (2 ^ d) x
theorem taF_t {f p x : Nat} (h : ir p = true) : taF (f + 1) p x = taF f (p + 1) (pm x p) := by rw [taF, if_pos h]
theorem taF_f {f p x : Nat} (h : ir p = false) : taF (f + 1) p x = taF f (p + 1) x := by rw [taF, if_neg (by rw [h]; decide)]
theorem taF_lt : ∀ (f p x : Nat), x < 18446744073709551616 → taF f p x < 18446744073709551616 := by
  intro f
  induction f with
  | zero => intro p x h; exact h
  | succ f ih =>
    intro p x h
    rw [taF]
    refine ih _ _ ?_
    split
    · exact pm_lt _ _
    · exact h
theorem ta_ltE (x d : Nat) (h : x < 18446744073709551616) : ta x d < 18446744073709551616 := taF_lt _ _ _ h
/-- f degrees to go, from d on -/
def pdF (n : Int) : Nat → Nat → Nat → Nat
  | 0, _, x => x
  | f + 1, d, x => pdF n f (d + 1) (if n % (d : Int) = 0 then ta x d else x)
def pd (n : Int) : Nat := pdF n n.toNat 1 1
theorem pdF_t {n : Int} {f d x : Nat} (h : n % (d : Int) = 0) : pdF n (f + 1) d x = pdF n f (d + 1) (ta x d) := by rw [pdF, if_pos h]
theorem pdF_f {n : Int} {f d x : Nat} (h : ¬ n % (d : Int) = 0) : pdF n (f + 1) d x = pdF n f (d + 1) x := by rw [pdF, if_neg h]
theorem pdF_lt {n : Int} : ∀ (f d x : Nat), x < 18446744073709551616 → pdF n f d x < 18446744073709551616 := by
  intro f
  induction f with
  | zero => intro d x h; exact h
  | succ f ih =>
    intro d x h
    rw [pdF]
    refine ih _ _ ?_
    split
    · exact ta_ltE _ _ h
    · exact h
theorem pd_ltE (n : Int) : pd n < 18446744073709551616 := pdF_lt _ _ _ (by omega)
-- PERIOD: f tries to go, from e on
def peF (m : Nat) : Nat → Int → Nat → Int
  | 0, _, _ => -1
  | f + 1, e, x => if rm (x <<< 1) m = 1 then e else peF m f (e + 1) (rm (x <<< 1) m)
def pe (m : Nat) : Int := peF m 255 1 1
theorem peF_t {m f x : Nat} {e : Int} (h : rm (x <<< 1) m = 1) : peF m (f + 1) e x = e := by rw [peF, if_pos h]
theorem peF_f {m f x : Nat} {e : Int} (h : ¬ rm (x <<< 1) m = 1) : peF m (f + 1) e x = peF m f (e + 1) (rm (x <<< 1) m) := by rw [peF, if_neg h]
theorem peF_rng {m : Nat} : ∀ (f : Nat) (e : Int) (x : Nat), 0 ≤ e → -1 ≤ peF m f e x ∧ peF m f e x ≤ e + (f : Int) := by
  intro f
  induction f with
  | zero => intro e x h; rw [peF]; omega
  | succ f ih =>
    intro e x h
    have := ih (e + 1) (rm (x <<< 1) m) (by omega)
    rw [peF]
    split <;> omega
theorem pe_rngE (m : Nat) : -1 ≤ pe m ∧ pe m ≤ 256 := peF_rng 255 1 1 (by omega)
theorem shl1_lt {x : Nat} (h : x < 9223372036854775808) : x <<< 1 < 18446744073709551616 := by rw [Nat.shiftLeft_eq]; omega
-- the formula
def sg (d : Int) : Int := if d = 1 then 1 else if d = 2 then -1 else if d = 3 then -1 else if d = 4 then 0 else if d = 5 then -1 else if d = 6 then 1 else if d = 7 then -1 else 0
theorem sg_rngE (d : Int) : -1 ≤ sg d ∧ sg d ≤ 1 := by
  unfold sg
  repeat' split
  all_goals omega
def foF (n : Int) : Nat → Int
  | 0 => 0
  | d + 1 => if n % ((d + 1 : Nat) : Int) = 0 then foF n d + sg ((d + 1 : Nat) : Int) * ((1 <<< (n / ((d + 1 : Nat) : Int)).toNat : Nat) : Int) else foF n d
def fo (n : Int) : Int := foF n n.toNat / n
theorem fo_rngE (n : Int) (h : 1 ≤ n ∧ n ≤ 8) : (0 ≤ foF n n.toNat ∧ foF n n.toNat ≤ 2147483647) ∧ 0 ≤ fo n ∧ fo n ≤ 40 := by
  have hc : n = 1 ∨ n = 2 ∨ n = 3 ∨ n = 4 ∨ n = 5 ∨ n = 6 ∨ n = 7 ∨ n = 8 := by omega
  rcases hc with rfl | rfl | rfl | rfl | rfl | rfl | rfl | rfl <;> decide +kernel
end MD
section ME
def eux (a : Nat) (z : Int) : Nat := if z = 0 then a else if z = 1 then 1 else 0
def euy (b : Nat) (z : Int) : Nat := if z = 0 then b else if z = 1 then 0 else 1
theorem eux_lt {a : Nat} {z : Int} (h : a < 18446744073709551616) : eux a z < 18446744073709551616 := by
  unfold eux
  repeat' split
  all_goals omega
theorem euy_lt {a : Nat} {z : Int} (h : a < 18446744073709551616) : euy a z < 18446744073709551616 := by
  unfold euy
  repeat' split
  all_goals omega
theorem tp_pow (n : Nat) (h : 0 ≤ tp n) : 2 ^ (tp n).toNat ≤ n := by
  have h1 := mt tp_lt.mpr (by omega : ¬ tp n < ((tp n).toNat : Int))
  omega
theorem ir_tp {n : Nat} (h : ir n = true) : 1 ≤ tp n := by
  unfold ir at h
  split at h
  · exact absurd h (by decide)
  · omega
def rk (n : Nat) : Int := if ir n = true then cb (2 ^ (tp n).toNat) n else -1
theorem rk_rngE (n : Nat) : -1 ≤ rk n ∧ rk n ≤ (n : Int) := by
  unfold rk
  split
  · have := cb_rngE (2 ^ (tp n).toNat) n
    omega
  · omega
end ME
section MF
theorem tp33 {n : Nat} : n < 8589934592 ↔ tp n ≤ 32 := by
  have h := tp_le (n := n) (k := 32)
  constructor
  · intro h1
    exact h.mpr h1
  · intro h1
    exact h.mp h1
theorem tp_mono {a b : Nat} (h : a ≤ b) : tp a ≤ tp b := by
  rcases Nat.eq_zero_or_pos b with h0 | h0
  · have : a = 0 := by omega
    rw [this, h0]
    exact Int.le_refl _
  · have h1 : ¬ tp b < 0 := mt tp_neg.mp (by omega)
    have h2 : tp b ≤ ((tp b).toNat : Int) := by omega
    have h3 := tp_le.mp h2
    have h4 := (tp_le (n := a) (k := (tp b).toNat)).mpr (by omega)
    omega
theorem tp_xor {a b : Nat} {K : Int} (ha : tp a ≤ K) (hb : tp b ≤ K) : tp (a ^^^ b) ≤ K := by
  by_cases h : K < 0
  · have h1 := tp_neg.mp (by omega : tp a < 0)
    have h2 := tp_neg.mp (by omega : tp b < 0)
    subst h1 h2
    exact ha
  · have e : K = (K.toNat : Int) := by omega
    rw [e] at ha hb ⊢
    rw [tp_le] at ha hb ⊢
    exact Nat.xor_lt_two_pow ha hb
theorem pmF_bit2 {a b : Nat} : ∀ n : Nat, ∀ d : Nat, a < 2 ^ d → pmF a b (n + 1) < 2 ^ (d + n) := by
  intro n
  induction n with
  | zero =>
    intro d h
    have h0 : (0 : Nat) < 2 ^ d := Nat.two_pow_pos d
    cases hb : b.testBit 0 with
    | true =>
      rw [pmF_t hb, pmF]
      simp
      exact h
    | false =>
      rw [pmF_f hb, pmF]
      exact h0
  | succ n ih =>
    intro d h
    have h1 : pmF a b (n + 1) < 2 ^ (d + (n + 1)) := Nat.lt_of_lt_of_le (ih d h) (Nat.pow_le_pow_right (by omega) (by omega))
    cases hb : b.testBit (n + 1) with
    | true =>
      rw [pmF_t hb]
      refine Nat.xor_lt_two_pow h1 ?_
      rw [Nat.shiftLeft_eq]
      have h2 : a * 2 ^ (n + 1) < 2 ^ d * 2 ^ (n + 1) := Nat.mul_lt_mul_of_pos_right h (Nat.two_pow_pos _)
      rw [← Nat.pow_add] at h2
      exact h2
    | false =>
      rw [pmF_f hb]
      exact h1
theorem pmF_0r (a : Nat) : ∀ n : Nat, pmF a 0 n = 0 := by
  intro n
  induction n with
  | zero => rfl
  | succ n ih => rw [pmF_f (Nat.zero_testBit n), ih]
theorem pm_0l (b : Nat) : pm 0 b = 0 := by rw [pm, pmF_0l]
theorem pm_0r (a : Nat) : pm a 0 = 0 := by rw [pm, pmF_0r]
theorem pm_tp {a b : Nat} (hb : b < 18446744073709551616) (ha0 : a ≠ 0) (hb0 : b ≠ 0) : tp (pm a b) ≤ tp a + tp b := by
  have h1 : ¬ tp a < 0 := mt tp_neg.mp ha0
  have h2 : ¬ tp b < 0 := mt tp_neg.mp hb0
  have h3 := tp_rng hb
  have e1 : pmF a b ((tp b).toNat + 1) = pmF a b 64 := pmF_64 (tp_shr.mpr (by omega)) (by omega)
  have h4 : pmF a b ((tp b).toNat + 1) < 2 ^ ((tp a).toNat + 1 + (tp b).toNat) := pmF_bit2 _ _ (tp_le.mp (by omega))
  have h5 : pm a b ≤ pmF a b 64 := Nat.mod_le _ _
  have h6 := tp_mono h5
  have h7 := (tp_lt (n := pmF a b 64) (k := (tp a).toNat + 1 + (tp b).toNat)).mpr (by rw [← e1]; exact h4)
  omega
theorem pm33 {a b : Nat} (hb : b < 8589934592) (h : tp a + tp b ≤ 32) : pm a b < 8589934592 := by
  by_cases ha0 : a = 0
  · rw [ha0, pm_0l]; omega
  · by_cases hb0 : b = 0
    · rw [hb0, pm_0r]; omega
    · have := pm_tp (a := a) (b := b) (by omega) ha0 hb0
      exact tp33.mpr (by omega)
theorem rm_tpa {a b : Nat} (ha : a < 18446744073709551616) (hb : b < 18446744073709551616) (h0 : ¬ b = 0) : tp (rm a b) ≤ tp a := by
  obtain ⟨h1, h2, h3⟩ := qo_spec ha hb h0
  by_cases h : tp a < tp b
  · have e : (tp a + 1 - tp b).toNat = 0 := by omega
    rw [e, pmF, Nat.xor_zero] at h3
    rw [h3]
    exact Int.le_refl _
  · omega
theorem rm33 {a b : Nat} (ha : a < 8589934592) (hb : b < 8589934592) (h0 : ¬ b = 0) : rm a b < 8589934592 := by
  have h1 := rm_tpa (a := a) (b := b) (by omega) (by omega) h0
  have h2 := tp33.mp ha
  exact tp33.mpr (by omega)
theorem qo_tp {a b : Nat} (ha : a < 18446744073709551616) (hb : b < 18446744073709551616) (h0 : ¬ b = 0) (hq : qo a b ≠ 0) : tp (qo a b) + tp b ≤ tp a := by
  obtain ⟨h1, h2, h3⟩ := qo_spec ha hb h0
  have h4 : ¬ tp b < 0 := mt tp_neg.mp h0
  by_cases h : (tp a + 1 - tp b).toNat = 0
  · rw [h, Nat.pow_zero] at h2
    exact absurd (by omega) hq
  · have h5 := tp_lt.mpr h2
    omega
theorem qo33 {a b : Nat} (ha : a < 8589934592) (hb : b < 8589934592) : qo a b < 8589934592 := by
  by_cases h0 : b = 0
  · rw [qo, if_pos h0]; omega
  · by_cases hq : qo a b = 0
    · omega
    · have h1 := qo_tp (a := a) (b := b) (by omega) (by omega) h0 hq
      have h2 := tp33.mp ha
      have h4 : ¬ tp b < 0 := mt tp_neg.mp h0
      exact tp33.mpr (by omega)
theorem euF_tp {K : Int} : ∀ (f a b x y : Nat), a < 18446744073709551616 → b < 18446744073709551616 → y < 18446744073709551616 → (y ≠ 0 → tp y + tp a ≤ K ∧ tp y ≤ K) → (x ≠ 0 → tp x + tp b ≤ K ∧ tp x ≤ K) → x < 18446744073709551616 → -1 ≤ K → tp (euF f a b x y) ≤ K := by
  intro f
  induction f with
  | zero =>
    intro a b x y ha hb hy h1 h2 hx hK
    rw [euF]
    by_cases h : x = 0
    · rw [h, tp_0]; exact hK
    · exact (h2 h).2
  | succ f ih =>
    intro a b x y ha hb hy h1 h2 hx hK
    by_cases h0 : b = 0
    · subst h0
      rw [euF_0]
      by_cases h : x = 0
      · rw [h, tp_0]; exact hK
      · exact (h2 h).2
    · rw [euF_s h0]
      have hb0 : ¬ tp b < 0 := mt tp_neg.mp h0
      have hra := rm_tpa ha hb h0
      refine ih b (rm a b) y (x ^^^ pm (qo a b) y) hb (rm_lt ha) (xor64 hx (pm_lt _ _)) (fun hne => ?_) (fun hne => ?_) hy hK
      · have e1 : tp (pm (qo a b) y) ≤ K - tp b := by
          by_cases hq : qo a b = 0
          · rw [hq, pm_0l, tp_0]
            by_cases hx0 : x = 0
            · exfalso
              apply hne
              rw [hx0, hq, pm_0l]
              rfl
            · have := h2 hx0
              have := tp_neg (n := x)
              omega
          · by_cases hy0 : y = 0
            · rw [hy0, pm_0r, tp_0]
              by_cases hx0 : x = 0
              · exfalso
                apply hne
                rw [hx0, hy0, pm_0r]
                rfl
              · have := h2 hx0
                have := tp_neg (n := x)
                omega
            · have g1 := pm_tp hy hq hy0
              have g2 := qo_tp ha hb h0 hq
              have g3 := h1 hy0
              omega
        have e2 : tp x ≤ K - tp b := by
          by_cases hx0 : x = 0
          · rw [hx0, tp_0]
            have := tp_ge (pm (qo a b) y)
            omega
          · have := h2 hx0
            omega
        have e3 := tp_xor e2 e1
        omega
      · have g3 := h1 hne
        omega
theorem euF_g33 : ∀ (f a b : Nat), a < 8589934592 → b < 8589934592 → euF f a b a b < 8589934592 := by
  intro f
  induction f with
  | zero => intro a b ha _; exact ha
  | succ f ih =>
    intro a b ha hb
    by_cases h0 : b = 0
    · subst h0
      rw [euF_0]
      exact ha
    · rw [euF_s h0]
      exact ih b (rm a b) hb (rm33 ha hb h0)
theorem eu33 {a b : Nat} (z : Int) (ha : a < 8589934592) (hb : b < 8589934592) : eu a b (eux a z) (euy b z) < 8589934592 := by
  have h1 := tp33.mp ha
  have h2 := tp33.mp hb
  by_cases hz : z = 0
  · rw [eux, euy, if_pos hz, if_pos hz]
    exact euF_g33 _ _ _ ha hb
  · refine tp33.mpr ?_
    have hx : eux a z < 18446744073709551616 := eux_lt (by omega)
    have hy : euy b z < 18446744073709551616 := euy_lt (by omega)
    refine euF_tp 65 a b (eux a z) (euy b z) (by omega) (by omega) hy (fun h => ?_) (fun h => ?_) hx (by decide)
    · have e : euy b z = 1 := by
        unfold euy at h ⊢
        rw [if_neg hz] at h ⊢
        split
        · rename_i h9
          rw [if_pos h9] at h
          exact absurd rfl h
        · rfl
      rw [e]
      have : tp 1 = 0 := rfl
      omega
    · have e : eux a z = 1 := by
        unfold eux at h ⊢
        rw [if_neg hz] at h ⊢
        split
        · rfl
        · rename_i h9
          rw [if_neg h9] at h
          exact absurd rfl h
      rw [e]
      have : tp 1 = 0 := rfl
      omega
theorem eu33g {a b : Nat} (ha : a < 8589934592) (hb : b < 8589934592) : eu a b a b < 8589934592 := eu33 0 ha hb
theorem eu33f {a b : Nat} (ha : a < 8589934592) (hb : b < 8589934592) : eu a b 1 0 < 8589934592 := eu33 1 ha hb
theorem eu33s {a b : Nat} (ha : a < 8589934592) (hb : b < 8589934592) : eu a b 0 1 < 8589934592 := eu33 2 ha hb
theorem dv33 {n : Nat} (h : n < 8589934592) : dv n < 8589934592 := by
  have h1 : dv n ≤ n >>> 1 := Nat.and_le_left
  have h2 : n >>> 1 ≤ n := Nat.shiftRight_le n 1
  omega
theorem eh33 (n : Nat) : eh n < 8589934592 := by
  have := eh_lt n
  omega
theorem one_shl33 {j : Nat} (h : j ≤ 32) : 1 <<< j < 8589934592 := by
  rw [Nat.shiftLeft_eq, Nat.one_mul]
  have : 2 ^ j ≤ 2 ^ 32 := Nat.pow_le_pow_right (by omega) h
  omega
theorem or33 {a b : Nat} (ha : a < 8589934592) (hb : b < 8589934592) : a ||| b < 8589934592 := Nat.or_lt_two_pow (n := 33) ha hb
theorem xor33 {a b : Nat} (ha : a < 8589934592) (hb : b < 8589934592) : a ^^^ b < 8589934592 := Nat.xor_lt_two_pow (n := 33) ha hb
theorem and33 {a : Nat} (b : Nat) (ha : a < 8589934592) : a &&& b < 8589934592 := Nat.lt_of_le_of_lt Nat.and_le_left ha
theorem jo33 {a b : Nat} {h : Int} (ha : a < 8589934592) (hb : b < 8589934592) : jo a b h < 8589934592 := by
  unfold jo
  split
  · exact xor33 ha hb
  · split
    · exact and33 _ ha
    · split
      · exact or33 ha hb
      · exact and33 _ ha
theorem tuF33 {n : Nat} {t : Int} (ht : t ≤ 32) : ∀ k : Nat, tuF n t k < 8589934592 := by
  intro k
  induction k with
  | zero => rw [tuF]; omega
  | succ k ih =>
    rw [tuF]
    split
    · exact or33 ih (one_shl33 (by omega))
    · exact ih
theorem tu33 {n : Nat} (h : n < 8589934592) : tu n < 8589934592 := tuF33 (tp33.mp h) _
theorem mvF_lt {n : Nat} : ∀ (j i s : Nat), s < 2 ^ i → mvF n j s < 2 ^ (i + j) := by
  intro j
  induction j with
  | zero => intro i s h; exact h
  | succ j ih =>
    intro i s h
    rw [mvF, show i + (j + 1) = (i + 1) + j by omega]
    refine ih (i + 1) _ ?_
    have h1 : 2 ^ (i + 1) = 2 * 2 ^ i := pow_s i
    have h2 : (n >>> j) &&& 1 ≤ 1 := Nat.and_le_right
    have h3 := Nat.two_pow_pos i
    refine Nat.xor_lt_two_pow (Nat.xor_lt_two_pow ?_ (by omega)) (by omega)
    rw [Nat.shiftLeft_eq]
    omega
theorem mv33 {n : Nat} (h : n < 8589934592) : mv n < 8589934592 := by
  have h1 := tp33.mp h
  have h2 := tp_ge n
  have h3 := mvF_lt (n := n) (tp n + 1).toNat 0 0 Nat.one_pos
  have h4 : 2 ^ (0 + (tp n + 1).toNat) ≤ 2 ^ 33 := Nat.pow_le_pow_right (by omega) (by omega)
  have h5 : mv n ≤ mvF n (tp n + 1).toNat 0 := Nat.mod_le _ _
  omega
theorem pwF33 {t x m : Nat} (hm : m < 8589934592) (h0 : ¬ m = 0) (ht : tp m ≤ 32) : ∀ (j p : Nat), p < 8589934592 → pwF t x m j p < 8589934592 := by
  intro j
  induction j with
  | zero => intro p h; exact h
  | succ j ih =>
    intro p _
    have r33 : ∀ a : Nat, a < 18446744073709551616 → rm a m < 8589934592 := by
      intro a ha
      have := rm_tp (a := a) (b := m) ha (by omega) h0
      exact tp33.mpr (by omega)
    rw [pwF]
    refine ih _ ?_
    split
    · exact r33 _ (pm_lt _ _)
    · exact r33 _ (pm_lt _ _)
theorem pw33 {a t m : Nat} (hm : m < 8589934592) (h0 : ¬ m = 0) : pw a t m < 8589934592 := pwF33 hm h0 (tp33.mp hm) _ _ (by omega)
theorem shl33 {b j : Nat} (h : tp b + (j : Int) ≤ 32) (hj : j ≤ 32) : b <<< j < 8589934592 := by
  rcases Nat.eq_zero_or_pos b with h0 | h0
  · rw [h0, Nat.zero_shiftLeft]
    omega
  · have h1 : ¬ tp b < 0 := mt tp_neg.mp (by omega)
    have h2 : b < 2 ^ ((tp b).toNat + 1) := tp_le.mp (by omega)
    rw [Nat.shiftLeft_eq]
    have h3 : b * 2 ^ j < 2 ^ ((tp b).toNat + 1) * 2 ^ j := Nat.mul_lt_mul_of_pos_right h2 (Nat.two_pow_pos j)
    rw [← Nat.pow_add] at h3
    have h4 : 2 ^ ((tp b).toNat + 1 + j) ≤ 2 ^ 33 := Nat.pow_le_pow_right (by omega) (by omega)
    omega
theorem shr33 {a j : Nat} (h : a < 8589934592) : a >>> j < 8589934592 := Nat.lt_of_le_of_lt (Nat.shiftRight_le _ _) h
theorem pd33 {n : Int} (h : 1 ≤ n ∧ n ≤ 5) : pd n < 8589934592 := by
  have hc : n = 1 ∨ n = 2 ∨ n = 3 ∨ n = 4 ∨ n = 5 := by omega
  rcases hc with rfl | rfl | rfl | rfl | rfl <;> decide +kernel
end MF
section MG
def mx (a b : Nat) : Nat := if b ≤ a then a else b
def mn (a b : Nat) : Nat := if a ≤ b then a else b
theorem mx33 {a b : Nat} (ha : a < 8589934592) (hb : b < 8589934592) : mx a b < 8589934592 := by
  unfold mx
  split <;> assumption
theorem mn33 {a b : Nat} (ha : a < 8589934592) (hb : b < 8589934592) : mn a b < 8589934592 := by
  unfold mn
  split <;> assumption
/-- Long.bitCount, as it reckons -/
def bc1 (n : Nat) : Nat := n - ((n >>> 1) &&& 6148914691236517205)
def bc2 (n : Nat) : Nat := (n &&& 3689348814741910323) + ((n >>> 2) &&& 3689348814741910323)
def bc3 (n : Nat) : Nat := (n + (n >>> 4)) &&& 1085102592571150095
def bcs (k n : Nat) : Nat := n + (n >>> k)
def bc (n : Nat) : Int := ((bcs 32 (bcs 16 (bcs 8 (bc3 (bc2 (bc1 n))))) % 128 : Nat) : Int)
theorem bc_rngE (n : Nat) : 0 ≤ bc n ∧ bc n ≤ 127 := by
  unfold bc
  omega
def dg (x : Nat) (q : Int) (b : Bool) : Nat := if b = true then x ||| (1 <<< q.toNat) else x &&& ((1 <<< q.toNat) ^^^ 18446744073709551615)
def wT (a b : Nat) : Option Nat := if ¬ a = 0 ∧ ¬ b = 0 ∧ 32 < tp a + tp b then none else some (pm a b)
def wS (x : Nat) (z : Int) : Option Nat := if ¬ x = 0 ∧ 32 < tp x + z then none else some (if 0 ≤ z then x <<< z.toNat else x >>> (-z).toNat)
def wQ (a b : Nat) : Option Nat := if b = 0 then none else some (qo a b)
def wM (a b : Nat) : Option Nat := if b = 0 then none else some (rm a b)
def wE (x : Nat) : Option Nat := if dv x = 0 then some (eh x) else none
def wP (a m : Nat) (t : Int) : Option Nat := if 1 ≤ tp m ∧ tp m ≤ 12 then some (pw a t.toNat m) else none
def wN (d r : Int) : Option Nat := if wr d.toNat r = 0 then none else some (wr d.toNat r)
theorem wT_0 {a b : Nat} (h : a = 0 ∨ b = 0 ∨ tp a + tp b ≤ 32) : wT a b = some (pm a b) := by
  rw [wT, if_neg]
  rintro ⟨h1, h2, h3⟩
  rcases h with h | h | h
  · exact h1 h
  · exact h2 h
  · omega
theorem pm33b {a b : Nat} (ha : a < 8589934592) (hb : b < 8589934592) (h : a = 0 ∨ b = 0 ∨ tp a + tp b ≤ 32) : pm a b < 8589934592 := by
  rcases h with h | h | h
  · rw [h, pm_0l]; omega
  · rw [h, pm_0r]; omega
  · exact pm33 hb h
/-- an answer, or refused -/
def qR (w : Option Int) : Int := match w with
  | some x => x
  | none => -9
def qF (re : Int32) (w : Option Int) : Int32 := match w with
  | some _ => re
  | none => re + iZ 1
def wI (x : Nat) : Option Int := if 12 < tp x then none else some (zB (ir x))
def wK (x : Nat) : Option Int := if 8 < tp x then none else some (rk x)
def wD (x : Nat) : Option Int := if 1 ≤ tp x ∧ tp x ≤ 8 ∧ x.testBit 0 = true then some (pe x) else none
def od (a b : Nat) : Int := if a < b then -1 else if b < a then 1 else 0
theorem od_rngE (a b : Nat) : -1 ≤ od a b ∧ od a b ≤ 1 := by
  unfold od
  repeat' split
  all_goals omega
def fdS (c : Nat → Nat) (x : Nat) (b : Bool) (k : Nat) (f : Int) : Int := if c k = x ∧ (if b = true then f < (k : Int) else (k : Int) < f) then (k : Int) else f
def fdF (c : Nat → Nat) (x : Nat) (b : Bool) (z : Int) : Nat → Int
  | 0 => z
  | k + 1 => fdS c x b k (fdF c x b z k)
theorem fdF_rng (c : Nat → Nat) (x : Nat) (b : Bool) (z : Int) (hz : 0 ≤ z ∧ z ≤ 5) : ∀ k : Nat, k ≤ 6 → 0 ≤ fdF c x b z k ∧ fdF c x b z k ≤ 5 := by
  intro k
  induction k with
  | zero => intro _; exact hz
  | succ k ih =>
    intro hk
    have := ih (by omega)
    rw [fdF, fdS]
    by_cases h : c k = x ∧ (if b = true then fdF c x b z k < (k : Int) else (k : Int) < fdF c x b z k)
    · rw [if_pos h]
      omega
    · rw [if_neg h]
      exact this
theorem fd_rngE (c : Nat → Nat) (b : Bool) (z : Int) (hz : 0 ≤ z ∧ z ≤ 5) : 0 ≤ fdF c (c z.toNat) b z 6 ∧ fdF c (c z.toNat) b z 6 ≤ 5 := fdF_rng c _ b z hz 6 (by omega)
def czF (c : Nat → Nat) : Nat → Int
  | 0 => 0
  | k + 1 => if c k = 0 then czF c k + 1 else czF c k
theorem czF_rng (c : Nat → Nat) : ∀ k : Nat, 0 ≤ czF c k ∧ czF c k ≤ (k : Int) := by
  intro k
  induction k with
  | zero => rw [czF]; omega
  | succ k ih =>
    rw [czF]
    split <;> omega
def awF (c : Nat → Nat) : Nat → Int
  | 0 => 0
  | k + 1 => awF c k + bc (c k)
theorem awF_rng (c : Nat → Nat) : ∀ k : Nat, 0 ≤ awF c k ∧ awF c k ≤ 127 * (k : Int) := by
  intro k
  induction k with
  | zero => rw [awF]; omega
  | succ k ih =>
    have := bc_rngE (c k)
    rw [awF]
    omega
def hs3 (c : Nat → Nat) (ac re kn : Int32) (z : Int) : Int32 := if z = 0 then ac else if z = 1 then re else if z = 2 then kn else if z = 3 then iZ (czF c 6) else iZ (awF c 6)
def sdF (c : Nat → Nat) : Nat → Bool
  | 0 => true
  | k + 1 => sdF c k && decide (tp (c k) ≤ 32 ∧ bp (c k) ≤ tp (c k))
def so (c : Nat → Nat) : Bool := sdF c 6 && decide (eu (c 0) (c 1) (c 0) (c 1) = pm (c 0) (eu (c 0) (c 1) 1 0) ^^^ pm (c 1) (eu (c 0) (c 1) 0 1))
theorem sdF_f {c : Nat → Nat} {k : Nat} (h : sdF c k = false) : ∀ f : Nat, sdF c (k + f) = false := by
  intro f
  induction f with
  | zero => exact h
  | succ f ih =>
    rw [← Nat.add_assoc, sdF, ih]
    rfl
end MG
section MH
def ad (d v : Int64) : Int64 := d * lN 31 + v
def dc1 (c : Nat → Nat) (k : Nat) (d : Int64) : Int64 := ad (ad (ad (ad (ad d (iZ ((c k : Nat) : Int)).toInt64) (iZ (tp (c k))).toInt64) (iZ (bp (c k))).toInt64) (iZ (bc (c k))).toInt64) (iZ (fdF c (c k) true (k : Int) 6)).toInt64
def dcF (c : Nat → Nat) : Nat → Int64
  | 0 => lN 7686
  | k + 1 => dc1 c k (dcF c k)
def doF (c : Nat → Nat) : Nat → Int64
  | 0 => dcF c 6
  | k + 1 => ad (doF c k) (iZ (od (c k) (c (k + 1)))).toInt64
def dhF (c : Nat → Nat) (ac re kn : Int32) : Nat → Int64
  | 0 => doF c 5
  | k + 1 => ad (dhF c ac re kn k) (hs3 c ac re kn (k : Int)).toInt64
def dgs (c : Nat → Nat) (ac re kn : Int32) : Int64 := ad (dhF c ac re kn 5) (iZ (zB (so c))).toInt64
end MH
section MI
theorem mdF33 (n : Nat) : mdF n 16 < 8589934592 := by
  have h : ∀ k : Nat, k ≤ 16 → mdF n k < 8589934592 := by
    intro k
    induction k with
    | zero => intro _; rw [mdF]; omega
    | succ k ih =>
      intro hk
      rw [mdF]
      split
      · exact or33 (ih (by omega)) (one_shl33 (by omega))
      · exact ih (by omega)
  exact h 16 (by omega)
theorem ehF33 (n : Nat) : ehF n 17 < 8589934592 := Nat.lt_of_lt_of_le (ehF_lt n 17) (by decide)
/-- the model's TURNED: k digits turned -/
def tmF (x : Nat) : Nat → Nat
  | 0 => 0
  | k + 1 => ((tmF x k) <<< 1) ||| ((x >>> k) &&& 1)
def tm (x : Nat) : Nat := tmF x (tp x + 1).toNat
theorem tmF_lt (x : Nat) : ∀ k : Nat, tmF x k < 2 ^ k := by
  intro k
  induction k with
  | zero => exact Nat.one_pos
  | succ k ih =>
    have h1 := pow_s k
    have h2 : (x >>> k) &&& 1 ≤ 1 := Nat.and_le_right
    have h3 := Nat.two_pow_pos k
    rw [tmF]
    refine Nat.or_lt_two_pow ?_ (by omega)
    rw [Nat.shiftLeft_eq]
    omega
theorem tm33 {x : Nat} (h : x < 8589934592) : tm x < 8589934592 := by
  have h1 := tp33.mp h
  have h2 := tmF_lt x (tp x + 1).toNat
  have h3 : 2 ^ (tp x + 1).toNat ≤ 2 ^ 33 := Nat.pow_le_pow_right (by omega) (by omega)
  unfold tm
  omega
/-- the model's MOVED: j places to go -/
def mmF (n : Nat) : Nat → Nat → Nat
  | 0, s => s
  | j + 1, s => mmF n j ((s ^^^ (s <<< 1)) ^^^ ((n >>> j) &&& 1))
def mm (n : Nat) : Nat := mmF n 33 0
theorem mmF_lt {n : Nat} : ∀ (j i s : Nat), s < 2 ^ i → mmF n j s < 2 ^ (i + j) := by
  intro j
  induction j with
  | zero => intro i s h; exact h
  | succ j ih =>
    intro i s h
    rw [mmF, show i + (j + 1) = (i + 1) + j by omega]
    refine ih (i + 1) _ ?_
    have h1 : 2 ^ (i + 1) = 2 * 2 ^ i := pow_s i
    have h2 : (n >>> j) &&& 1 ≤ 1 := Nat.and_le_right
    have h3 := Nat.two_pow_pos i
    refine Nat.xor_lt_two_pow (Nat.xor_lt_two_pow (by omega) ?_) (by omega)
    rw [Nat.shiftLeft_eq]
    omega
theorem mm33 (n : Nat) : mm n < 8589934592 := mmF_lt 33 0 0 Nat.one_pos
/-- the model's power -/
def pqF (x m : Nat) : Nat → Nat
  | 0 => 1
  | k + 1 => rm (pm (pqF x m k) x) m
theorem pqF33 {x m : Nat} (hm : m < 8589934592) (h0 : ¬ m = 0) : ∀ k : Nat, pqF x m k < 8589934592 := by
  intro k
  cases k with
  | zero => rw [pqF]; omega
  | succ k =>
    have h1 := rm_tp (a := pm (pqF x m k) x) (b := m) (pm_lt _ _) (by omega) h0
    have h2 := tp33.mp hm
    rw [pqF]
    exact tp33.mpr (by omega)
def wPm (a m : Nat) (t : Int) : Option Nat := if 1 ≤ tp m ∧ tp m ≤ 12 then some (pqF (rm a m) m t.toNat) else none
/-- the model's field: f numbers to go, from p on -/
def fiF (n : Int) : Nat → Nat → Nat → Nat
  | 0, _, x => x
  | f + 1, p, x => fiF n f (p + 1) (if n % tp p = 0 ∧ ir p = true then pm x p else x)
def fi (n : Int) : Nat := fiF n ((2 <<< n.toNat) - 2) 2 1
theorem fi33 {n : Int} (h : 1 ≤ n ∧ n ≤ 5) : fi n < 8589934592 := by
  have hc : n = 1 ∨ n = 2 ∨ n = 3 ∨ n = 4 ∨ n = 5 := by omega
  rcases hc with rfl | rfl | rfl | rfl | rfl <;> decide +kernel
theorem tp_2 {p : Nat} (h : 2 ≤ p) : 1 ≤ tp p := by
  have := mt tp_lt.mp (by omega : ¬ p < 2 ^ 1)
  omega
def wL (a b : Nat) : Option Nat := if a = 0 ∨ b = 0 then some 0 else wT (qo a (eu a b a b)) b
def wEm (x : Nat) : Option Nat := if mdF x 16 = 0 then some (ehF x 17) else none
def dgm (x : Nat) (q : Int) (b : Bool) : Nat := if zB (tb x q) = zB b then x else x ^^^ (1 <<< q.toNat)
def sdmF (c : Nat → Nat) : Nat → Bool
  | 0 => true
  | k + 1 => sdmF c k && decide (tp (c k) ≤ 32 ∧ bpF (c k) 33 0 ≤ tp (c k))
theorem sdmF_f {c : Nat → Nat} {k : Nat} (h : sdmF c k = false) : ∀ f : Nat, sdmF c (k + f) = false := by
  intro f
  induction f with
  | zero => exact h
  | succ f ih =>
    rw [← Nat.add_assoc, sdmF, ih]
    rfl
def som (c : Nat → Nat) : Bool := sdmF c 6 && decide (eu (c 0) (c 1) (eux (c 0) 0) (euy (c 1) 0) = pm (c 0) (eu (c 0) (c 1) (eux (c 0) 1) (euy (c 1) 1)) ^^^ pm (c 1) (eu (c 0) (c 1) (eux (c 0) 2) (euy (c 1) 2)))
def wmF (c : Nat → Nat) : Nat → Int
  | 0 => 0
  | k + 1 => wmF c k + wt (c k) 33
theorem wmF_rng (c : Nat → Nat) : ∀ k : Nat, 0 ≤ wmF c k ∧ wmF c k ≤ 33 * (k : Int) := by
  intro k
  induction k with
  | zero => rw [wmF]; omega
  | succ k ih =>
    have := wt_rngE (c k)
    rw [wmF]
    omega
def zmF (c : Nat → Nat) : Nat → Int
  | 0 => 0
  | k + 1 => zmF c k + zB (decide (c k = 0))
theorem zmF_rng (c : Nat → Nat) : ∀ k : Nat, 0 ≤ zmF c k ∧ zmF c k ≤ (k : Int) := by
  intro k
  induction k with
  | zero => rw [zmF]; omega
  | succ k ih =>
    have := zB_rng (decide (c k = 0))
    rw [zmF]
    omega
def hm3 (c : Nat → Nat) (ac re kn : Int32) (z : Int) : Int32 := if z = 0 then ac else if z = 1 then re else if z = 2 then kn else if z = 3 then iZ (zmF c 6) else iZ (wmF c 6)
def dm1 (c : Nat → Nat) (k : Nat) (d : Int64) : Int64 := ad (ad (ad (ad (ad d (iZ ((c k : Nat) : Int)).toInt64) (iZ (tp (c k))).toInt64) (iZ (bpF (c k) 33 0)).toInt64) (iZ (wt (c k) 33)).toInt64) (iZ (fdF c (c k) true (k : Int) 6)).toInt64
def dmF (c : Nat → Nat) : Nat → Int64
  | 0 => lN 7686
  | k + 1 => dm1 c k (dmF c k)
def omF (c : Nat → Nat) : Nat → Int64
  | 0 => dmF c 6
  | k + 1 => ad (omF c k) (iZ (zB (decide (c (k + 1) < c k)) - zB (decide (c k < c (k + 1))))).toInt64
def gmF (c : Nat → Nat) (ac re kn : Int32) : Nat → Int64
  | 0 => omF c 5
  | k + 1 => ad (gmF c ac re kn k) (hm3 c ac re kn (k : Int)).toInt64
def dgsm (c : Nat → Nat) (ac re kn : Int32) : Int64 := ad (gmF c ac re kn 5) (iZ (zB (som c))).toInt64
end MI
section MJ
theorem sd_rngE (a b : Nat) : -1 ≤ zB (decide (a < b)) - zB (decide (b < a)) ∧ zB (decide (a < b)) - zB (decide (b < a)) ≤ 1 := by
  have h1 := zB_rng (decide (a < b))
  have h2 := zB_rng (decide (b < a))
  omega
/-- one step of the period's row, told by numbers alone -/
def pfS (m B x : Nat) : Nat := if B ≤ 2 * x then (2 * x) ^^^ m else 2 * x
def pfF (m B : Nat) : Nat → Nat → Bool
  | 0, _ => false
  | f + 1, x => if pfS m B x = 1 then true else pfF m B f (pfS m B x)
theorem pfS_rm {m d x : Nat} (hd : tp m = (d : Int)) (hdd : d ≤ 32) (hx : x < 2 ^ d) : rm (x <<< 1) m = pfS m (2 ^ d) x := by
  have h33 : 2 ^ d ≤ 2 ^ 32 := Nat.pow_le_pow_right (by omega) hdd
  have hm : m < 18446744073709551616 := by
    have := tp33.mpr (by omega : tp m ≤ 32)
    omega
  have h0 : ¬ m = 0 := mt tp_neg.mpr (by omega)
  have hy : x <<< 1 = 2 * x := by rw [Nat.shiftLeft_eq]; omega
  have hy2 : 2 * x < 18446744073709551616 := by omega
  rw [hy]
  obtain ⟨h1, h2, h3⟩ := qo_spec (a := 2 * x) (b := m) hy2 hm h0
  unfold pfS
  by_cases h : 2 ^ d ≤ 2 * x
  · rw [if_pos h]
    have t1 : ¬ tp (2 * x) < (d : Int) := mt tp_lt.mp (by omega)
    have t2 : tp (2 * x) ≤ (d : Int) := tp_le.mpr (by rw [pow_s]; omega)
    have e1 : (tp (2 * x) + 1 - tp m).toNat = 1 := by omega
    rw [e1] at h2 h3
    have q1 : qo (2 * x) m = 1 := by
      have : qo (2 * x) m ≠ 0 := by
        intro hq
        rw [hq, pmF_0r, Nat.xor_zero] at h3
        rw [h3] at h1
        omega
      omega
    rw [h3, q1, pmF_t (by decide), pmF]
    simp
  · rw [if_neg h]
    have t1 : tp (2 * x) < (d : Int) := tp_lt.mpr (by omega)
    have e1 : (tp (2 * x) + 1 - tp m).toNat = 0 := by omega
    rw [e1, pmF, Nat.xor_zero] at h3
    exact h3
theorem pfF_pe {m d : Nat} (hd : tp m = (d : Int)) (hdd : d ≤ 32) : ∀ (f x : Nat) (e : Int), x < 2 ^ d → 0 ≤ e → pfF m (2 ^ d) f x = true → ¬ peF m f e x = -1 := by
  intro f
  induction f with
  | zero => intro x e _ _ h; rw [pfF] at h; exact absurd h Bool.false_ne_true
  | succ f ih =>
    intro x e hx he h
    have hr := pfS_rm hd hdd hx
    rw [pfF] at h
    rw [peF, hr]
    by_cases h1 : pfS m (2 ^ d) x = 1
    · rw [if_pos h1]
      omega
    · rw [if_neg h1] at h ⊢
      have hm : m < 18446744073709551616 := by
        have := tp33.mpr (by omega : tp m ≤ 32)
        omega
      have h33 : 2 ^ d ≤ 2 ^ 32 := Nat.pow_le_pow_right (by omega) hdd
      have h2 := rm_tp (a := x <<< 1) (b := m) (shl1_lt (by omega)) hm (mt tp_neg.mpr (by omega))
      rw [hr] at h2
      exact ih _ _ (tp_lt.mp (by omega)) (by omega) h
theorem pf_all : (List.range 8).all (fun j => (List.range 256).all (fun i => (2 * i + 1 < 2 ^ (j + 1) || 2 ^ (j + 2) ≤ 2 * i + 1) || pfF (2 * i + 1) (2 ^ (j + 1)) 255 1)) = true := by decide +kernel
theorem pe_ok {m : Nat} (h : m < 512) (h1 : 1 ≤ tp m) (h2 : m.testBit 0 = true) : ¬ pe m = -1 := by
  have h5 : m % 2 = 1 := by
    have := Nat.testBit_zero m
    rw [h2] at this
    simpa using this.symm
  have h9 : tp m ≤ 8 := (tp_le (k := 8)).mpr (by omega)
  have hd : tp m = ((tp m).toNat : Int) := by omega
  have h3 := List.all_eq_true.mp (List.all_eq_true.mp pf_all ((tp m).toNat - 1) (List.mem_range.mpr (by omega))) (m / 2) (List.mem_range.mpr (by omega))
  have e1 : 2 * (m / 2) + 1 = m := by omega
  have e2 : (tp m).toNat - 1 + 1 = (tp m).toNat := by omega
  have e3 : (tp m).toNat - 1 + 2 = (tp m).toNat + 1 := by omega
  rw [e1, e2, e3] at h3
  have g1 : 2 ^ (tp m).toNat ≤ m := tp_pow m (by omega)
  have g2 : m < 2 ^ ((tp m).toNat + 1) := tp_le.mp (by omega)
  simp only [Bool.or_eq_true, decide_eq_true_eq] at h3
  rcases h3 with (h3 | h3) | h3
  · omega
  · omega
  · have hx : 1 < 2 ^ (tp m).toNat := by
      have : 2 ^ 1 ≤ 2 ^ (tp m).toNat := Nat.pow_le_pow_right (by omega) (by omega)
      omega
    exact pfF_pe hd (by omega) 255 1 1 hx (by omega) h3
theorem euF_ne : ∀ (f a b : Nat), a < 8589934592 → b < 8589934592 → ¬ (a = 0 ∧ b = 0) → tp b < (f : Int) → euF f a b a b ≠ 0 := by
  intro f
  induction f with
  | zero =>
    intro a b _ _ h1 h2
    have := tp_neg.mp (by omega : tp b < 0)
    rw [euF]
    intro h
    exact h1 ⟨h, this⟩
  | succ f ih =>
    intro a b ha hb h1 h2
    by_cases h0 : b = 0
    · subst h0
      rw [euF_0]
      exact fun h => h1 ⟨h, rfl⟩
    · rw [euF_s h0]
      have h3 := rm_tp (a := a) (b := b) (by omega) (by omega) h0
      exact ih b (rm a b) hb (rm33 ha hb h0) (fun h => h0 h.1) (by omega)
theorem eu_ne {a b : Nat} (ha : a < 8589934592) (hb : b < 8589934592) (h : ¬ a = 0) : ¬ eu a b a b = 0 := euF_ne 65 a b ha hb (fun g => h g.1) (by have := tp33.mp hb; omega)
end MJ
