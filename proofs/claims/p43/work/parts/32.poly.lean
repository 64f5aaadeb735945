/-! ===== divisors ===== -/
section PO
theorem xor_same {a b : Nat} (h : a ^^^ b = 0) : a = b := by
  have h2 : (a ^^^ b) ^^^ b = b := by rw [h, Nat.zero_xor]
  rwa [Nat.xor_assoc, Nat.xor_self, Nat.xor_zero] at h2
theorem pmF_asc (a b c n : Nat) : ∀ k : Nat, pmF (pmF a b k) c n = pmF (pmF a c n) b k := by
  intro k
  induction k with
  | zero => exact pmF_0l c n
  | succ k ih =>
    cases h : b.testBit k with
    | true => rw [pmF_t h, pmF_t h, pmF_xl, pmF_sl, ih]
    | false => rw [pmF_f h, pmF_f h, ih]
theorem pmF_xr (a b b' : Nat) : ∀ n : Nat, pmF a (b ^^^ b') n = pmF a b n ^^^ pmF a b' n := by
  intro n
  induction n with
  | zero => exact (Nat.xor_self 0).symm
  | succ n ih =>
    cases h : b.testBit n with
    | true =>
      cases h' : b'.testBit n with
      | true =>
        have h2 : (b ^^^ b').testBit n = false := by rw [Nat.testBit_xor, h, h']; rfl
        rw [pmF_f h2, pmF_t h, pmF_t h', ih, x4, Nat.xor_self, Nat.xor_zero]
      | false =>
        have h2 : (b ^^^ b').testBit n = true := by rw [Nat.testBit_xor, h, h']; rfl
        rw [pmF_t h2, pmF_t h, pmF_f h', ih, Nat.xor_assoc, Nat.xor_assoc, Nat.xor_comm (a <<< n)]
    | false =>
      cases h' : b'.testBit n with
      | true =>
        have h2 : (b ^^^ b').testBit n = true := by rw [Nat.testBit_xor, h, h']; rfl
        rw [pmF_t h2, pmF_f h, pmF_t h', ih, Nat.xor_assoc]
      | false =>
        have h2 : (b ^^^ b').testBit n = false := by rw [Nat.testBit_xor, h, h']; rfl
        rw [pmF_f h2, pmF_f h, pmF_f h', ih]
/-- a product's degree -/
theorem pmF_deg {b z : Nat} (hz : z < 18446744073709551616) (hb : b ≠ 0) (hz0 : z ≠ 0) : tp b + tp z ≤ tp (pmF b z 64) := by
  have h1 : tp z = ((Nat.log2 z : Nat) : Int) := tp_pos hz0
  have h2 : tp b = ((Nat.log2 b : Nat) : Int) := tp_pos hb
  have hk := tp_rng hz
  generalize Nat.log2 z = k at h1
  generalize Nat.log2 b = d at h2
  have e1 : z >>> (k + 1) = 0 := tp_shr.mpr (by omega)
  rw [← pmF_64 e1 (by omega), pmF_t (tp_top h1)]
  have hb2 : b < 2 ^ (d + 1) := (tp_le (k := d)).mp (by omega)
  have h3 : (pmF b z k).testBit (d + k) = false := by
    refine Nat.testBit_lt_two_pow ?_
    cases k with
    | zero => exact Nat.two_pow_pos _
    | succ k =>
      have := pmF_bit2 (a := b) (b := z) k (d + 1) hb2
      rwa [show d + 1 + k = d + (k + 1) by omega] at this
  have h4 : (b <<< k).testBit (d + k) = true := by
    rw [Nat.testBit_shiftLeft, show d + k - k = d by omega, tp_top h2]
    simp
  have h5 : (pmF b z k ^^^ b <<< k).testBit (d + k) = true := by rw [Nat.testBit_xor, h3, h4]; rfl
  by_cases g : tp (pmF b z k ^^^ b <<< k) < ((d + k : Nat) : Int)
  · rw [tp_hi g] at h5
    exact absurd h5 (by decide)
  · omega
theorem rm_dvd {a b : Nat} (ha : a < 18446744073709551616) (hb : b < 18446744073709551616) (h0 : ¬ b = 0) (h : rm a b = 0) : a = pmF b (qo a b) 64 := by
  obtain ⟨-, h2, h3⟩ := qo_spec ha hb h0
  have e1 := tp_rng ha
  have e2 := tp_rng hb
  have e3 : ¬ tp b < 0 := fun g => h0 (tp_neg.mp g)
  rw [h, pmF_64 (shr_0.mpr h2) (by omega)] at h3
  exact xor_same h3.symm
theorem dvd_rm {a b q : Nat} (ha : a < 18446744073709551616) (hb : b < 18446744073709551616) (h0 : ¬ b = 0) (hq : q < 18446744073709551616) (h : a = pmF b q 64) : rm a b = 0 := by
  obtain ⟨h1, h2, h3⟩ := qo_spec ha hb h0
  have e1 := tp_rng ha
  have e2 := tp_rng hb
  have e3 : ¬ tp b < 0 := fun g => h0 (tp_neg.mp g)
  have h5 := qo_lt (a := a) (b := b) ha
  rw [pmF_64 (shr_0.mpr h2) (by omega)] at h3
  have h4 : rm a b = pmF b (q ^^^ qo a b) 64 := by rw [pmF_xr, ← h]; exact h3
  by_cases hz : q ^^^ qo a b = 0
  · rw [h4, hz, pmF_0r]
  · have h6 := pmF_deg (xor64 hq h5) h0 hz
    rw [← h4] at h6
    have h7 : ¬ tp (q ^^^ qo a b) < 0 := fun g => hz (tp_neg.mp g)
    omega
theorem rm_self {x : Nat} (hx : x < 18446744073709551616) (h0 : ¬ x = 0) : rm x x = 0 := by
  refine dvd_rm (q := 1) hx hx h0 (by omega) ?_
  rw [pmF_comm 64 64 x 1 hx (by omega), pmF_1l 64 hx]
theorem rm_tr {x b k : Nat} (hx : x < 512) (hb : b < 512) (hk : k < 512) (h0 : ¬ b = 0) (h1 : ¬ k = 0) (h : rm x b = 0) (h2 : rm (qo x b) k = 0) : rm x k = 0 := by
  have hq : qo x b < 512 := by
    by_cases g : qo x b = 0
    · omega
    · have e := qo_tp (a := x) (b := b) (by omega) (by omega) h0 g
      have e2 : ¬ tp b < 0 := fun g => h0 (tp_neg.mp g)
      have e3 := (tp_le (n := x) (k := 8)).mpr (by omega)
      exact (tp_le (n := qo x b) (k := 8)).mp (by omega)
  have hq2 : qo (qo x b) k < 512 := by
    by_cases g : qo (qo x b) k = 0
    · omega
    · have e := qo_tp (a := qo x b) (b := k) (by omega) (by omega) h1 g
      have e2 : ¬ tp k < 0 := fun g => h1 (tp_neg.mp g)
      have e3 := (tp_le (n := qo x b) (k := 8)).mpr (by omega)
      exact (tp_le (n := qo (qo x b) k) (k := 8)).mp (by omega)
  have hw : pmF (qo (qo x b) k) b 64 < 18446744073709551616 := by
    rw [← pmF_64 (k := 9) (shr_0.mpr (by omega)) (by omega)]
    exact Nat.lt_of_lt_of_le (pmF_bit 9 9 (by omega)) (by decide)
  refine dvd_rm (q := pmF (qo (qo x b) k) b 64) (by omega) (by omega) h1 hw ?_
  rw [pmF_comm 64 64 k _ (by omega) hw, pmF_asc, pmF_comm 64 64 _ k (by omega) (by omega), ← rm_dvd (by omega) (by omega) h1 h2, pmF_comm 64 64 _ b (by omega) (by omega)]
  exact rm_dvd (by omega) (by omega) h0 h
/-- nothing below b divides x -/
def nd (x b : Nat) : Prop := ∀ k : Nat, 2 ≤ k → k < b → ¬ rm x k = 0
theorem nd_2 (x : Nat) : nd x 2 := fun k h1 h2 => absurd h2 (by omega)
theorem nd_s {x b b2 : Nat} (h : nd x b) (h2 : ¬ rm x b = 0) (e : b2 = b + 1) : nd x b2 := by
  subst e
  intro k g1 g2
  by_cases g : k = b
  · rw [g]; exact h2
  · exact h k g1 (by omega)
theorem nd_le {x b : Nat} (h : nd x b) (hx : x < 512) (h2 : 2 ≤ x) : b ≤ x := by
  refine Nat.le_of_not_lt fun g => ?_
  exact h x h2 g (rm_self (by omega) (by omega))
theorem nd_q {x b : Nat} (hx : x < 512) (h2 : 2 ≤ x) (hb : 2 ≤ b) (h : nd x b) (h0 : rm x b = 0) : nd (qo x b) b := by
  intro k g1 g2 g3
  have := nd_le h hx h2
  exact h k g1 g2 (rm_tr hx (by omega) (by omega) (by omega) (by omega) h0 g3)
theorem rm1_ne {b : Nat} (h1 : 2 ≤ b) (h2 : b ≤ 512) : ¬ rm 1 b = 0 := by
  intro h
  have h3 := rm_dvd (a := 1) (b := b) (by omega) (by omega) (by omega) h
  by_cases g : qo 1 b = 0
  · rw [g, pmF_0r] at h3
    exact absurd h3 (by omega)
  · have e := qo_tp (a := 1) (b := b) (by omega) (by omega) (by omega) g
    have e2 := tp_2 h1
    have e3 : tp 1 = 0 := rfl
    have e4 : ¬ tp (qo 1 b) < 0 := fun z => g (tp_neg.mp z)
    omega
theorem qo_1 {x b : Nat} (hx : x < 512) (h1 : 1 ≤ x) (hb : 2 ≤ b) (hb2 : b ≤ 512) (h : rm x b = 0) : 1 ≤ qo x b := by
  refine Nat.pos_of_ne_zero fun g => ?_
  have h3 := rm_dvd (a := x) (b := b) (by omega) (by omega) (by omega) h
  rw [g, pmF_0r] at h3
  omega
theorem tp_div {x r : Nat} (hx : 0 < x) (hr : 2 ≤ r) : tp (x / r) + 1 ≤ tp x := by
  have h1 : tp x = ((Nat.log2 x : Nat) : Int) := tp_pos (by omega)
  generalize Nat.log2 x = k at h1
  have h2 : x < 2 ^ (k + 1) := (tp_le (k := k)).mp (by omega)
  have h3 : x / r < 2 ^ k := by
    have h4 : x / r ≤ x / 2 := Nat.div_le_div_left hr (by omega)
    rw [Nat.pow_succ] at h2
    omega
  have := (tp_lt (k := k)).mpr h3
  omega
theorem msv_sg {d : Int} (h : 1 ≤ d ∧ d ≤ 8) : msv d.toNat = sg d := by
  have hc : d = 1 ∨ d = 2 ∨ d = 3 ∨ d = 4 ∨ d = 5 ∨ d = 6 ∨ d = 7 ∨ d = 8 := by omega
  rcases hc with rfl | rfl | rfl | rfl | rfl | rfl | rfl | rfl <;> rfl
end PO
