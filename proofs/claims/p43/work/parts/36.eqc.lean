/-! ===== class and model reckon the same: by the ring ===== -/
section QC
/-- the product, without a bound -/
def cm (a b : Nat) : Nat := pmF a b b
theorem pmF_cm {a b n : Nat} (h : b < 2 ^ n) : pmF a b n = cm a b := by
  have h1 : pmF a b (n + b) = pmF a b n := pmF_top (shr_0.mpr h) b
  have h2 : pmF a b (b + n) = pmF a b b := pmF_top (shr_0.mpr Nat.lt_two_pow_self) n
  rw [Nat.add_comm] at h2
  exact h1.symm.trans h2
theorem cm_comm (a b : Nat) : cm a b = cm b a := pmF_comm a b a b Nat.lt_two_pow_self Nat.lt_two_pow_self
theorem cm_swap (a b c : Nat) : cm (cm a b) c = cm (cm a c) b := pmF_asc a b c c b
theorem cm_assoc (a b c : Nat) : cm (cm a b) c = cm a (cm b c) := by rw [cm_comm a b, cm_swap, cm_comm]
theorem cm_xl (a a' b : Nat) : cm (a ^^^ a') b = cm a b ^^^ cm a' b := pmF_xl a a' b b
theorem cm_xr (a b b' : Nat) : cm a (b ^^^ b') = cm a b ^^^ cm a b' := by rw [cm_comm, cm_xl, cm_comm b, cm_comm b']
theorem cm_0l (b : Nat) : cm 0 b = 0 := pmF_0l b b
theorem cm_0r (a : Nat) : cm a 0 = 0 := rfl
theorem cm_1r (a : Nat) : cm a 1 = a := by
  show pmF a 1 (0 + 1) = a
  rw [pmF_t (by decide), Nat.shiftLeft_zero]
  exact Nat.zero_xor a
theorem cm_1l (a : Nat) : cm 1 a = a := (cm_comm 1 a).trans (cm_1r a)
theorem cm_2r (a : Nat) : cm a 2 = a <<< 1 := by
  show pmF a 2 (0 + 1 + 1) = _
  rw [pmF_t (by decide), pmF_f (by decide)]
  exact Nat.zero_xor _
theorem cm_sl (a b k : Nat) : cm (a <<< k) b = (cm a b) <<< k := pmF_sl a b k b
theorem cm_lt {a b i j : Nat} (ha : a < 2 ^ i) (hb : b < 2 ^ j) : cm a b < 2 ^ (i + j) := by
  rw [← pmF_cm hb]
  exact pmF_bit j i ha
theorem cm_tp {a b : Nat} (ha : a ≠ 0) (hb : b ≠ 0) : tp (cm a b) = tp a + tp b := by
  have h1 : tp b = ((Nat.log2 b : Nat) : Int) := tp_pos hb
  have h2 : tp a = ((Nat.log2 a : Nat) : Int) := tp_pos ha
  generalize Nat.log2 b = k at h1
  generalize Nat.log2 a = d at h2
  have hb2 : b < 2 ^ (k + 1) := (tp_le (k := k)).mp (by omega)
  have ha2 : a < 2 ^ (d + 1) := (tp_le (k := d)).mp (by omega)
  have e0 : cm a b = pmF a b k ^^^ a <<< k := by rw [← pmF_cm hb2, pmF_t (tp_top h1)]
  have h3 : (pmF a b k).testBit (d + k) = false := by
    refine Nat.testBit_lt_two_pow ?_
    cases k with
    | zero => exact Nat.two_pow_pos _
    | succ k =>
      have := pmF_bit2 (a := a) (b := b) k (d + 1) ha2
      rwa [show d + 1 + k = d + (k + 1) by omega] at this
  have h4 : (a <<< k).testBit (d + k) = true := by
    rw [Nat.testBit_shiftLeft, show d + k - k = d by omega, tp_top h2]
    simp
  have h5 : (cm a b).testBit (d + k) = true := by rw [e0, Nat.testBit_xor, h3, h4]; rfl
  have h6 : cm a b < 2 ^ (d + k + 1) := by
    have := pmF_bit2 (a := a) (b := b) k (d + 1) ha2
    rwa [pmF_cm hb2, show d + 1 + k = d + k + 1 by omega] at this
  have h7 := (tp_le (n := cm a b) (k := d + k)).mpr h6
  by_cases g : tp (cm a b) < ((d + k : Nat) : Int)
  · rw [tp_hi g] at h5
    exact absurd h5 (by decide)
  · omega
theorem pm_cm {a b : Nat} (hb : b < 18446744073709551616) : pm a b = cm a b % 18446744073709551616 := by rw [pm, pmF_cm (n := 64) hb]
theorem pm_cm' {a b : Nat} (hb : b < 18446744073709551616) (h : cm a b < 18446744073709551616) : pm a b = cm a b := by rw [pm_cm hb, Nat.mod_eq_of_lt h]
theorem xor_mid (a b c : Nat) : (a ^^^ b) ^^^ c = (a ^^^ c) ^^^ b := by rw [Nat.xor_assoc, Nat.xor_comm b c, ← Nat.xor_assoc]
theorem xor_out (a b : Nat) : (a ^^^ b) ^^^ a = b := by rw [xor_mid, Nat.xor_self, Nat.zero_xor]
def Dv (d a : Nat) : Prop := ∃ q, a = cm d q
theorem Dv_self (d : Nat) : Dv d d := ⟨1, (cm_1r d).symm⟩
theorem Dv_0 (d : Nat) : Dv d 0 := ⟨0, rfl⟩
theorem Dv_x {d a b : Nat} (h1 : Dv d a) (h2 : Dv d b) : Dv d (a ^^^ b) := by
  obtain ⟨q, rfl⟩ := h1
  obtain ⟨r, rfl⟩ := h2
  exact ⟨q ^^^ r, (cm_xr d q r).symm⟩
theorem Dv_m {d a : Nat} (c : Nat) (h1 : Dv d a) : Dv d (cm a c) := by
  obtain ⟨q, rfl⟩ := h1
  exact ⟨cm q c, cm_assoc d q c⟩
theorem rm_cm {a b : Nat} (ha : a < 18446744073709551616) (hb : b < 18446744073709551616) (h0 : ¬ b = 0) : rm a b = a ^^^ cm b (qo a b) := by
  obtain ⟨-, h2, h3⟩ := qo_spec ha hb h0
  rw [h3, pmF_cm h2]
theorem rm_uniq {a b r : Nat} (ha : a < 18446744073709551616) (hb : b < 18446744073709551616) (h0 : ¬ b = 0) (hr : tp r < tp b) (hd : Dv b (a ^^^ r)) : rm a b = r := by
  obtain ⟨q, hq⟩ := hd
  have h4 : rm a b ^^^ r = cm b (q ^^^ qo a b) := by rw [rm_cm ha hb h0, cm_xr, ← hq, xor_mid]
  by_cases z : q ^^^ qo a b = 0
  · rw [z, cm_0r] at h4
    exact xor_same h4
  · have h5 := cm_tp h0 z
    have h6 : ¬ tp (q ^^^ qo a b) < 0 := fun g => z (tp_neg.mp g)
    have h7 := tp_xor (a := rm a b) (b := r) (K := tp b - 1) (by have := rm_tp ha hb h0; omega) (by omega)
    rw [h4] at h7
    omega
theorem rm_congr {a b m : Nat} (ha : a < 18446744073709551616) (hb : b < 18446744073709551616) (hm : m < 18446744073709551616) (h0 : ¬ m = 0) (h : Dv m (a ^^^ b)) : rm a m = rm b m := by
  refine rm_uniq ha hm h0 (rm_tp hb hm h0) ?_
  rw [rm_cm hb hm h0, ← Nat.xor_assoc]
  exact Dv_x h ⟨_, rfl⟩
theorem rm_small {a m : Nat} (ha : a < 18446744073709551616) (hm : m < 18446744073709551616) (h0 : ¬ m = 0) (h : tp a < tp m) : rm a m = a :=
  rm_uniq ha hm h0 h (by rw [Nat.xor_self]; exact Dv_0 m)
theorem rm_mul {u v m : Nat} (hu : u < 18446744073709551616) (hv : v < 18446744073709551616) (hm : m < 18446744073709551616) (h0 : ¬ m = 0) (h1 : cm u v < 18446744073709551616) (h2 : cm (rm u m) v < 18446744073709551616) : rm (cm (rm u m) v) m = rm (cm u v) m := by
  refine rm_congr h2 h1 hm h0 ?_
  rw [← cm_xl, rm_cm hu hm h0, xor_out]
  exact Dv_m v ⟨_, rfl⟩
-- powers
theorem pq_tp {x m : Nat} (hm : m < 8589934592) (h1 : 1 ≤ tp m) : ∀ k : Nat, tp (pqF x m k) < tp m := by
  have h0 : ¬ m = 0 := fun g => by rw [g] at h1; exact absurd h1 (by decide)
  intro k
  cases k with
  | zero => have : tp 1 = 0 := rfl
            show tp 1 < tp m
            omega
  | succ k => exact rm_tp (pm_lt _ _) (by omega) h0
theorem pq_add {x m : Nat} (hm : m < 8589934592) (h1 : 1 ≤ tp m ∧ tp m ≤ 12) (hx : tp x < tp m) (a : Nat) : ∀ b : Nat, rm (pm (pqF x m a) (pqF x m b)) m = pqF x m (a + b) := by
  have h0 : ¬ m = 0 := fun g => by rw [g] at h1; exact absurd h1.1 (by decide)
  have hs : ∀ y, tp y < tp m → y < 2 ^ 12 := fun y hy => (tp_le (k := 11)).mp (by omega)
  have hp := pq_tp (x := x) hm h1.1
  have hx2 := hs x hx
  have hA := hs _ (hp a)
  have w24 : ∀ {y z : Nat}, y < 2 ^ 12 → z < 2 ^ 12 → cm y z < 2 ^ 24 := fun hy hz => cm_lt hy hz
  intro b
  induction b with
  | zero =>
    show rm (pm (pqF x m a) 1) m = pqF x m a
    rw [pm_cm' (by omega) (by rw [cm_1r]; omega), cm_1r]
    exact rm_small (by omega) (by omega) h0 (hp a)
  | succ b ih =>
    have hB := hs _ (hp b)
    have hAB := w24 hA hB
    have hBx := w24 hB hx2
    have hABx : cm (cm (pqF x m a) (pqF x m b)) x < 2 ^ 36 := cm_lt hAB hx2
    have hABr : rm (cm (pqF x m a) (pqF x m b)) m < 2 ^ 12 := hs _ (rm_tp (by omega) (by omega) h0)
    have hBxr : rm (cm (pqF x m b) x) m < 2 ^ 12 := hs _ (rm_tp (by omega) (by omega) h0)
    have e1 : pqF x m (b + 1) = rm (cm (pqF x m b) x) m := by rw [pqF, pm_cm' (by omega) (by omega)]
    have e2 : pqF x m (a + b) = rm (cm (pqF x m a) (pqF x m b)) m := by rw [← ih, pm_cm' (by omega) (by omega)]
    have e3 : pqF x m (a + (b + 1)) = rm (cm (rm (cm (pqF x m a) (pqF x m b)) m) x) m := by
      have h9 := w24 hABr hx2
      rw [← Nat.add_assoc, pqF, e2, pm_cm' (by omega) (by omega)]
    have h8 := w24 hBxr hA
    have h7 := w24 hABr hx2
    have e4 : cm (cm (pqF x m b) x) (pqF x m a) = cm (cm (pqF x m a) (pqF x m b)) x := by rw [cm_comm _ (pqF x m a), cm_assoc]
    rw [e3, e1, rm_mul (by omega) (by omega) (by omega) h0 (by omega) (by omega), pm_cm' (by omega) (by rw [cm_comm]; omega), cm_comm, rm_mul (by omega) (by omega) (by omega) h0 (by rw [e4]; omega) (by omega), e4]
theorem pw_pq {x m t : Nat} (hm : m < 8589934592) (h1 : 1 ≤ tp m ∧ tp m ≤ 12) (hx : tp x < tp m) : ∀ j e : Nat, pwF t x m j (pqF x m e) = pqF x m (e * 2 ^ j + t % 2 ^ j) := by
  intro j
  induction j with
  | zero => intro e; rw [Nat.pow_zero, Nat.mod_one, Nat.mul_one]; rfl
  | succ j ih =>
    intro e
    have hb := Nat.toNat_testBit t j
    have e1 := Nat.mod_pow_succ (x := t) (b := 2) (k := j)
    have e2 : 2 ^ (j + 1) = 2 * 2 ^ j := pow_s j
    have e3 : e * (2 * 2 ^ j) = (e + e) * 2 ^ j := by rw [← Nat.mul_assoc, Nat.mul_two]
    cases h : t.testBit j with
    | true =>
      rw [h] at hb
      rw [pwF_t h, pq_add hm h1 hx]
      show pwF t x m j (pqF x m (e + e + 1)) = _
      rw [ih, e1, ← hb, e2, e3]
      congr 1
      rw [Nat.add_mul, show (true.toNat : Nat) = 1 from rfl]
      omega
    | false =>
      rw [h] at hb
      rw [pwF_f h, pq_add hm h1 hx, ih, e1, ← hb, e2, e3]
      congr 1
theorem wP_eq {a m : Nat} {t : Int} (ha : a < 8589934592) (hm : m < 8589934592) (ht : 0 ≤ t ∧ t ≤ 255) : wP a m t = wPm a m t := by
  rw [wP, wPm]
  by_cases h : 1 ≤ tp m ∧ tp m ≤ 12
  · have h0 : ¬ m = 0 := fun g => by rw [g] at h; exact absurd h.1 (by decide)
    rw [if_pos h, if_pos h, pw]
    have := pw_pq (x := rm a m) (t := t.toNat) hm h (rm_tp (by omega) (by omega) h0) 8 0
    rw [show (1 : Nat) = pqF (rm a m) m 0 from rfl, this, Nat.zero_mul, Nat.zero_add, Nat.mod_eq_of_lt (show t.toNat < 2 ^ 8 by omega)]
  · rw [if_neg h, if_neg h]
-- the greatest common divisor
theorem euF_dvd : ∀ (f a b : Nat), a < 8589934592 → b < 8589934592 → tp b < (f : Int) → Dv (euF f a b a b) a ∧ Dv (euF f a b a b) b := by
  intro f
  induction f with
  | zero =>
    intro a b _ _ hf
    have hb : b = 0 := tp_neg.mp hf
    subst hb
    exact ⟨Dv_self a, Dv_0 _⟩
  | succ f ih =>
    intro a b ha hb hf
    by_cases h0 : b = 0
    · subst h0
      rw [euF_0]
      exact ⟨Dv_self a, Dv_0 _⟩
    · rw [euF_s h0]
      have ht := rm_tp (a := a) (b := b) (by omega) (by omega) h0
      obtain ⟨g1, g2⟩ := ih b (rm a b) hb (rm33 ha hb h0) (by omega)
      have g1 : Dv (euF f b (rm a b) b (a ^^^ pm (qo a b) b)) b := g1
      have g2 : Dv (euF f b (rm a b) b (a ^^^ pm (qo a b) b)) (rm a b) := g2
      refine ⟨?_, g1⟩
      have := Dv_x g2 (Dv_m (qo a b) g1)
      have e : rm a b ^^^ cm b (qo a b) = a := by rw [rm_cm (by omega) (by omega) h0, Nat.xor_assoc, Nat.xor_self, Nat.xor_zero]
      rw [e] at this
      exact this
theorem euF_lin : ∀ (f a b : Nat), a < 8589934592 → b < 8589934592 → tp b < (f : Int) → ∃ s t, euF f a b a b = cm a s ^^^ cm b t := by
  intro f
  induction f with
  | zero => intro a b _ _ _; exact ⟨1, 0, by rw [cm_1r, cm_0r, Nat.xor_zero]; rfl⟩
  | succ f ih =>
    intro a b ha hb hf
    by_cases h0 : b = 0
    · subst h0
      exact ⟨1, 0, by rw [cm_1r, cm_0r, Nat.xor_zero, euF_0]⟩
    · rw [euF_s h0]
      have ht := rm_tp (a := a) (b := b) (by omega) (by omega) h0
      obtain ⟨s, t, g⟩ := ih b (rm a b) hb (rm33 ha hb h0) (by omega)
      have g : euF f b (rm a b) b (a ^^^ pm (qo a b) b) = cm b s ^^^ cm (rm a b) t := g
      refine ⟨t, s ^^^ cm (qo a b) t, ?_⟩
      rw [g, rm_cm (by omega) (by omega) h0, cm_xl, cm_xr, cm_assoc, Nat.xor_comm, xor_mid, Nat.xor_assoc]
theorem eu_dvd {a b : Nat} (ha : a < 8589934592) (hb : b < 8589934592) : Dv (eu a b a b) a ∧ Dv (eu a b a b) b := euF_dvd 65 a b ha hb (by have := tp33.mp hb; omega)
theorem eu_lin {a b d : Nat} (ha : a < 8589934592) (hb : b < 8589934592) (h1 : Dv d a) (h2 : Dv d b) : Dv d (eu a b a b) := by
  obtain ⟨s, t, h⟩ := euF_lin 65 a b ha hb (by have := tp33.mp hb; omega)
  rw [eu, h]
  exact Dv_x (Dv_m s h1) (Dv_m t h2)
theorem rm_of_Dv {a b : Nat} (ha : a < 18446744073709551616) (hb : b < 18446744073709551616) (h0 : ¬ b = 0) (h : Dv b a) : rm a b = 0 :=
  rm_uniq ha hb h0 (by have : ¬ tp b < 0 := fun g => h0 (tp_neg.mp g)
                       rw [tp_0]; omega) (by rw [Nat.xor_zero]; exact h)
theorem qo_of_Dv {a b : Nat} (ha : a < 18446744073709551616) (hb : b < 18446744073709551616) (h0 : ¬ b = 0) (h : Dv b a) : a = cm b (qo a b) := by
  have h1 := rm_of_Dv ha hb h0 h
  rw [rm_cm ha hb h0] at h1
  exact xor_same h1
theorem qo_0 (g : Nat) : qo 0 g = 0 := by
  unfold qo
  split
  · rfl
  · rename_i h
    have : ¬ tp g < 0 := fun z => h (tp_neg.mp z)
    rw [tp_0, show (-1 + 1 - tp g).toNat = 0 by omega]
    rfl
theorem lcm_eq {a b : Nat} (ha : a < 8589934592) (hb : b < 8589934592) : wT a (qo b (eu a b a b)) = wL a b := by
  by_cases h1 : a = 0
  · subst h1
    rw [wT_0 (Or.inl rfl), pm_0l, wL, if_pos (Or.inl rfl)]
  by_cases h2 : b = 0
  · subst h2
    rw [qo_0, wT_0 (Or.inr (Or.inl rfl)), pm_0r, wL, if_pos (Or.inr rfl)]
  have hg0 : ¬ eu a b a b = 0 := eu_ne ha hb h1
  have hg := eu33g ha hb
  obtain ⟨d1, d2⟩ := eu_dvd ha hb
  have e1 := qo_of_Dv (by omega) (by omega) hg0 d1
  have e2 := qo_of_Dv (by omega) (by omega) hg0 d2
  have hqb := qo33 hb hg
  have hqa := qo33 ha hg
  rw [wL, if_neg (fun h => h.elim h1 h2)]
  generalize eu a b a b = g at hg0 hg e1 e2 hqa hqb
  generalize qo a g = a' at e1 hqa
  generalize qo b g = b' at e2 hqb
  have ha' : a' ≠ 0 := fun h => h1 (by rw [e1, h, cm_0r])
  have hb' : b' ≠ 0 := fun h => h2 (by rw [e2, h, cm_0r])
  have t1 := cm_tp hg0 ha'
  have t2 := cm_tp hg0 hb'
  rw [← e1] at t1
  rw [← e2] at t2
  have ep : pm a b' = pm a' b := by
    rw [pm_cm (by omega), pm_cm (by omega), e1, e2, cm_comm g a', cm_assoc]
  rw [wT, wT, ep]
  by_cases h : 32 < tp a + tp b'
  · rw [if_pos ⟨h1, hb', h⟩, if_pos ⟨ha', h2, by omega⟩]
  · rw [if_neg (fun z => h z.2.2), if_neg (fun z => h (by have := z.2.2; omega))]
-- squares
theorem sq_x (a b : Nat) : cm (a ^^^ b) (a ^^^ b) = cm a a ^^^ cm b b := by
  rw [cm_xl, cm_xr, cm_xr, cm_comm b a, x4, Nat.xor_comm (cm a b) (cm b b), ← x4, Nat.xor_self, Nat.xor_zero]
theorem sq_1 (k : Nat) : cm (1 <<< k) (1 <<< k) = 1 <<< (2 * k) := by
  rw [cm_sl, cm_1l, ← Nat.shiftLeft_add, Nat.two_mul]
theorem or_x {x k : Nat} (h : x < 2 ^ k) : x ||| (1 <<< k) = x ^^^ (1 <<< k) := by
  refine Nat.eq_of_testBit_eq fun i => ?_
  rw [Nat.testBit_or, Nat.testBit_xor, bit1]
  by_cases g : k = i
  · rw [← g, Nat.testBit_lt_two_pow h, Bool.false_or, Bool.false_xor]
  · rw [decide_eq_false g, Bool.or_false, Bool.xor_false]
theorem sq_bit (n : Nat) : ∀ k i : Nat, (cm (ehF n k) (ehF n k)).testBit i = (decide (i % 2 = 0 ∧ i / 2 < k) && n.testBit i) := by
  intro k
  induction k with
  | zero => intro i; rw [decide_eq_false (by omega)]; exact Nat.zero_testBit i
  | succ k ih =>
    intro i
    cases hb : n.testBit (2 * k) with
    | true =>
      rw [ehF_t hb, or_x (ehF_lt n k), sq_x, sq_1, Nat.testBit_xor, ih, bit1]
      by_cases e : 2 * k = i
      · subst e
        rw [decide_eq_false (by omega : ¬ (2 * k % 2 = 0 ∧ 2 * k / 2 < k)), decide_eq_true (rfl : 2 * k = 2 * k), decide_eq_true (by omega : 2 * k % 2 = 0 ∧ 2 * k / 2 < k + 1), hb]
        rfl
      · rw [decide_eq_false e, Bool.xor_false]
        congr 1
        exact decide_eq_decide.mpr (by omega)
    | false =>
      rw [ehF_f hb, ih]
      by_cases e : 2 * k = i
      · subst e
        rw [hb, Bool.and_false, Bool.and_false]
      · congr 1
        exact decide_eq_decide.mpr (by omega)
theorem sq_dv {z : Nat} (h : z < 8589934592) : dv z = cm (ehF (z >>> 1) 17) (ehF (z >>> 1) 17) := by
  refine Nat.eq_of_testBit_eq fun i => ?_
  rw [dv_eq h, mdF_bit, sq_bit, Nat.testBit_shiftRight, Nat.add_comm 1 i]
  by_cases g : i + 1 < 33
  · congr 1
    exact decide_eq_decide.mpr (by omega)
  · rw [b33 h (by omega), Bool.and_false, Bool.and_false]
theorem sq_z {z : Nat} (h : z < 8589934592) : z = cm (ehF z 17) (ehF z 17) ^^^ cm (dv z) 2 := by
  refine Nat.eq_of_testBit_eq fun i => ?_
  rw [cm_2r, sq_dv h, Nat.testBit_xor, Nat.testBit_shiftLeft, sq_bit, sq_bit, Nat.testBit_shiftRight]
  by_cases g : i < 33
  · by_cases g2 : i % 2 = 0
    · rw [decide_eq_true (by omega : i % 2 = 0 ∧ i / 2 < 17), Bool.true_and]
      by_cases g3 : i = 0
      · subst g3
        rw [decide_eq_false (by omega : ¬ 0 ≥ 1), Bool.false_and, Bool.xor_false]
      · rw [decide_eq_false (by omega : ¬ ((i - 1) % 2 = 0 ∧ (i - 1) / 2 < 17)), Bool.false_and, Bool.and_false, Bool.xor_false]
    · rw [decide_eq_false (by omega : ¬ (i % 2 = 0 ∧ i / 2 < 17)), decide_eq_true (by omega : (i - 1) % 2 = 0 ∧ (i - 1) / 2 < 17), decide_eq_true (by omega : i ≥ 1), show 1 + (i - 1) = i by omega]
      simp
  · rw [b33 h (by omega), show 1 + (i - 1) = i by omega, b33 h (by omega)]
    simp
theorem one_Dv {d : Nat} (h : Dv d 1) : d = 1 := by
  obtain ⟨q, hq⟩ := h
  have h1 : d ≠ 0 := fun g => by rw [g, cm_0l] at hq; exact absurd hq (by decide)
  have h2 : q ≠ 0 := fun g => by rw [g, cm_0r] at hq; exact absurd hq (by decide)
  have h3 := cm_tp h1 h2
  rw [← hq, show tp 1 = 0 from rfl] at h3
  have h4 : ¬ tp d < 0 := fun g => h1 (tp_neg.mp g)
  have h5 : ¬ tp q < 0 := fun g => h2 (tp_neg.mp g)
  have h6 := (tp_le (n := d) (k := 0)).mp (by omega)
  omega
theorem free_eq {z : Nat} (h : z < 8589934592) : (eu z (dv z) z (dv z) = 1) ↔ (eu (ehF z 17) (ehF (z >>> 1) 17) (ehF z 17) (ehF (z >>> 1) 17) = 1) := by
  have hd := dv33 h
  have hE : ehF z 17 < 8589934592 := Nat.lt_of_lt_of_le (ehF_lt z 17) (by decide)
  have hO : ehF (z >>> 1) 17 < 8589934592 := Nat.lt_of_lt_of_le (ehF_lt _ 17) (by decide)
  have e1 := sq_z h
  have e2 := sq_dv h
  constructor
  · intro g
    obtain ⟨d1, d2⟩ := eu_dvd hE hO
    have d3 := Dv_m (ehF (z >>> 1) 17) d2
    rw [← e2] at d3
    have d4 := Dv_x (Dv_m (ehF z 17) d1) (Dv_m 2 d3)
    rw [← e1] at d4
    have d5 := eu_lin h hd d4 d3
    rw [g] at d5
    exact one_Dv d5
  · intro g
    obtain ⟨d1, d2⟩ := eu_dvd h hd
    obtain ⟨s, t, k⟩ := euF_lin 65 _ _ hE hO (by have := tp33.mp hO; omega)
    rw [← eu, g] at k
    have d3 := Dv_x d1 (Dv_m 2 d2)
    have e3 : z ^^^ cm (dv z) 2 = cm (ehF z 17) (ehF z 17) := by
      have : (cm (ehF z 17) (ehF z 17) ^^^ cm (dv z) 2) ^^^ cm (dv z) 2 = cm (ehF z 17) (ehF z 17) := by rw [Nat.xor_assoc, Nat.xor_self, Nat.xor_zero]
      rwa [← e1] at this
    rw [e3] at d3
    have e4 : 1 = cm (cm (ehF z 17) (ehF z 17)) (cm s s) ^^^ cm (dv z) (cm t t) := by
      have e5 : ∀ x y : Nat, cm (cm x y) (cm x y) = cm (cm x x) (cm y y) := fun x y => by rw [cm_assoc, ← cm_assoc y x y, cm_comm y x, cm_assoc x y y, ← cm_assoc x x]
      rw [e2, ← e5, ← e5, ← sq_x, ← k]
      rfl
    refine one_Dv ?_
    rw [e4]
    exact Dv_x (Dv_m _ d3) (Dv_m _ d2)
theorem dvd_eq {f z : Nat} : decide (rm z f = 0) = decide (if f = 0 then z = 0 else rm z f = 0) := by
  refine decide_eq_decide.mpr ?_
  by_cases h : f = 0
  · subst h
    rw [if_pos rfl, rm, pm_0r, Nat.xor_zero]
  · rw [if_neg h]
theorem free_eqB {z : Nat} (h : z < 8589934592) : decide (eu z (dv z) z (dv z) = 1) = decide (eu (ehF z 17) (ehF (z >>> 1) 17) (ehF z 17) (ehF (z >>> 1) 17) = 1) := decide_eq_decide.mpr (free_eq h)
end QC
