/-! ===== class and model reckon the same: by signs ===== -/
section QA
theorem bitlo {n k i : Nat} (h : n < 2 ^ k) (hi : k ≤ i) : n.testBit i = false := Nat.testBit_lt_two_pow (Nat.lt_of_lt_of_le h (Nat.pow_le_pow_right (by omega) hi))
theorem b33 {n i : Nat} (h : n < 8589934592) (hi : 33 ≤ i) : n.testBit i = false := bitlo (k := 33) h hi
theorem bpF_no (n : Nat) : ∀ g k : Nat, n < 2 ^ k → bpF n g k = -1 := by
  intro g
  induction g with
  | zero => intro k _; rfl
  | succ g ih =>
    intro k h
    rw [bpF_f (bitlo h (Nat.le_refl _))]
    exact ih (k + 1) (Nat.lt_of_lt_of_le h (Nat.pow_le_pow_right (by omega) (by omega)))
theorem bpF_more (n g : Nat) : ∀ f k : Nat, n < 2 ^ (k + f) → bpF n (f + g) k = bpF n f k := by
  intro f
  induction f with
  | zero => intro k h; rw [Nat.zero_add]; exact bpF_no n g k h
  | succ f ih =>
    intro k h
    rw [Nat.add_right_comm]
    cases hb : n.testBit k with
    | true => rw [bpF_t hb, bpF_t hb]
    | false => rw [bpF_f hb, bpF_f hb]; exact ih (k + 1) (by rw [show k + 1 + f = k + (f + 1) by omega]; exact h)
theorem bp_eq {n : Nat} (h : n < 8589934592) : bp n = bpF n 33 0 := bpF_more n 31 33 0 h
theorem bit1 (k i : Nat) : (1 <<< k).testBit i = decide (k = i) := by rw [Nat.one_shiftLeft, Nat.testBit_two_pow]
theorem m55 (i : Nat) : (6148914691236517205 : Nat).testBit i = (decide (i % 2 = 0) && decide (i < 64)) := by
  by_cases h : i < 64
  · have hall : (List.range 64).all (fun i => (6148914691236517205 : Nat).testBit i == decide (i % 2 = 0)) = true := by decide +kernel
    have := List.all_eq_true.mp hall i (List.mem_range.mpr h)
    rw [eq_of_beq this, decide_eq_true h, Bool.and_true]
  · rw [bitlo (k := 64) (by decide) (by omega), decide_eq_false h, Bool.and_false]
theorem mdF_bit (n : Nat) : ∀ k i : Nat, (mdF n k).testBit i = (decide (i % 2 = 0 ∧ i / 2 < k) && n.testBit (i + 1)) := by
  intro k
  induction k with
  | zero => intro i; rw [decide_eq_false (by omega)]; exact Nat.zero_testBit i
  | succ k ih =>
    intro i
    cases hb : n.testBit (2 * k + 1) with
    | true =>
      rw [mdF_t hb, Nat.testBit_or, ih, bit1]
      by_cases e : 2 * k = i
      · subst e
        rw [hb, decide_eq_true (by omega : 2 * k = 2 * k), decide_eq_true (by omega : 2 * k % 2 = 0 ∧ 2 * k / 2 < k + 1)]
        simp
      · rw [decide_eq_false e, Bool.or_false]
        congr 1
        exact decide_eq_decide.mpr (by omega)
    | false =>
      rw [mdF_f hb, ih]
      by_cases e : 2 * k = i
      · subst e
        rw [hb, Bool.and_false, Bool.and_false]
      · congr 1
        exact decide_eq_decide.mpr (by omega)
theorem ehF_bit (n : Nat) : ∀ k i : Nat, (ehF n k).testBit i = (decide (i < k) && n.testBit (2 * i)) := by
  intro k
  induction k with
  | zero => intro i; rw [decide_eq_false (by omega)]; exact Nat.zero_testBit i
  | succ k ih =>
    intro i
    cases hb : n.testBit (2 * k) with
    | true =>
      rw [ehF_t hb, Nat.testBit_or, ih, bit1]
      by_cases e : k = i
      · subst e
        rw [hb, decide_eq_true (rfl : k = k), decide_eq_true (by omega : k < k + 1)]
        simp
      · rw [decide_eq_false e, Bool.or_false]
        congr 1
        exact decide_eq_decide.mpr (by omega)
    | false =>
      rw [ehF_f hb, ih]
      by_cases e : k = i
      · subst e
        rw [hb, Bool.and_false, Bool.and_false]
      · congr 1
        exact decide_eq_decide.mpr (by omega)
theorem dv_eq {n : Nat} (h : n < 8589934592) : dv n = mdF n 16 := by
  refine Nat.eq_of_testBit_eq fun i => ?_
  rw [dv, Nat.testBit_and, Nat.testBit_shiftRight, m55, mdF_bit, Nat.add_comm 1 i]
  by_cases g : i + 1 < 33
  · rw [Bool.and_comm, Bool.and_comm (decide (i % 2 = 0)), decide_eq_true (by omega : i < 64), Bool.true_and]
    congr 1
    exact decide_eq_decide.mpr (by omega)
  · rw [b33 h (by omega), Bool.false_and, Bool.and_false]
theorem eh_eq {n : Nat} (h : n < 8589934592) : eh n = ehF n 17 := by
  refine Nat.eq_of_testBit_eq fun i => ?_
  rw [eh, ehF_bit, ehF_bit]
  by_cases g : 2 * i < 33
  · congr 1
    exact decide_eq_decide.mpr (by omega)
  · rw [b33 h (by omega), Bool.and_false, Bool.and_false]
theorem wE_eq {n : Nat} (h : n < 8589934592) : wE n = wEm n := by rw [wE, wEm, dv_eq h, eh_eq h]
theorem tuF_bit (n T : Nat) : ∀ k i : Nat, k ≤ T + 1 → (tuF n (T : Int) k).testBit i = (decide (i ≤ T ∧ T - i < k) && n.testBit (T - i)) := by
  intro k
  induction k with
  | zero => intro i _; rw [decide_eq_false (by omega)]; exact Nat.zero_testBit i
  | succ k ih =>
    intro i hk
    have et : ((T : Int) - (k : Int)).toNat = T - k := by omega
    cases hb : n.testBit k with
    | true =>
      rw [tuF_t hb, Nat.testBit_or, ih i (by omega), et, bit1]
      by_cases e : T - k = i
      · have e2 : T - i = k := by omega
        rw [decide_eq_true e, e2, hb, decide_eq_true (by omega : i ≤ T ∧ k < k + 1)]
        simp
      · rw [decide_eq_false e, Bool.or_false]
        congr 1
        exact decide_eq_decide.mpr (by omega)
    | false =>
      rw [tuF_f hb, ih i (by omega)]
      by_cases e : T - k = i
      · have e2 : T - i = k := by omega
        rw [e2, hb, Bool.and_false, Bool.and_false]
      · congr 1
        exact decide_eq_decide.mpr (by omega)
theorem tmF_bit (n : Nat) : ∀ k i : Nat, (tmF n k).testBit i = (decide (i < k) && n.testBit (k - 1 - i)) := by
  intro k
  induction k with
  | zero => intro i; rw [decide_eq_false (by omega)]; exact Nat.zero_testBit i
  | succ k ih =>
    intro i
    have e0 : ((n >>> k) &&& 1).testBit i = (decide (i = 0) && n.testBit k) := by
      rw [Nat.testBit_and, Nat.testBit_shiftRight]
      cases i with
      | zero => simp
      | succ i => rw [one_bit (by omega), decide_eq_false (by omega), Bool.and_false, Bool.false_and]
    rw [tmF, Nat.testBit_or, Nat.testBit_shiftLeft, ih, e0]
    cases i with
    | zero =>
      rw [decide_eq_false (by omega : ¬ 0 ≥ 1), decide_eq_true (rfl : 0 = 0), decide_eq_true (by omega : 0 < k + 1)]
      simp
    | succ i =>
      rw [decide_eq_true (by omega : i + 1 ≥ 1), decide_eq_false (by omega : ¬ i + 1 = 0), Bool.false_and, Bool.or_false, Bool.true_and, show k + 1 - 1 - (i + 1) = k - 1 - (i + 1 - 1) by omega]
      congr 1
      exact decide_eq_decide.mpr (by omega)
theorem tu_eq (n : Nat) : tu n = tm n := by
  by_cases h : n = 0
  · subst h; rfl
  · have e := tp_pos h
    rw [tu, tm, e]
    refine Nat.eq_of_testBit_eq fun i => ?_
    rw [show ((Nat.log2 n : Int) + 1).toNat = Nat.log2 n + 1 by omega, tuF_bit n _ _ i (Nat.le_refl _), tmF_bit, show Nat.log2 n + 1 - 1 - i = Nat.log2 n - i by omega]
    congr 1
    exact decide_eq_decide.mpr (by omega)
theorem mvF_mm (n : Nat) : ∀ j s : Nat, mvF n j s = mmF n j s := by
  intro j
  induction j with
  | zero => intro s; rfl
  | succ j ih => intro s; rw [mvF, mmF, ih, Nat.xor_comm (s <<< 1) s]
theorem mmF_0 (n k : Nat) (h : n < 2 ^ k) : ∀ g : Nat, mmF n (k + g) 0 = mmF n k 0 := by
  intro g
  induction g with
  | zero => rfl
  | succ g ih =>
    have e : (n >>> (k + g)) &&& 1 = 0 := by rw [shr_0.mpr (Nat.lt_of_lt_of_le h (Nat.pow_le_pow_right (by omega) (by omega)))]; rfl
    rw [← Nat.add_assoc, mmF, e]
    exact ih
theorem mv_eq {n : Nat} (h : n < 8589934592) : mv n = mm n := by
  have ht := tp33.mp h
  have ht2 := tp_ge n
  have h2 : n < 2 ^ (tp n + 1).toNat := (tp_lt (k := (tp n + 1).toNat)).mp (by omega)
  have e : mmF n 33 0 = mmF n (tp n + 1).toNat 0 := by
    have := mmF_0 n _ h2 (33 - (tp n + 1).toNat)
    rwa [show (tp n + 1).toNat + (33 - (tp n + 1).toNat) = 33 by omega] at this
  rw [mv, mvF_mm, mm, e]
  refine Nat.mod_eq_of_lt ?_
  have := mm33 n
  rw [mm, e] at this
  omega
theorem m64 (i : Nat) : (18446744073709551615 : Nat).testBit i = decide (i < 64) := by
  rw [show (18446744073709551615 : Nat) = 2 ^ 64 - 1 from rfl, Nat.testBit_two_pow_sub_one]
theorem dg_eq {x : Nat} {q : Int} {b : Bool} (hx : x < 8589934592) (hq : 0 ≤ q ∧ q ≤ 32) : dg x q b = dgm x q b := by
  have e : tb x q = x.testBit q.toNat := tb_in hq.1 (by omega)
  cases b with
  | true =>
    rw [dg, if_pos rfl, dgm, e]
    cases h : x.testBit q.toNat with
    | true =>
      rw [if_pos rfl]
      refine Nat.eq_of_testBit_eq fun i => ?_
      rw [Nat.testBit_or, bit1]
      by_cases g : q.toNat = i
      · rw [← g, h]; rfl
      · rw [decide_eq_false g, Bool.or_false]
    | false =>
      rw [if_neg (by decide)]
      refine Nat.eq_of_testBit_eq fun i => ?_
      rw [Nat.testBit_or, Nat.testBit_xor, bit1]
      by_cases g : q.toNat = i
      · rw [← g, h, Bool.false_or, Bool.false_xor]
      · rw [decide_eq_false g, Bool.or_false, Bool.xor_false]
  | false =>
    rw [dg, if_neg (by decide), dgm, e]
    have e2 : ∀ i, (x &&& ((1 <<< q.toNat) ^^^ 18446744073709551615)).testBit i = (x.testBit i && !decide (q.toNat = i)) := by
      intro i
      rw [Nat.testBit_and, Nat.testBit_xor, bit1, m64]
      by_cases g : i < 64
      · rw [decide_eq_true g, Bool.xor_true]
      · rw [b33 hx (by omega), Bool.false_and, Bool.false_and]
    cases h : x.testBit q.toNat with
    | true =>
      rw [if_neg (by decide)]
      refine Nat.eq_of_testBit_eq fun i => ?_
      rw [e2, Nat.testBit_xor, bit1]
      by_cases g : q.toNat = i
      · rw [← g, h, decide_eq_true rfl]; rfl
      · rw [decide_eq_false g, Bool.xor_false]; simp
    | false =>
      rw [if_pos rfl]
      refine Nat.eq_of_testBit_eq fun i => ?_
      rw [e2]
      by_cases g : q.toNat = i
      · rw [← g, h]; rfl
      · rw [decide_eq_false g]; simp
theorem flip_eq {x : Nat} {g : Int} (hg : 0 ≤ g ∧ g ≤ 32) : (!tb x g) = tb (x ^^^ (1 <<< g.toNat)) g := by
  rw [tb_in hg.1 (by omega), tb_in hg.1 (by omega), Nat.testBit_xor, bit1, decide_eq_true rfl, Bool.xor_true]
theorem zu_z {c : Nat → Nat} {f z : Nat} : zu c f (c z) z = c z := by
  unfold zu
  split <;> rfl
theorem swap_eq {c : Nat → Nat} {f z : Nat} : aR (zu c f (c z)) z (some (c f)) = if c f = c z then 0 else 1 := by
  rw [aR, zu_z]
  by_cases h : c f = c z
  · rw [if_pos h, if_pos h.symm]
  · rw [if_neg h, if_neg (fun g => h g.symm)]
theorem pd_eq {n : Int} (h : 1 ≤ n ∧ n ≤ 5) : pd n = fi n := by
  have hc : n = 1 ∨ n = 2 ∨ n = 3 ∨ n = 4 ∨ n = 5 := by omega
  rcases hc with rfl | rfl | rfl | rfl | rfl <;> decide +kernel
theorem od_eq (a b : Nat) : od a b = zB (decide (b < a)) - zB (decide (a < b)) := by
  unfold od
  by_cases h1 : a < b
  · rw [if_pos h1, decide_eq_true h1, decide_eq_false (by omega)]; rfl
  · rw [if_neg h1, decide_eq_false h1]
    by_cases h2 : b < a
    · rw [if_pos h2, decide_eq_true h2]; rfl
    · rw [if_neg h2, decide_eq_false h2]; rfl
theorem and1_eq (x : Nat) : ((x &&& 1 : Nat) : Int) = zB (tb x 0) := by
  rw [tb_0, Nat.testBit_zero, Nat.and_one_is_mod]
  by_cases h : x % 2 = 1
  · rw [h, decide_eq_true rfl]; rfl
  · rw [show x % 2 = 0 by omega, decide_eq_false (by omega)]; rfl
end QA
