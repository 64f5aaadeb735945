/-! ===== the weight: a sum over fields ===== -/
section QB
theorem and8 (a b M m : Nat) (hb : b < 256) (hm : m < 256) : (256 * a + b) &&& (256 * M + m) = 256 * (a &&& M) + (b &&& m) := by
  have hbm : b &&& m < 2 ^ 8 := Nat.lt_of_le_of_lt Nat.and_le_left (by omega)
  refine Nat.eq_of_testBit_eq fun i => ?_
  rw [Nat.testBit_and, show 256 * a + b = 2 ^ 8 * a + b from rfl, show 256 * M + m = 2 ^ 8 * M + m from rfl, show 256 * (a &&& M) + (b &&& m) = 2 ^ 8 * (a &&& M) + (b &&& m) from rfl, Nat.testBit_two_pow_mul_add a (by omega : b < 2 ^ 8), Nat.testBit_two_pow_mul_add M (by omega : m < 2 ^ 8), Nat.testBit_two_pow_mul_add (a &&& M) hbm]
  by_cases g : i < 8
  · rw [if_pos g, if_pos g, if_pos g, Nat.testBit_and]
  · rw [if_neg g, if_neg g, if_neg g, Nat.testBit_and]
def s1 (M n : Nat) : Nat := n - ((n >>> 1) &&& M)
def s2 (M n : Nat) : Nat := (n &&& M) + ((n >>> 2) &&& M)
def s3 (M n : Nat) : Nat := (n + (n >>> 4)) &&& M
theorem all2 {n m : Nat} {P : Nat → Nat → Bool} (h : (List.range n).all (fun i => (List.range m).all (fun j => P i j)) = true) {i j : Nat} (hi : i < n) (hj : j < m) : P i j = true :=
  List.all_eq_true.mp (List.all_eq_true.mp h i (List.mem_range.mpr hi)) j (List.mem_range.mpr hj)
theorem t1 : (List.range 2).all (fun r => (List.range 256).all (fun b => ((128 * r + b / 2) &&& 85) == ((b >>> 1) &&& 85))) = true := by decide +kernel
theorem t2 : (List.range 4).all (fun r => (List.range 256).all (fun b => ((64 * r + b / 4) &&& 51) == ((b >>> 2) &&& 51))) = true := by decide +kernel
theorem t3 : (List.range 5).all (fun r => (List.range 69).all (fun b => ((b + b / 16 + 16 * r) &&& 15) == ((b + (b >>> 4)) &&& 15))) = true := by decide +kernel
theorem s1_8 (a b M : Nat) (hb : b < 256) : s1 (256 * M + 85) (256 * a + b) = 256 * s1 M a + s1 85 b := by
  have e1 : (256 * a + b) >>> 1 = 256 * (a >>> 1) + (128 * (a % 2) + b / 2) := by rw [Nat.shiftRight_eq_div_pow, Nat.shiftRight_eq_div_pow]; omega
  have e2 := eq_of_beq (all2 t1 (by omega : a % 2 < 2) hb)
  have h1 : (a >>> 1) &&& M ≤ a := Nat.le_trans Nat.and_le_left (Nat.shiftRight_le a 1)
  have h2 : (b >>> 1) &&& 85 ≤ b := Nat.le_trans Nat.and_le_left (Nat.shiftRight_le b 1)
  unfold s1
  rw [e1, and8 _ _ _ _ (by omega) (by omega), e2]
  omega
theorem s2_8 (a b M : Nat) (hb : b < 256) : s2 (256 * M + 51) (256 * a + b) = 256 * s2 M a + s2 51 b := by
  have e1 : (256 * a + b) >>> 2 = 256 * (a >>> 2) + (64 * (a % 4) + b / 4) := by rw [Nat.shiftRight_eq_div_pow, Nat.shiftRight_eq_div_pow]; omega
  have e2 := eq_of_beq (all2 t2 (by omega : a % 4 < 4) hb)
  unfold s2
  rw [e1, and8 _ _ _ _ hb (by omega), and8 _ _ _ _ (by omega) (by omega), e2]
  omega
theorem s3_8 (a b M : Nat) (hb : b < 69) (ha : a % 16 < 5) : s3 (256 * M + 15) (256 * a + b) = 256 * s3 M a + s3 15 b := by
  have e1 : 256 * a + b + ((256 * a + b) >>> 4) = 256 * (a + (a >>> 4)) + (b + b / 16 + 16 * (a % 16)) := by rw [Nat.shiftRight_eq_div_pow, Nat.shiftRight_eq_div_pow]; omega
  have e2 := eq_of_beq (all2 t3 ha hb)
  unfold s3
  rw [e1, and8 _ _ _ _ (by omega) (by omega), e2]
theorem t4 : (List.range 256).all (fun x => (s1 85 x < 256 && s2 51 (s1 85 x) < 69 && s2 51 (s1 85 x) % 16 < 5 && s3 15 (s2 51 (s1 85 x)) < 9 && decide (((s3 15 (s2 51 (s1 85 x)) : Nat) : Int) = wt x 8))) = true := by decide +kernel
theorem t4' {x : Nat} (h : x < 256) : s1 85 x < 256 ∧ s2 51 (s1 85 x) < 69 ∧ s2 51 (s1 85 x) % 16 < 5 ∧ s3 15 (s2 51 (s1 85 x)) < 9 ∧ ((s3 15 (s2 51 (s1 85 x)) : Nat) : Int) = wt x 8 := by
  have := List.all_eq_true.mp t4 x (List.mem_range.mpr h)
  simp only [Bool.and_eq_true, decide_eq_true_eq] at this
  exact ⟨this.1.1.1.1, this.1.1.1.2, this.1.1.2, this.1.2, this.2⟩
theorem wt_8 (a b : Nat) (hb : b < 256) : ∀ k : Nat, wt (256 * a + b) (8 + k) = wt b 8 + wt a k := by
  have hbit : ∀ i, (256 * a + b).testBit i = if i < 8 then b.testBit i else a.testBit (i - 8) := fun i => Nat.testBit_two_pow_mul_add a (by omega : b < 2 ^ 8) i
  have h8 : ∀ k, k ≤ 8 → wt (256 * a + b) k = wt b k := by
    intro k
    induction k with
    | zero => intro _; rfl
    | succ k ih => intro hk; rw [wt, wt, ih (by omega), hbit, if_pos (by omega)]
  intro k
  induction k with
  | zero => rw [h8 8 (Nat.le_refl _)]; exact (Int.add_zero _).symm
  | succ k ih =>
    rw [← Nat.add_assoc, wt, ih, hbit, if_neg (by omega), show 8 + k - 8 = k by omega]
    exact Int.add_assoc _ _ _
theorem bcs_sum (y0 y1 y2 y3 x4 : Nat) (h0 : y0 < 9) (h1 : y1 < 9) (h2 : y2 < 9) (h3 : y3 < 9) (h4 : x4 < 2) : bcs 32 (bcs 16 (bcs 8 (256 * (256 * (256 * (256 * x4 + y3) + y2) + y1) + y0))) % 128 = y0 + y1 + y2 + y3 + x4 := by
  have e1 : bcs 8 (256 * (256 * (256 * (256 * x4 + y3) + y2) + y1) + y0) = 65536 * (65536 * x4 + (256 * (y3 + x4) + (y2 + y3))) + (256 * (y1 + y2) + (y0 + y1)) := by
    unfold bcs; rw [Nat.shiftRight_eq_div_pow]; omega
  have e2 : bcs 16 (65536 * (65536 * x4 + (256 * (y3 + x4) + (y2 + y3))) + (256 * (y1 + y2) + (y0 + y1))) = 4294967296 * x4 + (65536 * (256 * (y3 + x4) + (y2 + y3) + x4) + (256 * (y1 + y2 + y3 + x4) + (y0 + y1 + y2 + y3))) := by
    unfold bcs; rw [Nat.shiftRight_eq_div_pow]; omega
  rw [e1, e2]
  have h5 : 65536 * (256 * (y3 + x4) + (y2 + y3) + x4) + (256 * (y1 + y2 + y3 + x4) + (y0 + y1 + y2 + y3)) < 4294967296 := by omega
  have h6 : (65536 * (256 * (y3 + x4) + (y2 + y3) + x4) + (256 * (y1 + y2 + y3 + x4) + (y0 + y1 + y2 + y3))) % 128 = y0 + y1 + y2 + y3 := by omega
  generalize 65536 * (256 * (y3 + x4) + (y2 + y3) + x4) + (256 * (y1 + y2 + y3 + x4) + (y0 + y1 + y2 + y3)) = L at h5 h6
  unfold bcs
  rw [Nat.shiftRight_eq_div_pow]
  have h7 : (4294967296 * x4 + L) / 2 ^ 32 = x4 := by omega
  rw [h7]
  omega
theorem bc_eq {n : Nat} (h : n < 8589934592) : bc n = wt n 33 := by
  have hx0 : n % 256 < 256 := Nat.mod_lt _ (by omega)
  have hx1 : n / 256 % 256 < 256 := Nat.mod_lt _ (by omega)
  have hx2 : n / 65536 % 256 < 256 := Nat.mod_lt _ (by omega)
  have hx3 : n / 16777216 % 256 < 256 := Nat.mod_lt _ (by omega)
  have hx4 : n / 4294967296 < 2 := by omega
  have en : n = 256 * (256 * (256 * (256 * (n / 4294967296) + n / 16777216 % 256) + n / 65536 % 256) + n / 256 % 256) + n % 256 := by omega
  generalize n % 256 = x0 at hx0 en
  generalize n / 256 % 256 = x1 at hx1 en
  generalize n / 65536 % 256 = x2 at hx2 en
  generalize n / 16777216 % 256 = x3 at hx3 en
  generalize n / 4294967296 = x4 at hx4 en
  subst en
  obtain ⟨a0, b0, c0, d0, e0⟩ := t4' hx0
  obtain ⟨a1, b1, c1, d1, e1⟩ := t4' hx1
  obtain ⟨a2, b2, c2, d2, e2⟩ := t4' hx2
  obtain ⟨a3, b3, c3, d3, e3⟩ := t4' hx3
  have hw : wt (256 * (256 * (256 * (256 * x4 + x3) + x2) + x1) + x0) 33 = wt x0 8 + (wt x1 8 + (wt x2 8 + (wt x3 8 + wt x4 1))) := by
    rw [show 33 = 8 + (8 + (8 + (8 + 1))) from rfl, wt_8 _ _ hx0, wt_8 _ _ hx1, wt_8 _ _ hx2, wt_8 _ _ hx3]
  have f1 : bc1 (256 * (256 * (256 * (256 * x4 + x3) + x2) + x1) + x0) = 256 * (256 * (256 * (256 * s1 1431655765 x4 + s1 85 x3) + s1 85 x2) + s1 85 x1) + s1 85 x0 := by
    show s1 (256 * (256 * (256 * (256 * 1431655765 + 85) + 85) + 85) + 85) _ = _
    rw [s1_8 _ _ _ hx0, s1_8 _ _ _ hx1, s1_8 _ _ _ hx2, s1_8 _ _ _ hx3]
  have f2 : bc2 (256 * (256 * (256 * (256 * s1 1431655765 x4 + s1 85 x3) + s1 85 x2) + s1 85 x1) + s1 85 x0) = 256 * (256 * (256 * (256 * s2 858993459 (s1 1431655765 x4) + s2 51 (s1 85 x3)) + s2 51 (s1 85 x2)) + s2 51 (s1 85 x1)) + s2 51 (s1 85 x0) := by
    show s2 (256 * (256 * (256 * (256 * 858993459 + 51) + 51) + 51) + 51) _ = _
    rw [s2_8 _ _ _ a0, s2_8 _ _ _ a1, s2_8 _ _ _ a2, s2_8 _ _ _ a3]
  have hc : s2 858993459 (s1 1431655765 x4) = x4 ∧ s3 252645135 x4 = x4 ∧ ((x4 : Nat) : Int) = wt x4 1 := by
    have : x4 = 0 ∨ x4 = 1 := by omega
    rcases this with rfl | rfl <;> decide +kernel
  have f3 : bc3 (256 * (256 * (256 * (256 * s2 858993459 (s1 1431655765 x4) + s2 51 (s1 85 x3)) + s2 51 (s1 85 x2)) + s2 51 (s1 85 x1)) + s2 51 (s1 85 x0)) = 256 * (256 * (256 * (256 * x4 + s3 15 (s2 51 (s1 85 x3))) + s3 15 (s2 51 (s1 85 x2))) + s3 15 (s2 51 (s1 85 x1))) + s3 15 (s2 51 (s1 85 x0)) := by
    rw [hc.1]
    show s3 (256 * (256 * (256 * (256 * 252645135 + 15) + 15) + 15) + 15) _ = _
    rw [s3_8 _ _ _ b0 (by omega), s3_8 _ _ _ b1 (by omega), s3_8 _ _ _ b2 (by omega), s3_8 _ _ _ b3 (by omega), hc.2.1]
  rw [hw, bc, f1, f2, f3, ← e0, ← e1, ← e2, ← e3, ← hc.2.2]
  rw [bcs_sum _ _ _ _ _ d0 d1 d2 d3 hx4]
  omega
theorem czm (c : Nat → Nat) : ∀ k : Nat, czF c k = zmF c k := by
  intro k
  induction k with
  | zero => rfl
  | succ k ih =>
    rw [czF, zmF, ih]
    by_cases h : c k = 0
    · rw [if_pos h, decide_eq_true h]; rfl
    · rw [if_neg h, decide_eq_false h]; exact (Int.add_zero _).symm
theorem awm {c : Nat → Nat} (hc : ∀ k, c k < 8589934592) : ∀ k : Nat, awF c k = wmF c k := by
  intro k
  induction k with
  | zero => rfl
  | succ k ih => rw [awF, wmF, ih, bc_eq (hc k)]
theorem hs_eq {c : Nat → Nat} (hc : ∀ k, c k < 8589934592) (ac re kn : Int32) (z : Int) : hs3 c ac re kn z = hm3 c ac re kn z := by rw [hs3, hm3, czm, awm hc]
theorem val_eq {x : Nat} (h : x < 8589934592) (b : Bool) : (if b = true then bc x % 2 else ((x &&& 1 : Nat) : Int)) = (if b = true then wt x 33 % 2 else zB (tb x 0)) := by rw [bc_eq h, and1_eq]
theorem sdm {c : Nat → Nat} (hc : ∀ k, c k < 8589934592) : ∀ k : Nat, sdF c k = sdmF c k := by
  intro k
  induction k with
  | zero => rfl
  | succ k ih => rw [sdF, sdmF, ih, bp_eq (hc k)]
theorem so_eq {c : Nat → Nat} (hc : ∀ k, c k < 8589934592) : so c = som c := by rw [so, som, sdm hc]; rfl
theorem dcm {c : Nat → Nat} (hc : ∀ k, c k < 8589934592) : ∀ k : Nat, dcF c k = dmF c k := by
  intro k
  induction k with
  | zero => rfl
  | succ k ih => rw [dcF, dmF, ih, dc1, dm1, bp_eq (hc k), bc_eq (hc k)]
theorem dom {c : Nat → Nat} (hc : ∀ k, c k < 8589934592) : ∀ k : Nat, doF c k = omF c k := by
  intro k
  induction k with
  | zero => exact dcm hc 6
  | succ k ih => rw [doF, omF, ih, od_eq]
theorem dhm {c : Nat → Nat} (hc : ∀ k, c k < 8589934592) (ac re kn : Int32) : ∀ k : Nat, dhF c ac re kn k = gmF c ac re kn k := by
  intro k
  induction k with
  | zero => exact dom hc 5
  | succ k ih => rw [dhF, gmF, ih, hs_eq hc]
theorem dgs_eq {c : Nat → Nat} (hc : ∀ k, c k < 8589934592) (ac re kn : Int32) : dgs c ac re kn = dgsm c ac re kn := by rw [dgs, dgsm, dhm hc, so_eq hc]
end QB
