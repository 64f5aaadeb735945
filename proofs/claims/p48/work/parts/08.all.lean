/-! ===== divisors ===== -/
section PO
theorem xor_same {a b : Nat} (h : a ^^^ b = 0) : a = b := by
  have h2 : (a ^^^ b) ^^^ b = b := by rw [h, Nat.zero_xor]
  rwa [Nat.xor_assoc, Nat.xor_self, Nat.xor_zero] at h2
theorem pmF_asc (a b c n : Nat) : ∀ k : Nat, pmF (pmF a b k) c n = pmF (pmF a c n) b k := by
  intro k
  induction k with
  | zero => exact pmF_0l c n
  | succ k ih =>
    cases h : b.testBit k with
    | true => rw [pmF_t h, pmF_t h, pmF_xl, pmF_sl, ih]
    | false => rw [pmF_f h, pmF_f h, ih]
theorem pmF_xr (a b b' : Nat) : ∀ n : Nat, pmF a (b ^^^ b') n = pmF a b n ^^^ pmF a b' n := by
  intro n
  induction n with
  | zero => exact (Nat.xor_self 0).symm
  | succ n ih =>
    cases h : b.testBit n with
    | true =>
      cases h' : b'.testBit n with
      | true =>
        have h2 : (b ^^^ b').testBit n = false := by rw [Nat.testBit_xor, h, h']; rfl
        rw [pmF_f h2, pmF_t h, pmF_t h', ih, x4, Nat.xor_self, Nat.xor_zero]
      | false =>
        have h2 : (b ^^^ b').testBit n = true := by rw [Nat.testBit_xor, h, h']; rfl
        rw [pmF_t h2, pmF_t h, pmF_f h', ih, Nat.xor_assoc, Nat.xor_assoc, Nat.xor_comm (a <<< n)]
    | false =>
      cases h' : b'.testBit n with
      | true =>
        have h2 : (b ^^^ b').testBit n = true := by rw [Nat.testBit_xor, h, h']; rfl
        rw [pmF_t h2, pmF_f h, pmF_t h', ih, Nat.xor_assoc]
      | false =>
        have h2 : (b ^^^ b').testBit n = false := by rw [Nat.testBit_xor, h, h']; rfl
        rw [pmF_f h2, pmF_f h, pmF_f h', ih]
/-- a product's degree -/
theorem pmF_deg {b z : Nat} (hz : z < 18446744073709551616) (hb : b ≠ 0) (hz0 : z ≠ 0) : tp b + tp z ≤ tp (pmF b z 64) := by
  have h1 : tp z = ((Nat.log2 z : Nat) : Int) := tp_pos hz0
  have h2 : tp b = ((Nat.log2 b : Nat) : Int) := tp_pos hb
  have hk := tp_rng hz
  generalize Nat.log2 z = k at h1
  generalize Nat.log2 b = d at h2
  have e1 : z >>> (k + 1) = 0 := tp_shr.mpr (by omega)
  rw [← pmF_64 e1 (by omega), pmF_t (tp_top h1)]
  have hb2 : b < 2 ^ (d + 1) := (tp_le (k := d)).mp (by omega)
  have h3 : (pmF b z k).testBit (d + k) = false := by
    refine Nat.testBit_lt_two_pow ?_
    cases k with
    | zero => exact Nat.two_pow_pos _
    | succ k =>
      have := pmF_bit2 (a := b) (b := z) k (d + 1) hb2
      rwa [show d + 1 + k = d + (k + 1) by omega] at this
  have h4 : (b <<< k).testBit (d + k) = true := by
    rw [Nat.testBit_shiftLeft, show d + k - k = d by omega, tp_top h2]
    simp
  have h5 : (pmF b z k ^^^ b <<< k).testBit (d + k) = true := by rw [Nat.testBit_xor, h3, h4]; rfl
  by_cases g : tp (pmF b z k ^^^ b <<< k) < ((d + k : Nat) : Int)
  · rw [tp_hi g] at h5
    exact absurd h5 (by decide)
  · omega
theorem rm_dvd {a b : Nat} (ha : a < 18446744073709551616) (hb : b < 18446744073709551616) (h0 : ¬ b = 0) (h : rm a b = 0) : a = pmF b (qo a b) 64 := by
  obtain ⟨-, h2, h3⟩ := qo_spec ha hb h0
  have e1 := tp_rng ha
  have e2 := tp_rng hb
  have e3 : ¬ tp b < 0 := fun g => h0 (tp_neg.mp g)
  rw [h, pmF_64 (shr_0.mpr h2) (by omega)] at h3
  exact xor_same h3.symm
theorem dvd_rm {a b q : Nat} (ha : a < 18446744073709551616) (hb : b < 18446744073709551616) (h0 : ¬ b = 0) (hq : q < 18446744073709551616) (h : a = pmF b q 64) : rm a b = 0 := by
  obtain ⟨h1, h2, h3⟩ := qo_spec ha hb h0
  have e1 := tp_rng ha
  have e2 := tp_rng hb
  have e3 : ¬ tp b < 0 := fun g => h0 (tp_neg.mp g)
  have h5 := qo_lt (a := a) (b := b) ha
  rw [pmF_64 (shr_0.mpr h2) (by omega)] at h3
  have h4 : rm a b = pmF b (q ^^^ qo a b) 64 := by rw [pmF_xr, ← h]; exact h3
  by_cases hz : q ^^^ qo a b = 0
  · rw [h4, hz, pmF_0r]
  · have h6 := pmF_deg (xor64 hq h5) h0 hz
    rw [← h4] at h6
    have h7 : ¬ tp (q ^^^ qo a b) < 0 := fun g => hz (tp_neg.mp g)
    omega
theorem rm_self {x : Nat} (hx : x < 18446744073709551616) (h0 : ¬ x = 0) : rm x x = 0 := by
  refine dvd_rm (q := 1) hx hx h0 (by omega) ?_
  rw [pmF_comm 64 64 x 1 hx (by omega), pmF_1l 64 hx]
theorem rm_tr {x b k : Nat} (hx : x < 512) (hb : b < 512) (hk : k < 512) (h0 : ¬ b = 0) (h1 : ¬ k = 0) (h : rm x b = 0) (h2 : rm (qo x b) k = 0) : rm x k = 0 := by
  have hq : qo x b < 512 := by
    by_cases g : qo x b = 0
    · omega
    · have e := qo_tp (a := x) (b := b) (by omega) (by omega) h0 g
      have e2 : ¬ tp b < 0 := fun g => h0 (tp_neg.mp g)
      have e3 := (tp_le (n := x) (k := 8)).mpr (by omega)
      exact (tp_le (n := qo x b) (k := 8)).mp (by omega)
  have hq2 : qo (qo x b) k < 512 := by
    by_cases g : qo (qo x b) k = 0
    · omega
    · have e := qo_tp (a := qo x b) (b := k) (by omega) (by omega) h1 g
      have e2 : ¬ tp k < 0 := fun g => h1 (tp_neg.mp g)
      have e3 := (tp_le (n := qo x b) (k := 8)).mpr (by omega)
      exact (tp_le (n := qo (qo x b) k) (k := 8)).mp (by omega)
  have hw : pmF (qo (qo x b) k) b 64 < 18446744073709551616 := by
    rw [← pmF_64 (k := 9) (shr_0.mpr (by omega)) (by omega)]
    exact Nat.lt_of_lt_of_le (pmF_bit 9 9 (by omega)) (by decide)
  refine dvd_rm (q := pmF (qo (qo x b) k) b 64) (by omega) (by omega) h1 hw ?_
  rw [pmF_comm 64 64 k _ (by omega) hw, pmF_asc, pmF_comm 64 64 _ k (by omega) (by omega), ← rm_dvd (by omega) (by omega) h1 h2, pmF_comm 64 64 _ b (by omega) (by omega)]
  exact rm_dvd (by omega) (by omega) h0 h
/-- nothing below b divides x -/
def nd (x b : Nat) : Prop := ∀ k : Nat, 2 ≤ k → k < b → ¬ rm x k = 0
theorem nd_2 (x : Nat) : nd x 2 := fun k h1 h2 => absurd h2 (by omega)
theorem nd_s {x b b2 : Nat} (h : nd x b) (h2 : ¬ rm x b = 0) (e : b2 = b + 1) : nd x b2 := by
  subst e
  intro k g1 g2
  by_cases g : k = b
  · rw [g]; exact h2
  · exact h k g1 (by omega)
theorem nd_le {x b : Nat} (h : nd x b) (hx : x < 512) (h2 : 2 ≤ x) : b ≤ x := by
  refine Nat.le_of_not_lt fun g => ?_
  exact h x h2 g (rm_self (by omega) (by omega))
theorem nd_q {x b : Nat} (hx : x < 512) (h2 : 2 ≤ x) (hb : 2 ≤ b) (h : nd x b) (h0 : rm x b = 0) : nd (qo x b) b := by
  intro k g1 g2 g3
  have := nd_le h hx h2
  exact h k g1 g2 (rm_tr hx (by omega) (by omega) (by omega) (by omega) h0 g3)
theorem rm1_ne {b : Nat} (h1 : 2 ≤ b) (h2 : b ≤ 512) : ¬ rm 1 b = 0 := by
  intro h
  have h3 := rm_dvd (a := 1) (b := b) (by omega) (by omega) (by omega) h
  by_cases g : qo 1 b = 0
  · rw [g, pmF_0r] at h3
    exact absurd h3 (by omega)
  · have e := qo_tp (a := 1) (b := b) (by omega) (by omega) (by omega) g
    have e2 := tp_2 h1
    have e3 : tp 1 = 0 := rfl
    have e4 : ¬ tp (qo 1 b) < 0 := fun z => g (tp_neg.mp z)
    omega
theorem qo_1 {x b : Nat} (hx : x < 512) (h1 : 1 ≤ x) (hb : 2 ≤ b) (hb2 : b ≤ 512) (h : rm x b = 0) : 1 ≤ qo x b := by
  refine Nat.pos_of_ne_zero fun g => ?_
  have h3 := rm_dvd (a := x) (b := b) (by omega) (by omega) (by omega) h
  rw [g, pmF_0r] at h3
  omega
theorem tp_div {x r : Nat} (hx : 0 < x) (hr : 2 ≤ r) : tp (x / r) + 1 ≤ tp x := by
  have h1 : tp x = ((Nat.log2 x : Nat) : Int) := tp_pos (by omega)
  generalize Nat.log2 x = k at h1
  have h2 : x < 2 ^ (k + 1) := (tp_le (k := k)).mp (by omega)
  have h3 : x / r < 2 ^ k := by
    have h4 : x / r ≤ x / 2 := Nat.div_le_div_left hr (by omega)
    rw [Nat.pow_succ] at h2
    omega
  have := (tp_lt (k := k)).mpr h3
  omega
theorem msv_sg {d : Int} (h : 1 ≤ d ∧ d ≤ 8) : msv d.toNat = sg d := by
  have hc : d = 1 ∨ d = 2 ∨ d = 3 ∨ d = 4 ∨ d = 5 ∨ d = 6 ∨ d = 7 ∨ d = 8 := by omega
  rcases hc with rfl | rfl | rfl | rfl | rfl | rfl | rfl | rfl <;> rfl
end PO
section MT
set_option maxHeartbeats 4000000 in
set_option maxRecDepth 100000 in
theorem c_X3_text (l : Launch) (D : va_G) (cB cJ : ClassId) (o a : Nat) (c : Nat → Nat) (ac : Int32) (re : Int32) (kn : Int32) (z : Int) (hz : 0 ≤ z ∧ z ≤ 5) : zAV l yX3_text 7 209 72 34864 D cB 2 cJ o a [.int (iZ (z))] c [.int (ac), .int (re), .int (kn)] (fun v => ∃ q, v = some (.ref q)) (c) [.int (ac), .int (re), .int (kn)] := by
  refine zAV.intro (lo := 188) (nA := 1) (own := RX3) zi_X3_text (by decide) rfl rfl (by decide +kernel) rfl (Nat.le_of_ble_eq_true rfl) ?_
  intro p e s m below meth c0 ls C hr hk B K V hl
  have hl : lv_has ls 2 [(0, .ref o), (1, .int (iZ (z)))] := hl
  have ho9 := B.1.lt
  have hA : ∀ q, s.heap.size ≤ q → zF o a s.heap.size q := fun _ h => Or.inr (Or.inr h)
  refine lv_aload_n C.1 C.2.1 dX3_text_0 rfl (lv_at hl 0 rfl) ?_
  refine lv_iload_n C.1 C.2.1 dX3_text_1 rfl (lv_at hl 1 rfl) ?_
  refine zo_callD C B (r := some (.long (lN ((c) (z).toNat)))) (c_X3_polyIn l D cJ o a (c) (ac) (re) (kn) (z) (by first | assumption | omega | rfl | exact decide_eq_false (by omega) | exact decide_eq_true (by assumption) | exact decide_eq_true (by omega) | exact one_shl33 (by omega) | exact pm_lt _ _ | exact rm_lt (by first | assumption | exact pm_lt _ _) | exact Nat.lt_of_le_of_lt (Nat.shiftRight_le _ _) (by assumption) | exact Nat.lt_of_le_of_lt Nat.and_le_right (by omega))) ml_X3_43 rfl ⟨Nat.le_of_ble_eq_true rfl, Nat.le_of_ble_eq_true rfl⟩ ⟨Nat.le_of_ble_eq_true rfl, Nat.le_of_ble_eq_true rfl⟩ hl (Nat.le_of_ble_eq_true rfl) rfl dX3_text_2 (fun H locs B => ?_)
  have q2_0 := B.1.2.2.2 ((z)).toNat
  refine zo_callT C B K V ho9 (c_X2_placesOf l D cB ((c) (z).toNat) (by first | assumption | omega | rfl | exact decide_eq_false (by omega) | exact decide_eq_true (by assumption) | exact decide_eq_true (by omega) | exact one_shl33 (by omega) | exact pm_lt _ _ | exact rm_lt (by first | assumption | exact pm_lt _ _) | exact Nat.lt_of_le_of_lt (Nat.shiftRight_le _ _) (by assumption) | exact Nat.lt_of_le_of_lt Nat.and_le_right (by omega))) ml_X3_130 ⟨Nat.le_of_ble_eq_true rfl, Nat.le_of_ble_eq_true rfl⟩ ⟨Nat.le_of_ble_eq_true rfl, Nat.le_of_ble_eq_true rfl⟩ hl (Nat.le_of_ble_eq_true rfl) rfl dX3_text_5 (fun q H locs B => ?_)
  exact zo_aret C B hr hk (Nat.le_of_ble_eq_true rfl) (Nat.le_of_ble_eq_true rfl) dX3_text_8 ⟨_, rfl⟩ rfl rfl

set_option maxHeartbeats 4000000 in
set_option maxRecDepth 100000 in
theorem c_X3_code (l : Launch) (D : va_G) (cB cJ : ClassId) (o a : Nat) (c : Nat → Nat) (ac : Int32) (re : Int32) (kn : Int32) (z : Int) (r : Int) (hz : 0 ≤ z ∧ z ≤ 5) (hr0 : 2 ≤ r ∧ r ≤ 36) : zAV l yX3_code 7 215 70 33900 D cB 2 cJ o a [.int (iZ (z)), .int (iZ (r))] c [.int (ac), .int (re), .int (kn)] (fun v => ∃ q, v = some (.ref q)) (c) [.int (ac), .int (re), .int (kn)] := by
  refine zAV.intro (lo := 191) (nA := 2) (own := RX3) zi_X3_code (by decide) rfl rfl (by decide +kernel) rfl (Nat.le_of_ble_eq_true rfl) ?_
  intro p e s m below meth c0 ls C hr hk B K V hl
  have hl : lv_has ls 5 [(0, .ref o), (1, .int (iZ (z))), (2, .int (iZ (r)))] := hl
  have ho9 := B.1.lt
  have hA : ∀ q, s.heap.size ≤ q → zF o a s.heap.size q := fun _ h => Or.inr (Or.inr h)
  refine lv_aload_n C.1 C.2.1 dX3_code_0 rfl (lv_at hl 0 rfl) ?_
  refine lv_iload_n C.1 C.2.1 dX3_code_1 rfl (lv_at hl 1 rfl) ?_
  refine zo_callD C B (r := some (.long (lN ((c) (z).toNat)))) (c_X3_polyIn l D cJ o a (c) (ac) (re) (kn) (z) (by first | assumption | omega | rfl | exact decide_eq_false (by omega) | exact decide_eq_true (by assumption) | exact decide_eq_true (by omega) | exact one_shl33 (by omega) | exact pm_lt _ _ | exact rm_lt (by first | assumption | exact pm_lt _ _) | exact Nat.lt_of_le_of_lt (Nat.shiftRight_le _ _) (by assumption) | exact Nat.lt_of_le_of_lt Nat.and_le_right (by omega))) ml_X3_43 rfl ⟨Nat.le_of_ble_eq_true rfl, Nat.le_of_ble_eq_true rfl⟩ ⟨Nat.le_of_ble_eq_true rfl, Nat.le_of_ble_eq_true rfl⟩ hl (Nat.le_of_ble_eq_true rfl) rfl dX3_code_2 (fun H locs B => ?_)
  have q2_0 := B.1.2.2.2 ((z)).toNat
  refine lv_lstore_n (lv' := [(3, .long (lN ((c) (z).toNat))), (0, .ref o), (1, .int (iZ (z))), (2, .int (iZ (r)))]) C.1 C.2.1 dX3_code_5 rfl hl (by decide) rfl (fun ls hl => ?_)
  refine lv_iload_n C.1 C.2.1 dX3_code_6 rfl (lv_at hl 3 rfl) ?_
  refine z_iconst C dX3_code_7 ?_
  refine z_bipush C dX3_code_8 (by decide) ?_
  refine z_callv C (c_X3_checkRange l (r) (2 : Int) (36 : Int) (by first | assumption | omega | rfl | exact decide_eq_false (by omega) | exact decide_eq_true (by assumption) | exact decide_eq_true (by omega) | exact one_shl33 (by omega) | exact pm_lt _ _ | exact rm_lt (by first | assumption | exact pm_lt _ _) | exact Nat.lt_of_le_of_lt (Nat.shiftRight_le _ _) (by assumption) | exact Nat.lt_of_le_of_lt Nat.and_le_right (by omega))) ml_X3_33 ⟨by decide, by decide⟩ ⟨Nat.le_of_ble_eq_true rfl, Nat.le_of_ble_eq_true rfl⟩ hl (Nat.le_of_ble_eq_true rfl) rfl dX3_code_10 ?_
  refine lv_lload_n C.1 C.2.1 dX3_code_13 rfl (lv_at hl 0 rfl) ?_
  refine lv_iload_n C.1 C.2.1 dX3_code_14 rfl (lv_at hl 3 rfl) ?_
  refine zo_callT C B K V ho9 (c_X2_numberIn l D cB ((c) (z).toNat) (r) (by first | assumption | omega | rfl | exact decide_eq_false (by omega) | exact decide_eq_true (by assumption) | exact decide_eq_true (by omega) | exact one_shl33 (by omega) | exact pm_lt _ _ | exact rm_lt (by first | assumption | exact pm_lt _ _) | exact Nat.lt_of_le_of_lt (Nat.shiftRight_le _ _) (by assumption) | exact Nat.lt_of_le_of_lt Nat.and_le_right (by omega)) (by first | assumption | omega | rfl | exact decide_eq_false (by omega) | exact decide_eq_true (by assumption) | exact decide_eq_true (by omega) | exact one_shl33 (by omega) | exact pm_lt _ _ | exact rm_lt (by first | assumption | exact pm_lt _ _) | exact Nat.lt_of_le_of_lt (Nat.shiftRight_le _ _) (by assumption) | exact Nat.lt_of_le_of_lt Nat.and_le_right (by omega))) ml_X3_136 ⟨Nat.le_of_ble_eq_true rfl, Nat.le_of_ble_eq_true rfl⟩ ⟨Nat.le_of_ble_eq_true rfl, Nat.le_of_ble_eq_true rfl⟩ hl (Nat.le_of_ble_eq_true rfl) rfl dX3_code_15 (fun q H locs B => ?_)
  exact zo_aret C B hr hk (Nat.le_of_ble_eq_true rfl) (Nat.le_of_ble_eq_true rfl) dX3_code_18 ⟨_, rfl⟩ rfl rfl

set_option maxHeartbeats 4000000 in
set_option maxRecDepth 100000 in
theorem c_X3_factors_ok (l : Launch) (D : va_G) (cB cJ : ClassId) (o a : Nat) (c : Nat → Nat) (ac : Int32) (re : Int32) (kn : Int32) (z : Int) (hz : 0 ≤ z ∧ z ≤ 5) (hg : 0 ≤ tp (c z.toNat) ∧ tp (c z.toNat) ≤ 8) : zAV l yX3_factors 7 214 24 10000 D cB 2 cJ o a [.int (iZ (z))] c [.int (ac), .int (re), .int (kn)] (fun v => ∃ q, v = some (.ref q)) (c) [.int (ac), .int (re), .int (kn)] := by
  refine zAV.intro (lo := 191) (nA := 1) (own := RX3) zi_X3_factors (by decide) rfl rfl (by decide +kernel) rfl (Nat.le_of_ble_eq_true rfl) ?_
  intro p e s m below meth c0 ls C hr hk B K V hl
  have hl : lv_has ls 4 [(0, .ref o), (1, .int (iZ (z)))] := hl
  have ho9 := B.1.lt
  have hA : ∀ q, s.heap.size ≤ q → zF o a s.heap.size q := fun _ h => Or.inr (Or.inr h)
  refine lv_aload_n C.1 C.2.1 dX3_factors_0 rfl (lv_at hl 0 rfl) ?_
  refine lv_iload_n C.1 C.2.1 dX3_factors_1 rfl (lv_at hl 1 rfl) ?_
  refine zo_callD C B (r := some (.long (lN ((c) (z).toNat)))) (c_X3_polyIn l D cJ o a (c) (ac) (re) (kn) (z) (by first | assumption | omega | rfl | exact decide_eq_false (by omega) | exact decide_eq_true (by assumption) | exact decide_eq_true (by omega) | exact one_shl33 (by omega) | exact pm_lt _ _ | exact rm_lt (by first | assumption | exact pm_lt _ _) | exact Nat.lt_of_le_of_lt (Nat.shiftRight_le _ _) (by assumption) | exact Nat.lt_of_le_of_lt Nat.and_le_right (by omega))) ml_X3_43 rfl ⟨Nat.le_of_ble_eq_true rfl, Nat.le_of_ble_eq_true rfl⟩ ⟨Nat.le_of_ble_eq_true rfl, Nat.le_of_ble_eq_true rfl⟩ hl (Nat.le_of_ble_eq_true rfl) rfl dX3_factors_2 (fun H locs B => ?_)
  have q2_0 := B.1.2.2.2 ((z)).toNat
  refine lv_lstore_n (lv' := [(2, .long (lN ((c) (z).toNat))), (0, .ref o), (1, .int (iZ (z)))]) C.1 C.2.1 dX3_factors_5 rfl hl (by decide) rfl (fun ls hl => ?_)
  refine lv_lload_n C.1 C.2.1 dX3_factors_6 rfl (lv_at hl 0 rfl) ?_
  refine z_iconst C dX3_factors_7 ?_
  refine z_bipush C dX3_factors_8 (by decide) ?_
  refine z_call C (c_X3_hasDegreeIn l ((c) (z).toNat) (0 : Int) (8 : Int) (by first | assumption | omega | rfl | exact decide_eq_false (by omega) | exact decide_eq_true (by assumption) | exact decide_eq_true (by omega) | exact one_shl33 (by omega) | exact pm_lt _ _ | exact rm_lt (by first | assumption | exact pm_lt _ _) | exact Nat.lt_of_le_of_lt (Nat.shiftRight_le _ _) (by assumption) | exact Nat.lt_of_le_of_lt Nat.and_le_right (by omega)) (by first | assumption | omega | rfl | exact decide_eq_false (by omega) | exact decide_eq_true (by assumption) | exact decide_eq_true (by omega) | exact one_shl33 (by omega) | exact pm_lt _ _ | exact rm_lt (by first | assumption | exact pm_lt _ _) | exact Nat.lt_of_le_of_lt (Nat.shiftRight_le _ _) (by assumption) | exact Nat.lt_of_le_of_lt Nat.and_le_right (by omega))) ml_X3_105 ⟨by decide, by decide⟩ ⟨Nat.le_of_ble_eq_true rfl, Nat.le_of_ble_eq_true rfl⟩ hl (Nat.le_of_ble_eq_true rfl) rfl dX3_factors_10 ?_
  refine z_ifB_ne (tgt := 24) C dX3_factors_13 (by decide) (fun h13 => ?_) (fun h13 => ?_)
  · have e9 := (tp_le (n := c z.toNat) (k := 8)).mp (by omega)
    have e8 : ¬ c z.toNat = 0 := fun g => absurd (tp_neg.mpr g) (by omega)
    refine lv_lload_n C.1 C.2.1 dX3_factors_24 rfl (lv_at hl 0 rfl) ?_
    refine zo_callT C B K V ho9 (c_X0_factorsOf l D cB ((c) (z).toNat) (by first | assumption | omega | rfl | exact decide_eq_false (by omega) | exact decide_eq_true (by assumption) | exact decide_eq_true (by omega) | exact one_shl33 (by omega) | exact pm_lt _ _ | exact rm_lt (by first | assumption | exact pm_lt _ _) | exact Nat.lt_of_le_of_lt (Nat.shiftRight_le _ _) (by assumption) | exact Nat.lt_of_le_of_lt Nat.and_le_right (by omega))) ml_X3_153 ⟨Nat.le_of_ble_eq_true rfl, Nat.le_of_ble_eq_true rfl⟩ ⟨Nat.le_of_ble_eq_true rfl, Nat.le_of_ble_eq_true rfl⟩ hl (Nat.le_of_ble_eq_true rfl) rfl dX3_factors_25 (fun q H locs B => ?_)
    exact zo_aret C B hr hk (Nat.le_of_ble_eq_true rfl) (Nat.le_of_ble_eq_true rfl) dX3_factors_28 ⟨_, rfl⟩ rfl rfl
  · exact absurd (of_decide_eq_false h13) (not_not_intro hg)

set_option maxHeartbeats 4000000 in
set_option maxRecDepth 100000 in
theorem c_X3_factors_no (l : Launch) (D : va_G) (cB cJ : ClassId) (o a : Nat) (c : Nat → Nat) (ac : Int32) (re : Int32) (kn : Int32) (z : Int) (hz : 0 ≤ z ∧ z ≤ 5) (hg : ¬ (0 ≤ tp (c z.toNat) ∧ tp (c z.toNat) ≤ 8)) : zAV l yX3_factors 2 70 24 10000 D cB 2 cJ o a [.int (iZ (z))] c [.int (ac), .int (re), .int (kn)] (fun v => ∃ q, v = some (.ref q)) (c) [.int (ac), .int (aF re none), .int (kn)] := by
  refine zAV.intro (lo := 47) (nA := 1) (own := RX3) zi_X3_factors (by decide) rfl rfl (by decide +kernel) rfl (Nat.le_of_ble_eq_true rfl) ?_
  intro p e s m below meth c0 ls C hr hk B K V hl
  have hl : lv_has ls 4 [(0, .ref o), (1, .int (iZ (z)))] := hl
  have ho9 := B.1.lt
  have hA : ∀ q, s.heap.size ≤ q → zF o a s.heap.size q := fun _ h => Or.inr (Or.inr h)
  refine lv_aload_n C.1 C.2.1 dX3_factors_0 rfl (lv_at hl 0 rfl) ?_
  refine lv_iload_n C.1 C.2.1 dX3_factors_1 rfl (lv_at hl 1 rfl) ?_
  refine zo_callD C B (r := some (.long (lN ((c) (z).toNat)))) (c_X3_polyIn l D cJ o a (c) (ac) (re) (kn) (z) (by first | assumption | omega | rfl | exact decide_eq_false (by omega) | exact decide_eq_true (by assumption) | exact decide_eq_true (by omega) | exact one_shl33 (by omega) | exact pm_lt _ _ | exact rm_lt (by first | assumption | exact pm_lt _ _) | exact Nat.lt_of_le_of_lt (Nat.shiftRight_le _ _) (by assumption) | exact Nat.lt_of_le_of_lt Nat.and_le_right (by omega))) ml_X3_43 rfl ⟨Nat.le_of_ble_eq_true rfl, Nat.le_of_ble_eq_true rfl⟩ ⟨Nat.le_of_ble_eq_true rfl, Nat.le_of_ble_eq_true rfl⟩ hl (Nat.le_of_ble_eq_true rfl) rfl dX3_factors_2 (fun H locs B => ?_)
  have q2_0 := B.1.2.2.2 ((z)).toNat
  refine lv_lstore_n (lv' := [(2, .long (lN ((c) (z).toNat))), (0, .ref o), (1, .int (iZ (z)))]) C.1 C.2.1 dX3_factors_5 rfl hl (by decide) rfl (fun ls hl => ?_)
  refine lv_lload_n C.1 C.2.1 dX3_factors_6 rfl (lv_at hl 0 rfl) ?_
  refine z_iconst C dX3_factors_7 ?_
  refine z_bipush C dX3_factors_8 (by decide) ?_
  refine z_call C (c_X3_hasDegreeIn l ((c) (z).toNat) (0 : Int) (8 : Int) (by first | assumption | omega | rfl | exact decide_eq_false (by omega) | exact decide_eq_true (by assumption) | exact decide_eq_true (by omega) | exact one_shl33 (by omega) | exact pm_lt _ _ | exact rm_lt (by first | assumption | exact pm_lt _ _) | exact Nat.lt_of_le_of_lt (Nat.shiftRight_le _ _) (by assumption) | exact Nat.lt_of_le_of_lt Nat.and_le_right (by omega)) (by first | assumption | omega | rfl | exact decide_eq_false (by omega) | exact decide_eq_true (by assumption) | exact decide_eq_true (by omega) | exact one_shl33 (by omega) | exact pm_lt _ _ | exact rm_lt (by first | assumption | exact pm_lt _ _) | exact Nat.lt_of_le_of_lt (Nat.shiftRight_le _ _) (by assumption) | exact Nat.lt_of_le_of_lt Nat.and_le_right (by omega))) ml_X3_105 ⟨by decide, by decide⟩ ⟨Nat.le_of_ble_eq_true rfl, Nat.le_of_ble_eq_true rfl⟩ hl (Nat.le_of_ble_eq_true rfl) rfl dX3_factors_10 ?_
  refine z_ifB_ne (tgt := 24) C dX3_factors_13 (by decide) (fun h13 => ?_) (fun h13 => ?_)
  · exact absurd (of_decide_eq_true h13) hg
  · refine lv_aload_n C.1 C.2.1 dX3_factors_16 rfl (lv_at hl 1 rfl) ?_
    refine zo_callD C B (r := some (.int (iZ (-9)))) (c_X3_refuse l D cJ o a (c) ((ac)) ((re)) ((kn))  ) ml_X3_73 rfl ⟨Nat.le_of_ble_eq_true rfl, Nat.le_of_ble_eq_true rfl⟩ ⟨Nat.le_of_ble_eq_true rfl, Nat.le_of_ble_eq_true rfl⟩ hl (Nat.le_of_ble_eq_true rfl) rfl dX3_factors_17 (fun H locs B => ?_)
    refine lv_pop C.1 C.2.1 dX3_factors_20 rfl ?_
    refine zt_ldc C V.t.2.2.1 dX3_factors_21 (fun q => ?_)
    exact zo_aret C B hr hk (Nat.le_of_ble_eq_true rfl) (Nat.le_of_ble_eq_true rfl) dX3_factors_23 ⟨_, rfl⟩ rfl rfl

set_option maxHeartbeats 4000000 in
set_option maxRecDepth 100000 in
theorem c_X5_text_bad1 (l : Launch) (D : va_G) (cB cJ : ClassId) (o a : Nat) (c : Nat → Nat) (th : Int) (ac : Int32) (re : Int32) (kn : Int32) (z : Int) (r9z : -2147483648 ≤ z ∧ z ≤ 2147483647) (hbad : ¬ (0 ≤ z ∧ z ≤ 5)) : zAV l yX5_text 2 67 0 0 D cB 4 cJ o a [.int (iZ (z))] c [.int (iZ (th)), .int (ac), .int (re), .int (kn)] (fun v => ∃ q, v = some (.ref q)) (c) [.int (iZ (1)), .int (ac), .int (re), .int (kn)] := by
  refine zAV.intro (lo := 44) (nA := 1) (own := RX5) zi_X5_text (by decide) rfl rfl (by decide +kernel) rfl (Nat.le_of_ble_eq_true rfl) ?_
  intro p e s m below meth c0 ls C hr hk B K V hl
  have hl : lv_has ls 4 [(0, .ref o), (1, .int (iZ (z)))] := hl
  have ho9 := B.1.lt
  have hA : ∀ q, s.heap.size ≤ q → zF o a s.heap.size q := fun _ h => Or.inr (Or.inr h)
  refine lv_aload_n C.1 C.2.1 dX5_text_0 rfl (lv_at hl 0 rfl) ?_
  refine lv_iload_n C.1 C.2.1 dX5_text_1 rfl (lv_at hl 1 rfl) ?_
  refine z_call C (c_X5_isNo l (z) (by first | assumption | omega | rfl | exact decide_eq_false (by omega) | exact decide_eq_true (by assumption) | exact decide_eq_true (by omega) | exact one_shl33 (by omega) | exact pm_lt _ _ | exact rm_lt (by first | assumption | exact pm_lt _ _) | exact Nat.lt_of_le_of_lt (Nat.shiftRight_le _ _) (by assumption) | exact Nat.lt_of_le_of_lt Nat.and_le_right (by omega))) ml_X5_67 ⟨by decide, by decide⟩ ⟨Nat.le_of_ble_eq_true rfl, Nat.le_of_ble_eq_true rfl⟩ hl (Nat.le_of_ble_eq_true rfl) rfl dX5_text_2 ?_
  refine z_iconst C dX5_text_5 ?_
  refine zo_callD C B (r := some (.int (iZ (zB (true))))) (c_X5_start_bad l D cJ o a (c) (th) (ac) (re) (kn) (decide (¬ (0 ≤ (z) ∧ (z) ≤ 5))) (1 : Int) (by first | assumption | omega | rfl | exact decide_eq_false (by omega) | exact decide_eq_true (by assumption) | exact decide_eq_true (by omega) | exact one_shl33 (by omega) | exact pm_lt _ _ | exact rm_lt (by first | assumption | exact pm_lt _ _) | exact Nat.lt_of_le_of_lt (Nat.shiftRight_le _ _) (by assumption) | exact Nat.lt_of_le_of_lt Nat.and_le_right (by omega)) (by first | assumption | omega | rfl | exact decide_eq_false (by omega) | exact decide_eq_true (by assumption) | exact decide_eq_true (by omega) | exact one_shl33 (by omega) | exact pm_lt _ _ | exact rm_lt (by first | assumption | exact pm_lt _ _) | exact Nat.lt_of_le_of_lt (Nat.shiftRight_le _ _) (by assumption) | exact Nat.lt_of_le_of_lt Nat.and_le_right (by omega))) ml_X5_71 rfl ⟨Nat.le_of_ble_eq_true rfl, Nat.le_of_ble_eq_true rfl⟩ ⟨Nat.le_of_ble_eq_true rfl, Nat.le_of_ble_eq_true rfl⟩ hl (Nat.le_of_ble_eq_true rfl) rfl dX5_text_6 (fun H locs B => ?_)
  refine z_ifB_eq (tgt := 15) C dX5_text_9 (by decide) (fun h9 => ?_) (fun h9 => ?_)
  · exact absurd h9 (by decide)
  · refine zt_ldc C V.t.2.2.2.1 dX5_text_12 (fun q => ?_)
    exact zo_aret C B hr hk (Nat.le_of_ble_eq_true rfl) (Nat.le_of_ble_eq_true rfl) dX5_text_14 ⟨_, rfl⟩ rfl rfl

set_option maxHeartbeats 4000000 in
set_option maxRecDepth 100000 in
theorem c_X5_code_bad1 (l : Launch) (D : va_G) (cB cJ : ClassId) (o a : Nat) (c : Nat → Nat) (th : Int) (ac : Int32) (re : Int32) (kn : Int32) (z : Int) (r : Int) (r9z : -2147483648 ≤ z ∧ z ≤ 2147483647) (r9r : -2147483648 ≤ r ∧ r ≤ 2147483647) (hbad : ¬ (0 ≤ z ∧ z ≤ 5)) : zAV l yX5_code 2 69 0 0 D cB 4 cJ o a [.int (iZ (z)), .int (iZ (r))] c [.int (iZ (th)), .int (ac), .int (re), .int (kn)] (fun v => ∃ q, v = some (.ref q)) (c) [.int (iZ (1)), .int (ac), .int (re), .int (kn)] := by
  refine zAV.intro (lo := 44) (nA := 2) (own := RX5) zi_X5_code (by decide) rfl rfl (by decide +kernel) rfl (Nat.le_of_ble_eq_true rfl) ?_
  intro p e s m below meth c0 ls C hr hk B K V hl
  have hl : lv_has ls 6 [(0, .ref o), (1, .int (iZ (z))), (2, .int (iZ (r)))] := hl
  have ho9 := B.1.lt
  have hA : ∀ q, s.heap.size ≤ q → zF o a s.heap.size q := fun _ h => Or.inr (Or.inr h)
  refine lv_aload_n C.1 C.2.1 dX5_code_0 rfl (lv_at hl 0 rfl) ?_
  refine lv_iload_n C.1 C.2.1 dX5_code_1 rfl (lv_at hl 1 rfl) ?_
  refine z_call C (c_X5_isNo l (z) (by first | assumption | omega | rfl | exact decide_eq_false (by omega) | exact decide_eq_true (by assumption) | exact decide_eq_true (by omega) | exact one_shl33 (by omega) | exact pm_lt _ _ | exact rm_lt (by first | assumption | exact pm_lt _ _) | exact Nat.lt_of_le_of_lt (Nat.shiftRight_le _ _) (by assumption) | exact Nat.lt_of_le_of_lt Nat.and_le_right (by omega))) ml_X5_67 ⟨by decide, by decide⟩ ⟨Nat.le_of_ble_eq_true rfl, Nat.le_of_ble_eq_true rfl⟩ hl (Nat.le_of_ble_eq_true rfl) rfl dX5_code_2 ?_
  refine z_iconst C dX5_code_5 ?_
  refine zo_callD C B (r := some (.int (iZ (zB (true))))) (c_X5_start_bad l D cJ o a (c) (th) (ac) (re) (kn) (decide (¬ (0 ≤ (z) ∧ (z) ≤ 5))) (1 : Int) (by first | assumption | omega | rfl | exact decide_eq_false (by omega) | exact decide_eq_true (by assumption) | exact decide_eq_true (by omega) | exact one_shl33 (by omega) | exact pm_lt _ _ | exact rm_lt (by first | assumption | exact pm_lt _ _) | exact Nat.lt_of_le_of_lt (Nat.shiftRight_le _ _) (by assumption) | exact Nat.lt_of_le_of_lt Nat.and_le_right (by omega)) (by first | assumption | omega | rfl | exact decide_eq_false (by omega) | exact decide_eq_true (by assumption) | exact decide_eq_true (by omega) | exact one_shl33 (by omega) | exact pm_lt _ _ | exact rm_lt (by first | assumption | exact pm_lt _ _) | exact Nat.lt_of_le_of_lt (Nat.shiftRight_le _ _) (by assumption) | exact Nat.lt_of_le_of_lt Nat.and_le_right (by omega))) ml_X5_71 rfl ⟨Nat.le_of_ble_eq_true rfl, Nat.le_of_ble_eq_true rfl⟩ ⟨Nat.le_of_ble_eq_true rfl, Nat.le_of_ble_eq_true rfl⟩ hl (Nat.le_of_ble_eq_true rfl) rfl dX5_code_6 (fun H locs B => ?_)
  refine z_ifB_ne (tgt := 35) C dX5_code_9 (by decide) (fun h9 => ?_) (fun h9 => ?_)
  · refine zt_ldc C V.t.2.2.2.1 dX5_code_35 (fun q => ?_)
    exact zo_aret C B hr hk (Nat.le_of_ble_eq_true rfl) (Nat.le_of_ble_eq_true rfl) dX5_code_37 ⟨_, rfl⟩ rfl rfl
  · exact absurd h9 (by decide)

set_option maxHeartbeats 4000000 in
set_option maxRecDepth 100000 in
theorem c_X5_factors_bad1 (l : Launch) (D : va_G) (cB cJ : ClassId) (o a : Nat) (c : Nat → Nat) (th : Int) (ac : Int32) (re : Int32) (kn : Int32) (z : Int) (r9z : -2147483648 ≤ z ∧ z ≤ 2147483647) (hbad : ¬ (0 ≤ z ∧ z ≤ 5)) : zAV l yX5_factors 2 69 0 0 D cB 4 cJ o a [.int (iZ (z))] c [.int (iZ (th)), .int (ac), .int (re), .int (kn)] (fun v => ∃ q, v = some (.ref q)) (c) [.int (iZ (1)), .int (ac), .int (re), .int (kn)] := by
  refine zAV.intro (lo := 44) (nA := 1) (own := RX5) zi_X5_factors (by decide) rfl rfl (by decide +kernel) rfl (Nat.le_of_ble_eq_true rfl) ?_
  intro p e s m below meth c0 ls C hr hk B K V hl
  have hl : lv_has ls 6 [(0, .ref o), (1, .int (iZ (z)))] := hl
  have ho9 := B.1.lt
  have hA : ∀ q, s.heap.size ≤ q → zF o a s.heap.size q := fun _ h => Or.inr (Or.inr h)
  refine lv_aload_n C.1 C.2.1 dX5_factors_0 rfl (lv_at hl 0 rfl) ?_
  refine lv_iload_n C.1 C.2.1 dX5_factors_1 rfl (lv_at hl 1 rfl) ?_
  refine z_call C (c_X5_isNo l (z) (by first | assumption | omega | rfl | exact decide_eq_false (by omega) | exact decide_eq_true (by assumption) | exact decide_eq_true (by omega) | exact one_shl33 (by omega) | exact pm_lt _ _ | exact rm_lt (by first | assumption | exact pm_lt _ _) | exact Nat.lt_of_le_of_lt (Nat.shiftRight_le _ _) (by assumption) | exact Nat.lt_of_le_of_lt Nat.and_le_right (by omega))) ml_X5_67 ⟨by decide, by decide⟩ ⟨Nat.le_of_ble_eq_true rfl, Nat.le_of_ble_eq_true rfl⟩ hl (Nat.le_of_ble_eq_true rfl) rfl dX5_factors_2 ?_
  refine z_iconst C dX5_factors_5 ?_
  refine zo_callD C B (r := some (.int (iZ (zB (true))))) (c_X5_start_bad l D cJ o a (c) (th) (ac) (re) (kn) (decide (¬ (0 ≤ (z) ∧ (z) ≤ 5))) (1 : Int) (by first | assumption | omega | rfl | exact decide_eq_false (by omega) | exact decide_eq_true (by assumption) | exact decide_eq_true (by omega) | exact one_shl33 (by omega) | exact pm_lt _ _ | exact rm_lt (by first | assumption | exact pm_lt _ _) | exact Nat.lt_of_le_of_lt (Nat.shiftRight_le _ _) (by assumption) | exact Nat.lt_of_le_of_lt Nat.and_le_right (by omega)) (by first | assumption | omega | rfl | exact decide_eq_false (by omega) | exact decide_eq_true (by assumption) | exact decide_eq_true (by omega) | exact one_shl33 (by omega) | exact pm_lt _ _ | exact rm_lt (by first | assumption | exact pm_lt _ _) | exact Nat.lt_of_le_of_lt (Nat.shiftRight_le _ _) (by assumption) | exact Nat.lt_of_le_of_lt Nat.and_le_right (by omega))) ml_X5_71 rfl ⟨Nat.le_of_ble_eq_true rfl, Nat.le_of_ble_eq_true rfl⟩ ⟨Nat.le_of_ble_eq_true rfl, Nat.le_of_ble_eq_true rfl⟩ hl (Nat.le_of_ble_eq_true rfl) rfl dX5_factors_6 (fun H locs B => ?_)
  refine z_ifB_eq (tgt := 15) C dX5_factors_9 (by decide) (fun h9 => ?_) (fun h9 => ?_)
  · exact absurd h9 (by decide)
  · refine zt_ldc C V.t.2.2.2.1 dX5_factors_12 (fun q => ?_)
    exact zo_aret C B hr hk (Nat.le_of_ble_eq_true rfl) (Nat.le_of_ble_eq_true rfl) dX5_factors_14 ⟨_, rfl⟩ rfl rfl

set_option maxHeartbeats 4000000 in
set_option maxRecDepth 100000 in
theorem c_X5_code_bad2 (l : Launch) (D : va_G) (cB cJ : ClassId) (o a : Nat) (c : Nat → Nat) (th : Int) (ac : Int32) (re : Int32) (kn : Int32) (z : Int) (r : Int) (r9z : -2147483648 ≤ z ∧ z ≤ 2147483647) (r9r : -2147483648 ≤ r ∧ r ≤ 2147483647) (hcel : 0 ≤ z ∧ z ≤ 5) (hbad : ¬ (2 ≤ r ∧ r ≤ 36)) : zAV l yX5_code 2 69 0 0 D cB 4 cJ o a [.int (iZ (z)), .int (iZ (r))] c [.int (iZ (th)), .int (ac), .int (re), .int (kn)] (fun v => ∃ q, v = some (.ref q)) (c) [.int (iZ (2)), .int (ac), .int (re), .int (kn)] := by
  refine zAV.intro (lo := 44) (nA := 2) (own := RX5) zi_X5_code (by decide) rfl rfl (by decide +kernel) rfl (Nat.le_of_ble_eq_true rfl) ?_
  intro p e s m below meth c0 ls C hr hk B K V hl
  have hl : lv_has ls 6 [(0, .ref o), (1, .int (iZ (z))), (2, .int (iZ (r)))] := hl
  have ho9 := B.1.lt
  have hA : ∀ q, s.heap.size ≤ q → zF o a s.heap.size q := fun _ h => Or.inr (Or.inr h)
  refine lv_aload_n C.1 C.2.1 dX5_code_0 rfl (lv_at hl 0 rfl) ?_
  refine lv_iload_n C.1 C.2.1 dX5_code_1 rfl (lv_at hl 1 rfl) ?_
  refine z_call C (c_X5_isNo l (z) (by first | assumption | omega | rfl | exact decide_eq_false (by omega) | exact decide_eq_true (by assumption) | exact decide_eq_true (by omega) | exact one_shl33 (by omega) | exact pm_lt _ _ | exact rm_lt (by first | assumption | exact pm_lt _ _) | exact Nat.lt_of_le_of_lt (Nat.shiftRight_le _ _) (by assumption) | exact Nat.lt_of_le_of_lt Nat.and_le_right (by omega))) ml_X5_67 ⟨by decide, by decide⟩ ⟨Nat.le_of_ble_eq_true rfl, Nat.le_of_ble_eq_true rfl⟩ hl (Nat.le_of_ble_eq_true rfl) rfl dX5_code_2 ?_
  refine z_iconst C dX5_code_5 ?_
  refine zo_callD C B (r := some (.int (iZ (zB (false))))) (c_X5_start_ok l D cJ o a (c) (th) (ac) (re) (kn) (decide (¬ (0 ≤ (z) ∧ (z) ≤ 5))) (1 : Int) (by first | assumption | omega | rfl | exact decide_eq_false (by omega) | exact decide_eq_true (by assumption) | exact decide_eq_true (by omega) | exact one_shl33 (by omega) | exact pm_lt _ _ | exact rm_lt (by first | assumption | exact pm_lt _ _) | exact Nat.lt_of_le_of_lt (Nat.shiftRight_le _ _) (by assumption) | exact Nat.lt_of_le_of_lt Nat.and_le_right (by omega))) ml_X5_71 rfl ⟨Nat.le_of_ble_eq_true rfl, Nat.le_of_ble_eq_true rfl⟩ ⟨Nat.le_of_ble_eq_true rfl, Nat.le_of_ble_eq_true rfl⟩ hl (Nat.le_of_ble_eq_true rfl) rfl dX5_code_6 (fun H locs B => ?_)
  refine z_ifB_ne (tgt := 35) C dX5_code_9 (by decide) (fun h9 => ?_) (fun h9 => ?_)
  · exact absurd h9 (by decide)
  · refine lv_aload_n C.1 C.2.1 dX5_code_12 rfl (lv_at hl 0 rfl) ?_
    refine lv_iload_n C.1 C.2.1 dX5_code_13 rfl (lv_at hl 2 rfl) ?_
    refine z_iconst C dX5_code_14 ?_
    refine z_bipush C dX5_code_15 (by decide) ?_
    refine z_call C (c_X5_isIn l (r) (2 : Int) (36 : Int) (by first | assumption | omega | rfl | exact decide_eq_false (by omega) | exact decide_eq_true (by assumption) | exact decide_eq_true (by omega) | exact one_shl33 (by omega) | exact pm_lt _ _ | exact rm_lt (by first | assumption | exact pm_lt _ _) | exact Nat.lt_of_le_of_lt (Nat.shiftRight_le _ _) (by assumption) | exact Nat.lt_of_le_of_lt Nat.and_le_right (by omega)) (by first | assumption | omega | rfl | exact decide_eq_false (by omega) | exact decide_eq_true (by assumption) | exact decide_eq_true (by omega) | exact one_shl33 (by omega) | exact pm_lt _ _ | exact rm_lt (by first | assumption | exact pm_lt _ _) | exact Nat.lt_of_le_of_lt (Nat.shiftRight_le _ _) (by assumption) | exact Nat.lt_of_le_of_lt Nat.and_le_right (by omega)) (by first | assumption | omega | rfl | exact decide_eq_false (by omega) | exact decide_eq_true (by assumption) | exact decide_eq_true (by omega) | exact one_shl33 (by omega) | exact pm_lt _ _ | exact rm_lt (by first | assumption | exact pm_lt _ _) | exact Nat.lt_of_le_of_lt (Nat.shiftRight_le _ _) (by assumption) | exact Nat.lt_of_le_of_lt Nat.and_le_right (by omega))) ml_X5_21 ⟨by decide, by decide⟩ ⟨Nat.le_of_ble_eq_true rfl, Nat.le_of_ble_eq_true rfl⟩ hl (Nat.le_of_ble_eq_true rfl) rfl dX5_code_17 ?_
    refine z_ifB_ne (tgt := 27) C dX5_code_20 (by decide) (fun h20 => ?_) (fun h20 => ?_)
    · have g20 := of_decide_eq_true h20
      refine z_iconst C dX5_code_27 ?_
      refine z_iconst C dX5_code_28 ?_
      exfalso; omega
    · have g20 := of_decide_eq_false h20
      refine z_iconst C dX5_code_23 ?_
      refine lv_goto (tgt := 28) C.1 C.2.1 dX5_code_24 (by decide) ?_
      refine z_iconst C dX5_code_28 ?_
      refine zo_callD C B (r := some (.int (iZ (zB (true))))) (c_X5_refuse_bad l D cJ o a (c) (0) ((ac)) ((re)) ((kn)) (true) (2 : Int) (by first | assumption | omega | rfl | exact decide_eq_false (by omega) | exact decide_eq_true (by assumption) | exact decide_eq_true (by omega) | exact one_shl33 (by omega) | exact pm_lt _ _ | exact rm_lt (by first | assumption | exact pm_lt _ _) | exact Nat.lt_of_le_of_lt (Nat.shiftRight_le _ _) (by assumption) | exact Nat.lt_of_le_of_lt Nat.and_le_right (by omega)) (by first | assumption | omega | rfl | exact decide_eq_false (by omega) | exact decide_eq_true (by assumption) | exact decide_eq_true (by omega) | exact one_shl33 (by omega) | exact pm_lt _ _ | exact rm_lt (by first | assumption | exact pm_lt _ _) | exact Nat.lt_of_le_of_lt (Nat.shiftRight_le _ _) (by assumption) | exact Nat.lt_of_le_of_lt Nat.and_le_right (by omega)) (by first | assumption | omega | rfl | exact decide_eq_false (by omega) | exact decide_eq_true (by assumption) | exact decide_eq_true (by omega) | exact one_shl33 (by omega) | exact pm_lt _ _ | exact rm_lt (by first | assumption | exact pm_lt _ _) | exact Nat.lt_of_le_of_lt (Nat.shiftRight_le _ _) (by assumption) | exact Nat.lt_of_le_of_lt Nat.and_le_right (by omega))) ml_X5_17 rfl ⟨Nat.le_of_ble_eq_true rfl, Nat.le_of_ble_eq_true rfl⟩ ⟨Nat.le_of_ble_eq_true rfl, Nat.le_of_ble_eq_true rfl⟩ hl (Nat.le_of_ble_eq_true rfl) rfl dX5_code_29 (fun H locs B => ?_)
      refine z_ifB_eq (tgt := 38) C dX5_code_32 (by decide) (fun h32 => ?_) (fun h32 => ?_)
      · exact absurd h32 (by decide)
      · refine zt_ldc C V.t.2.2.2.1 dX5_code_35 (fun q => ?_)
        exact zo_aret C B hr hk (Nat.le_of_ble_eq_true rfl) (Nat.le_of_ble_eq_true rfl) dX5_code_37 ⟨_, rfl⟩ rfl rfl

set_option maxHeartbeats 4000000 in
set_option maxRecDepth 100000 in
theorem c_X5_text (l : Launch) (D : va_G) (cB cJ : ClassId) (o a : Nat) (c : Nat → Nat) (th : Int) (ac : Int32) (re : Int32) (kn : Int32) (z : Int) (hz : 0 ≤ z ∧ z ≤ 5) : zAV l yX5_text 6 188 72 34864 D cB 4 cJ o a [.int (iZ (z))] c [.int (iZ (th)), .int (ac), .int (re), .int (kn)] (fun v => ∃ q, v = some (.ref q)) (c) [.int (iZ (0)), .int (ac), .int (re), .int (kn)] := by
  refine zAV.intro (lo := 165) (nA := 1) (own := RX5) zi_X5_text (by decide) rfl rfl (by decide +kernel) rfl (Nat.le_of_ble_eq_true rfl) ?_
  intro p e s m below meth c0 ls C hr hk B K V hl
  have hl : lv_has ls 4 [(0, .ref o), (1, .int (iZ (z)))] := hl
  have ho9 := B.1.lt
  have hA : ∀ q, s.heap.size ≤ q → zF o a s.heap.size q := fun _ h => Or.inr (Or.inr h)
  refine lv_aload_n C.1 C.2.1 dX5_text_0 rfl (lv_at hl 0 rfl) ?_
  refine lv_iload_n C.1 C.2.1 dX5_text_1 rfl (lv_at hl 1 rfl) ?_
  refine z_call C (c_X5_isNo l (z) (by first | assumption | omega | rfl | exact decide_eq_false (by omega) | exact decide_eq_true (by assumption) | exact decide_eq_true (by omega) | exact one_shl33 (by omega) | exact pm_lt _ _ | exact rm_lt (by first | assumption | exact pm_lt _ _) | exact Nat.lt_of_le_of_lt (Nat.shiftRight_le _ _) (by assumption) | exact Nat.lt_of_le_of_lt Nat.and_le_right (by omega))) ml_X5_67 ⟨by decide, by decide⟩ ⟨Nat.le_of_ble_eq_true rfl, Nat.le_of_ble_eq_true rfl⟩ hl (Nat.le_of_ble_eq_true rfl) rfl dX5_text_2 ?_
  refine z_iconst C dX5_text_5 ?_
  refine zo_callD C B (r := some (.int (iZ (zB (false))))) (c_X5_start_ok l D cJ o a (c) (th) (ac) (re) (kn) (decide (¬ (0 ≤ (z) ∧ (z) ≤ 5))) (1 : Int) (by first | assumption | omega | rfl | exact decide_eq_false (by omega) | exact decide_eq_true (by assumption) | exact decide_eq_true (by omega) | exact one_shl33 (by omega) | exact pm_lt _ _ | exact rm_lt (by first | assumption | exact pm_lt _ _) | exact Nat.lt_of_le_of_lt (Nat.shiftRight_le _ _) (by assumption) | exact Nat.lt_of_le_of_lt Nat.and_le_right (by omega))) ml_X5_71 rfl ⟨Nat.le_of_ble_eq_true rfl, Nat.le_of_ble_eq_true rfl⟩ ⟨Nat.le_of_ble_eq_true rfl, Nat.le_of_ble_eq_true rfl⟩ hl (Nat.le_of_ble_eq_true rfl) rfl dX5_text_6 (fun H locs B => ?_)
  refine z_ifB_eq (tgt := 15) C dX5_text_9 (by decide) (fun h9 => ?_) (fun h9 => ?_)
  · refine lv_aload_n C.1 C.2.1 dX5_text_15 rfl (lv_at hl 0 rfl) ?_
    refine zo_get C B (Cn := RX5) (T := TX5) (N := 5) (v := .ref a) rfl inX5 0 (by decide) fl_X5_7 rfl rfl dX5_text_16 ?_
    refine lv_iload_n C.1 C.2.1 dX5_text_19 rfl (lv_at hl 1 rfl) ?_
    refine zo_lald C B ((z).toNat) (by omega) (by omega) dX5_text_20 ?_
    have q20 := B.1.2.2.2 ((z).toNat)
    refine z_lconst (k0 := 0) C dX5_text_21 rfl ?_
    refine z_lc_ne (tgt := 29) C (by first | assumption | omega | rfl | exact decide_eq_false (by omega) | exact decide_eq_true (by assumption) | exact decide_eq_true (by omega) | exact one_shl33 (by omega) | exact pm_lt _ _ | exact rm_lt (by first | assumption | exact pm_lt _ _) | exact Nat.lt_of_le_of_lt (Nat.shiftRight_le _ _) (by assumption) | exact Nat.lt_of_le_of_lt Nat.and_le_right (by omega)) (by first | assumption | omega | rfl | exact decide_eq_false (by omega) | exact decide_eq_true (by assumption) | exact decide_eq_true (by omega) | exact one_shl33 (by omega) | exact pm_lt _ _ | exact rm_lt (by first | assumption | exact pm_lt _ _) | exact Nat.lt_of_le_of_lt (Nat.shiftRight_le _ _) (by assumption) | exact Nat.lt_of_le_of_lt Nat.and_le_right (by omega)) dX5_text_22 dX5_text_23 (by decide) (fun h22 => ?_) (fun h22 => ?_)
    · refine zt_new C K V B.2 hA cl_X5_115 ml_X5_117 ⟨Nat.le_of_ble_eq_true rfl, Nat.le_of_ble_eq_true rfl⟩ ⟨Nat.le_of_ble_eq_true rfl, Nat.le_of_ble_eq_true rfl⟩ hl (Nat.le_of_ble_eq_true rfl) dX5_text_29 dX5_text_32 dX5_text_33 (fun b v H locs Bt hq => ?_)
      have B : zIn D 4 cJ o a c [.int (iZ (0)), .int ((ac)), .int ((re)), .int ((kn))] s H locs := ⟨B.1.kept (hq o B.1.lt.1) (hq a B.1.lt.2), Bt.2.1⟩
      refine lv_astore_n (lv' := [(2, .ref b), (0, .ref o), (1, .int (iZ (z)))]) C.1 C.2.1 dX5_text_36 rfl hl (by decide) rfl (fun ls hl => ?_)
      refine z_bipush C dX5_text_37 (by decide) ?_
      refine lv_istore_n (lv' := [(3, .int (iZ (32))), (2, .ref b), (0, .ref o), (1, .int (iZ (z)))]) C.1 C.2.1 dX5_text_39 rfl hl (by decide) rfl (fun ls hl => ?_)
      have L40 : ∀ (j : Nat) (j0 : Nat) (b : Nat) (v : Nat) (n : Nat) (k : Nat) (ce : Nat) (sl : Nat) (x3 : Int) (H : Heap) (locs : List Loc) (ls : Array Slot), j0 < j → (x3 + 1 = (j0 : Int)) → (j0 ≤ 33) → (n + 4 * j0 ≤ 132) → (n ≤ k ∧ k ≤ 2 * n + 16) → (ce + 2 * j0 ≤ 70) → (sl + 1040 * j0 ≤ 34340) → (zIn D 4 cJ o a c [.int (iZ (0)), .int (ac), .int (re), .int (kn)] s H locs ∧ zTn (zF o a s.heap.size) D cB b v n k s H locs) → lv_has ls 4 [(0, .ref o), (1, .int (iZ (z))), (2, .ref b), (3, .int (iZ (x3)))] → W p l e { frames := 6, cells := 72, slots := 34864, locals := 165 } s m (Value.ref o :: ([.int (iZ (z))] : List Value)).toArray below meth c0 H locs ce sl (zE1 below D 4 cJ o a (Value.ref o :: ([.int (iZ (z))] : List Value)).toArray s 72 34864 (fun v => ∃ q, v = some (.ref q)) (c) [.int (iZ (0)), .int (ac), .int (re), .int (kn)]) (F0 m 40 ls []) := by
        intro j
        induction j with
        | zero => intro j0 b v n k ce sl x3 H locs ls hmu; exact absurd hmu (Nat.not_lt_zero _)
        | succ j ih40 =>
          intro j0 b v n k ce sl x3 H locs ls hmu i40_0 i40_1 i40_2 i40_3 i40_4 i40_5 B hl
          obtain ⟨B, Bt⟩ := B
          refine lv_iload_n C.1 C.2.1 dX5_text_40 rfl (lv_at hl 3 rfl) ?_
          refine z_if_lt (tgt := 86) C (by omega) dX5_text_41 (by decide) (fun h41 => ?_) (fun h41 => ?_)
          · refine lv_aload_n C.1 C.2.1 dX5_text_86 rfl (lv_at hl 2 rfl) ?_
            have hn9 := Bt.2.2
            refine zt_str C Bt V hA (c_J4_toString_0e30d l D cB (n) (k) (by omega)) ml_X5_128 ⟨Nat.le_of_ble_eq_true rfl, Nat.le_of_ble_eq_true rfl⟩ ⟨by show ce + 2 ≤ 72; omega, by show sl + 524 ≤ 34864; omega⟩ hl (Nat.le_of_ble_eq_true rfl) dX5_text_87 (fun q H locs S hq => ?_)
            have B : zIn D 4 cJ o a c [.int (iZ (0)), .int ((ac)), .int ((re)), .int ((kn))] s H locs := ⟨B.1.kept (hq o B.1.lt.1 (by omega)) (hq a B.1.lt.2 (by omega)), S⟩
            exact zo_aret C B hr hk (by omega) (by omega) dX5_text_90 ⟨_, rfl⟩ rfl rfl
          · refine lv_aload_n C.1 C.2.1 dX5_text_44 rfl (lv_at hl 0 rfl) ?_
            refine zo_get C B (Cn := RX5) (T := TX5) (N := 5) (v := .ref a) rfl inX5 0 (by decide) fl_X5_7 rfl rfl dX5_text_45 ?_
            refine lv_iload_n C.1 C.2.1 dX5_text_48 rfl (lv_at hl 1 rfl) ?_
            refine zo_lald C B ((z).toNat) (by omega) (by omega) dX5_text_49 ?_
            have q49 := B.1.2.2.2 ((z).toNat)
            refine lv_iload_n C.1 C.2.1 dX5_text_50 rfl (lv_at hl 3 rfl) ?_
            refine z_call C (c_X5_has l (c ((z).toNat)) (x3) (by first | assumption | omega | rfl | exact decide_eq_false (by omega) | exact decide_eq_true (by assumption) | exact decide_eq_true (by omega) | exact one_shl33 (by omega) | exact pm_lt _ _ | exact rm_lt (by first | assumption | exact pm_lt _ _) | exact Nat.lt_of_le_of_lt (Nat.shiftRight_le _ _) (by assumption) | exact Nat.lt_of_le_of_lt Nat.and_le_right (by omega)) (by first | assumption | omega | rfl | exact decide_eq_false (by omega) | exact decide_eq_true (by assumption) | exact decide_eq_true (by omega) | exact one_shl33 (by omega) | exact pm_lt _ _ | exact rm_lt (by first | assumption | exact pm_lt _ _) | exact Nat.lt_of_le_of_lt (Nat.shiftRight_le _ _) (by assumption) | exact Nat.lt_of_le_of_lt Nat.and_le_right (by omega))) ml_X5_25 ⟨by decide, by decide⟩ ⟨by show ce + 0 ≤ 72; omega, by show sl + 0 ≤ 34864; omega⟩ hl (Nat.le_of_ble_eq_true rfl) rfl dX5_text_51 ?_
            refine z_ifB_ne (tgt := 60) C dX5_text_54 (by decide) (fun h54 => ?_) (fun h54 => ?_)
            · refine lv_aload_n C.1 C.2.1 dX5_text_60 rfl (lv_at hl 2 rfl) ?_
              have hn9 := Bt.2.2
              refine zt_call C Bt V hA (c_J4_length_8abf5 l D cB  (n) (k) ) ml_X5_118 (C.2.2.2.2 _ (T0_of zi_J4_length_8abf5.2.1 rfl)) ⟨Nat.le_of_ble_eq_true rfl, Nat.le_of_ble_eq_true rfl⟩ ⟨by show ce + 0 ≤ 72; omega, by show sl + 0 ≤ 34864; omega⟩ hl (Nat.le_of_ble_eq_true rfl) rfl dX5_text_61 (fun v61 k61 H locs hp61 Bt hq => ?_)
              have B : zIn D 4 cJ o a c [.int (iZ (0)), .int ((ac)), .int ((re)), .int ((kn))] s H locs := ⟨B.1.kept (hq o B.1.lt.1 (by omega)) (hq a B.1.lt.2 (by omega)), Bt.2.1⟩
              obtain ⟨rfl, rfl⟩ := hp61
              refine z_if_le (tgt := 74) C (by omega) dX5_text_64 (by decide) (fun h64 => ?_) (fun h64 => ?_)
              · refine lv_aload_n C.1 C.2.1 dX5_text_74 rfl (lv_at hl 2 rfl) ?_
                refine lv_iload_n C.1 C.2.1 dX5_text_75 rfl (lv_at hl 3 rfl) ?_
                have hn9 := Bt.2.2
                refine zt_call C Bt V hA (c_J4_append_bf812 l D cB (x3) ((n)) (k) (by first | assumption | omega | rfl | exact decide_eq_false (by omega) | exact decide_eq_true (by assumption) | exact decide_eq_true (by omega) | exact one_shl33 (by omega) | exact pm_lt _ _ | exact rm_lt (by first | assumption | exact pm_lt _ _) | exact Nat.lt_of_le_of_lt (Nat.shiftRight_le _ _) (by assumption) | exact Nat.lt_of_le_of_lt Nat.and_le_right (by omega)) (by first | assumption | omega | rfl | exact decide_eq_false (by omega) | exact decide_eq_true (by assumption) | exact decide_eq_true (by omega) | exact one_shl33 (by omega) | exact pm_lt _ _ | exact rm_lt (by first | assumption | exact pm_lt _ _) | exact Nat.lt_of_le_of_lt (Nat.shiftRight_le _ _) (by assumption) | exact Nat.lt_of_le_of_lt Nat.and_le_right (by omega)) (by first | assumption | omega | rfl | exact decide_eq_false (by omega) | exact decide_eq_true (by assumption) | exact decide_eq_true (by omega) | exact one_shl33 (by omega) | exact pm_lt _ _ | exact rm_lt (by first | assumption | exact pm_lt _ _) | exact Nat.lt_of_le_of_lt (Nat.shiftRight_le _ _) (by assumption) | exact Nat.lt_of_le_of_lt Nat.and_le_right (by omega))) ml_X5_125 (C.2.2.2.2 _ (T0_of zi_J4_append_bf812.2.1 rfl)) ⟨Nat.le_of_ble_eq_true rfl, Nat.le_of_ble_eq_true rfl⟩ ⟨by show (ce + 0) + 1 ≤ 72; omega, by show (sl + 0) + 520 ≤ 34864; omega⟩ hl (Nat.le_of_ble_eq_true rfl) rfl dX5_text_76 (fun v76 k76 H locs hp76 Bt hq => ?_)
                have B : zIn D 4 cJ o a c [.int (iZ (0)), .int ((ac)), .int ((re)), .int ((kn))] s H locs := ⟨B.1.kept (hq o B.1.lt.1 (by omega)) (hq a B.1.lt.2 (by omega)), Bt.2.1⟩
                have hp76 : ((n)) + (ssz (x3)).toNat ≤ (k76) ∧ (k76) ≤ 2 * (((n)) + (ssz (x3)).toNat) + 16 := hp76
                have q76_0 := ssz_rng (x3)
                refine lv_pop C.1 C.2.1 dX5_text_79 rfl ?_
                refine z_iinc (j := 3) (lv' := [(3, .int (iZ (x3 + (-1)))), (0, .ref o), (1, .int (iZ (z))), (2, .ref b)]) C dX5_text_80 hl rfl (by decide) rfl (fun ls hl => ?_)
                refine lv_goto (tgt := 40) C.1 C.2.1 dX5_text_83 (by decide) ?_
                obtain ⟨j1, rfl⟩ : ∃ g, j0 = g + 1 := ⟨j0 - 1, by omega⟩
                exact ih40 (j1) (b) (v76) (((n)) + (ssz (x3)).toNat) (k76) (((ce + 0) + 1)) (((sl + 0) + 520)) _ _ _ _ (by omega) (by omega) (by omega) (by omega) (by omega) (by omega) (by omega) ⟨B, Bt⟩ (lv_sub hl [1, 2, 3, 0] rfl)
              · refine lv_aload_n C.1 C.2.1 dX5_text_67 rfl (lv_at hl 2 rfl) ?_
                refine z_bipush C dX5_text_68 (by decide) ?_
                have hn9 := Bt.2.2
                refine zt_call C Bt V hA (c_J4_append_cf468 l D cB (32 : Int) ((n)) (k) (by first | assumption | omega | rfl | exact decide_eq_false (by omega) | exact decide_eq_true (by assumption) | exact decide_eq_true (by omega) | exact one_shl33 (by omega) | exact pm_lt _ _ | exact rm_lt (by first | assumption | exact pm_lt _ _) | exact Nat.lt_of_le_of_lt (Nat.shiftRight_le _ _) (by assumption) | exact Nat.lt_of_le_of_lt Nat.and_le_right (by omega)) (by first | assumption | omega | rfl | exact decide_eq_false (by omega) | exact decide_eq_true (by assumption) | exact decide_eq_true (by omega) | exact one_shl33 (by omega) | exact pm_lt _ _ | exact rm_lt (by first | assumption | exact pm_lt _ _) | exact Nat.lt_of_le_of_lt (Nat.shiftRight_le _ _) (by assumption) | exact Nat.lt_of_le_of_lt Nat.and_le_right (by omega)) (by first | assumption | omega | rfl | exact decide_eq_false (by omega) | exact decide_eq_true (by assumption) | exact decide_eq_true (by omega) | exact one_shl33 (by omega) | exact pm_lt _ _ | exact rm_lt (by first | assumption | exact pm_lt _ _) | exact Nat.lt_of_le_of_lt (Nat.shiftRight_le _ _) (by assumption) | exact Nat.lt_of_le_of_lt Nat.and_le_right (by omega))) ml_X5_121 (C.2.2.2.2 _ (T0_of zi_J4_append_cf468.2.1 rfl)) ⟨Nat.le_of_ble_eq_true rfl, Nat.le_of_ble_eq_true rfl⟩ ⟨by show (ce + 0) + 1 ≤ 72; omega, by show (sl + 0) + 520 ≤ 34864; omega⟩ hl (Nat.le_of_ble_eq_true rfl) rfl dX5_text_70 (fun v70 k70 H locs hp70 Bt hq => ?_)
                have B : zIn D 4 cJ o a c [.int (iZ (0)), .int ((ac)), .int ((re)), .int ((kn))] s H locs := ⟨B.1.kept (hq o B.1.lt.1 (by omega)) (hq a B.1.lt.2 (by omega)), Bt.2.1⟩
                have hp70 : ((n)) + 1 ≤ (k70) ∧ (k70) ≤ 2 * (((n)) + 1) + 16 := hp70
                refine lv_pop C.1 C.2.1 dX5_text_73 rfl ?_
                refine lv_aload_n C.1 C.2.1 dX5_text_74 rfl (lv_at hl 2 rfl) ?_
                refine lv_iload_n C.1 C.2.1 dX5_text_75 rfl (lv_at hl 3 rfl) ?_
                have hn9 := Bt.2.2
                refine zt_call C Bt V hA (c_J4_append_bf812 l D cB (x3) (((n)) + 1) (k70) (by first | assumption | omega | rfl | exact decide_eq_false (by omega) | exact decide_eq_true (by assumption) | exact decide_eq_true (by omega) | exact one_shl33 (by omega) | exact pm_lt _ _ | exact rm_lt (by first | assumption | exact pm_lt _ _) | exact Nat.lt_of_le_of_lt (Nat.shiftRight_le _ _) (by assumption) | exact Nat.lt_of_le_of_lt Nat.and_le_right (by omega)) (by first | assumption | omega | rfl | exact decide_eq_false (by omega) | exact decide_eq_true (by assumption) | exact decide_eq_true (by omega) | exact one_shl33 (by omega) | exact pm_lt _ _ | exact rm_lt (by first | assumption | exact pm_lt _ _) | exact Nat.lt_of_le_of_lt (Nat.shiftRight_le _ _) (by assumption) | exact Nat.lt_of_le_of_lt Nat.and_le_right (by omega)) (by first | assumption | omega | rfl | exact decide_eq_false (by omega) | exact decide_eq_true (by assumption) | exact decide_eq_true (by omega) | exact one_shl33 (by omega) | exact pm_lt _ _ | exact rm_lt (by first | assumption | exact pm_lt _ _) | exact Nat.lt_of_le_of_lt (Nat.shiftRight_le _ _) (by assumption) | exact Nat.lt_of_le_of_lt Nat.and_le_right (by omega))) ml_X5_125 (C.2.2.2.2 _ (T0_of zi_J4_append_bf812.2.1 rfl)) ⟨Nat.le_of_ble_eq_true rfl, Nat.le_of_ble_eq_true rfl⟩ ⟨by show ((ce + 0) + 1) + 1 ≤ 72; omega, by show ((sl + 0) + 520) + 520 ≤ 34864; omega⟩ hl (Nat.le_of_ble_eq_true rfl) rfl dX5_text_76 (fun v76 k76 H locs hp76 Bt hq => ?_)
                have B : zIn D 4 cJ o a c [.int (iZ (0)), .int ((ac)), .int ((re)), .int ((kn))] s H locs := ⟨B.1.kept (hq o B.1.lt.1 (by omega)) (hq a B.1.lt.2 (by omega)), Bt.2.1⟩
                have hp76 : (((n)) + 1) + (ssz (x3)).toNat ≤ (k76) ∧ (k76) ≤ 2 * ((((n)) + 1) + (ssz (x3)).toNat) + 16 := hp76
                have q76_0 := ssz_rng (x3)
                refine lv_pop C.1 C.2.1 dX5_text_79 rfl ?_
                refine z_iinc (j := 3) (lv' := [(3, .int (iZ (x3 + (-1)))), (0, .ref o), (1, .int (iZ (z))), (2, .ref b)]) C dX5_text_80 hl rfl (by decide) rfl (fun ls hl => ?_)
                refine lv_goto (tgt := 40) C.1 C.2.1 dX5_text_83 (by decide) ?_
                obtain ⟨j1, rfl⟩ : ∃ g, j0 = g + 1 := ⟨j0 - 1, by omega⟩
                exact ih40 (j1) (b) (v76) ((((n)) + 1) + (ssz (x3)).toNat) (k76) ((((ce + 0) + 1) + 1)) ((((sl + 0) + 520) + 520)) _ _ _ _ (by omega) (by omega) (by omega) (by omega) (by omega) (by omega) (by omega) ⟨B, Bt⟩ (lv_sub hl [1, 2, 3, 0] rfl)
            · refine lv_goto (tgt := 80) C.1 C.2.1 dX5_text_57 (by decide) ?_
              refine z_iinc (j := 3) (lv' := [(3, .int (iZ (x3 + (-1)))), (0, .ref o), (1, .int (iZ (z))), (2, .ref b)]) C dX5_text_80 hl rfl (by decide) rfl (fun ls hl => ?_)
              refine lv_goto (tgt := 40) C.1 C.2.1 dX5_text_83 (by decide) ?_
              obtain ⟨j1, rfl⟩ : ∃ g, j0 = g + 1 := ⟨j0 - 1, by omega⟩
              exact ih40 (j1) (b) (v) (n) (k) (ce) (sl) _ _ _ _ (by omega) (by omega) (by omega) (by omega) (by omega) (by omega) (by omega) ⟨B, Bt⟩ (lv_sub hl [1, 2, 3, 0] rfl)
      exact L40 _ (33) (b) (v) (0) (16) (((0 + 0) + 2)) (((0 + 0) + 20)) _ _ _ _ (by exact Nat.lt_succ_self _) (by omega) (by omega) (by omega) (by omega) (by omega) (by omega) ⟨B, Bt⟩ (lv_sub hl [2, 3, 1, 0] rfl)
    · refine zt_ldc C V.t.2.2.2.2.1 dX5_text_26 (fun q => ?_)
      exact zo_aret C B hr hk (Nat.le_of_ble_eq_true rfl) (Nat.le_of_ble_eq_true rfl) dX5_text_28 ⟨_, rfl⟩ rfl rfl
  · exact absurd h9 (by decide)

set_option maxHeartbeats 4000000 in
set_option maxRecDepth 100000 in
theorem c_X5_code (l : Launch) (D : va_G) (cB cJ : ClassId) (o a : Nat) (c : Nat → Nat) (th : Int) (ac : Int32) (re : Int32) (kn : Int32) (z : Int) (r : Int) (hz : 0 ≤ z ∧ z ≤ 5) (hr0 : 2 ≤ r ∧ r ≤ 36) : zAV l yX5_code 6 190 40 18500 D cB 4 cJ o a [.int (iZ (z)), .int (iZ (r))] c [.int (iZ (th)), .int (ac), .int (re), .int (kn)] (fun v => ∃ q, v = some (.ref q)) (c) [.int (iZ (0)), .int (ac), .int (re), .int (kn)] := by
  refine zAV.intro (lo := 165) (nA := 2) (own := RX5) zi_X5_code (by decide) rfl rfl (by decide +kernel) rfl (Nat.le_of_ble_eq_true rfl) ?_
  intro p e s m below meth c0 ls C hr hk B K V hl
  have hl : lv_has ls 6 [(0, .ref o), (1, .int (iZ (z))), (2, .int (iZ (r)))] := hl
  have ho9 := B.1.lt
  have hA : ∀ q, s.heap.size ≤ q → zF o a s.heap.size q := fun _ h => Or.inr (Or.inr h)
  refine lv_aload_n C.1 C.2.1 dX5_code_0 rfl (lv_at hl 0 rfl) ?_
  refine lv_iload_n C.1 C.2.1 dX5_code_1 rfl (lv_at hl 1 rfl) ?_
  refine z_call C (c_X5_isNo l (z) (by first | assumption | omega | rfl | exact decide_eq_false (by omega) | exact decide_eq_true (by assumption) | exact decide_eq_true (by omega) | exact one_shl33 (by omega) | exact pm_lt _ _ | exact rm_lt (by first | assumption | exact pm_lt _ _) | exact Nat.lt_of_le_of_lt (Nat.shiftRight_le _ _) (by assumption) | exact Nat.lt_of_le_of_lt Nat.and_le_right (by omega))) ml_X5_67 ⟨by decide, by decide⟩ ⟨Nat.le_of_ble_eq_true rfl, Nat.le_of_ble_eq_true rfl⟩ hl (Nat.le_of_ble_eq_true rfl) rfl dX5_code_2 ?_
  refine z_iconst C dX5_code_5 ?_
  refine zo_callD C B (r := some (.int (iZ (zB (false))))) (c_X5_start_ok l D cJ o a (c) (th) (ac) (re) (kn) (decide (¬ (0 ≤ (z) ∧ (z) ≤ 5))) (1 : Int) (by first | assumption | omega | rfl | exact decide_eq_false (by omega) | exact decide_eq_true (by assumption) | exact decide_eq_true (by omega) | exact one_shl33 (by omega) | exact pm_lt _ _ | exact rm_lt (by first | assumption | exact pm_lt _ _) | exact Nat.lt_of_le_of_lt (Nat.shiftRight_le _ _) (by assumption) | exact Nat.lt_of_le_of_lt Nat.and_le_right (by omega))) ml_X5_71 rfl ⟨Nat.le_of_ble_eq_true rfl, Nat.le_of_ble_eq_true rfl⟩ ⟨Nat.le_of_ble_eq_true rfl, Nat.le_of_ble_eq_true rfl⟩ hl (Nat.le_of_ble_eq_true rfl) rfl dX5_code_6 (fun H locs B => ?_)
  refine z_ifB_ne (tgt := 35) C dX5_code_9 (by decide) (fun h9 => ?_) (fun h9 => ?_)
  · exact absurd h9 (by decide)
  · refine lv_aload_n C.1 C.2.1 dX5_code_12 rfl (lv_at hl 0 rfl) ?_
    refine lv_iload_n C.1 C.2.1 dX5_code_13 rfl (lv_at hl 2 rfl) ?_
    refine z_iconst C dX5_code_14 ?_
    refine z_bipush C dX5_code_15 (by decide) ?_
    refine z_call C (c_X5_isIn l (r) (2 : Int) (36 : Int) (by first | assumption | omega | rfl | exact decide_eq_false (by omega) | exact decide_eq_true (by assumption) | exact decide_eq_true (by omega) | exact one_shl33 (by omega) | exact pm_lt _ _ | exact rm_lt (by first | assumption | exact pm_lt _ _) | exact Nat.lt_of_le_of_lt (Nat.shiftRight_le _ _) (by assumption) | exact Nat.lt_of_le_of_lt Nat.and_le_right (by omega)) (by first | assumption | omega | rfl | exact decide_eq_false (by omega) | exact decide_eq_true (by assumption) | exact decide_eq_true (by omega) | exact one_shl33 (by omega) | exact pm_lt _ _ | exact rm_lt (by first | assumption | exact pm_lt _ _) | exact Nat.lt_of_le_of_lt (Nat.shiftRight_le _ _) (by assumption) | exact Nat.lt_of_le_of_lt Nat.and_le_right (by omega)) (by first | assumption | omega | rfl | exact decide_eq_false (by omega) | exact decide_eq_true (by assumption) | exact decide_eq_true (by omega) | exact one_shl33 (by omega) | exact pm_lt _ _ | exact rm_lt (by first | assumption | exact pm_lt _ _) | exact Nat.lt_of_le_of_lt (Nat.shiftRight_le _ _) (by assumption) | exact Nat.lt_of_le_of_lt Nat.and_le_right (by omega))) ml_X5_21 ⟨by decide, by decide⟩ ⟨Nat.le_of_ble_eq_true rfl, Nat.le_of_ble_eq_true rfl⟩ hl (Nat.le_of_ble_eq_true rfl) rfl dX5_code_17 ?_
    refine z_ifB_ne (tgt := 27) C dX5_code_20 (by decide) (fun h20 => ?_) (fun h20 => ?_)
    · refine z_iconst C dX5_code_27 ?_
      refine z_iconst C dX5_code_28 ?_
      refine zo_callD C B (r := some (.int (iZ (zB (false))))) (c_X5_refuse_ok l D cJ o a (c) (0) ((ac)) ((re)) ((kn)) (false) (2 : Int) (by first | assumption | omega | rfl | exact decide_eq_false (by omega) | exact decide_eq_true (by assumption) | exact decide_eq_true (by omega) | exact one_shl33 (by omega) | exact pm_lt _ _ | exact rm_lt (by first | assumption | exact pm_lt _ _) | exact Nat.lt_of_le_of_lt (Nat.shiftRight_le _ _) (by assumption) | exact Nat.lt_of_le_of_lt Nat.and_le_right (by omega)) (by first | assumption | omega | rfl | exact decide_eq_false (by omega) | exact decide_eq_true (by assumption) | exact decide_eq_true (by omega) | exact one_shl33 (by omega) | exact pm_lt _ _ | exact rm_lt (by first | assumption | exact pm_lt _ _) | exact Nat.lt_of_le_of_lt (Nat.shiftRight_le _ _) (by assumption) | exact Nat.lt_of_le_of_lt Nat.and_le_right (by omega))) ml_X5_17 rfl ⟨Nat.le_of_ble_eq_true rfl, Nat.le_of_ble_eq_true rfl⟩ ⟨Nat.le_of_ble_eq_true rfl, Nat.le_of_ble_eq_true rfl⟩ hl (Nat.le_of_ble_eq_true rfl) rfl dX5_code_29 (fun H locs B => ?_)
      refine z_ifB_eq (tgt := 38) C dX5_code_32 (by decide) (fun h32 => ?_) (fun h32 => ?_)
      · obtain ⟨qS, tS, gS, w1, w2, w3, w4, w5⟩ := V.2.2.2.2.2.1
        have g0 := B.1.2.2.2 z.toNat
        refine z_lconst (k0 := 1) C dX5_code_38 rfl ?_
        refine lv_lstore_n (lv' := [(3, .long (lN (1))), (0, .ref o), (1, .int (iZ (z))), (2, .int (iZ (r)))]) C.1 C.2.1 dX5_code_39 rfl hl (by decide) rfl (fun ls hl => ?_)
        have L40 : ∀ (j : Nat)  (x3 : Nat) (ls : Array Slot), 8589934592 - x3 < j → (1 ≤ x3) → (x3 < 8589934592) → lv_has ls 6 [(0, .ref o), (1, .int (iZ (z))), (2, .int (iZ (r))), (3, .long (lN (x3)))] → W p l e { frames := 6, cells := 40, slots := 18500, locals := 165 } s m (Value.ref o :: ([.int (iZ (z)), .int (iZ (r))] : List Value)).toArray below meth c0 H locs ((0 + 0) + 0) ((0 + 0) + 0) (zE1 below D 4 cJ o a (Value.ref o :: ([.int (iZ (z)), .int (iZ (r))] : List Value)).toArray s 40 18500 (fun v => ∃ q, v = some (.ref q)) (c) [.int (iZ (0)), .int (ac), .int (re), .int (kn)]) (F0 m 40 ls []) := by
          intro j
          induction j with
          | zero => intro x3 ls hmu; exact absurd hmu (Nat.not_lt_zero _)
          | succ j ih40 =>
            intro x3 ls hmu i40_0 i40_1 hl
            refine lv_aload_n C.1 C.2.1 dX5_code_40 rfl (lv_at hl 0 rfl) ?_
            refine zo_get C B (Cn := RX5) (T := TX5) (N := 5) (v := .ref a) rfl inX5 0 (by decide) fl_X5_7 rfl rfl dX5_code_41 ?_
            refine lv_iload_n C.1 C.2.1 dX5_code_44 rfl (lv_at hl 1 rfl) ?_
            refine zo_lald C B ((z).toNat) (by omega) (by omega) dX5_code_45 ?_
            have q45 := B.1.2.2.2 ((z).toNat)
            refine lv_lload_n C.1 C.2.1 dX5_code_46 rfl (lv_at hl 3 rfl) ?_
            refine z_ldiv C (by omega) (by omega) dX5_code_47 ?_
            refine lv_iload_n C.1 C.2.1 dX5_code_48 rfl (lv_at hl 2 rfl) ?_
            refine z_i2l C ((r).toNat) (by omega) (by omega) dX5_code_49 ?_
            refine z_lc_lt (tgt := 62) C (by exact Nat.lt_of_le_of_lt (Nat.div_le_self _ _) (by omega)) (by omega) dX5_code_50 dX5_code_51 (by decide) (fun h50 => ?_) (fun h50 => ?_)
            · refine zt_new C K V B.2 hA cl_X5_115 ml_X5_117 ⟨Nat.le_of_ble_eq_true rfl, Nat.le_of_ble_eq_true rfl⟩ ⟨Nat.le_of_ble_eq_true rfl, Nat.le_of_ble_eq_true rfl⟩ hl (Nat.le_of_ble_eq_true rfl) dX5_code_62 dX5_code_65 dX5_code_66 (fun b v H locs Bt hq => ?_)
              have B : zIn D 4 cJ o a c [.int (iZ ((0))), .int (((ac))), .int (((re))), .int (((kn)))] s H locs := ⟨B.1.kept (hq o B.1.lt.1) (hq a B.1.lt.2), Bt.2.1⟩
              refine lv_astore (lv' := [(5, .ref b), (0, .ref o), (1, .int (iZ (z))), (2, .int (iZ (r))), (3, .long (lN (x3)))]) C.1 C.2.1 dX5_code_69 hl (by decide) rfl (fun ls hl => ?_)
              have L71 : ∀ (j : Nat) (b : Nat) (v : Nat) (n : Nat) (k : Nat) (ce : Nat) (sl : Nat) (x3 : Nat) (H : Heap) (locs : List Loc) (ls : Array Slot), 34 - n < j → (x3 < 8589934592) → ((n : Int) + tp x3 ≤ 33) → (n ≤ 34) → (n ≤ k ∧ k ≤ 2 * n + 16) → (ce = 2 + n) → (sl = 20 + 520 * n) → (zIn D 4 cJ o a c [.int (iZ (0)), .int (ac), .int (re), .int (kn)] s H locs ∧ zTn (zF o a s.heap.size) D cB b v n k s H locs) → lv_has ls 6 [(0, .ref o), (1, .int (iZ (z))), (2, .int (iZ (r))), (3, .long (lN (x3))), (5, .ref b)] → W p l e { frames := 6, cells := 40, slots := 18500, locals := 165 } s m (Value.ref o :: ([.int (iZ (z)), .int (iZ (r))] : List Value)).toArray below meth c0 H locs ce sl (zE1 below D 4 cJ o a (Value.ref o :: ([.int (iZ (z)), .int (iZ (r))] : List Value)).toArray s 40 18500 (fun v => ∃ q, v = some (.ref q)) (c) [.int (iZ (0)), .int (ac), .int (re), .int (kn)]) (F0 m 71 ls []) := by
                intro j
                induction j with
                | zero => intro b v n k ce sl x3 H locs ls hmu; exact absurd hmu (Nat.not_lt_zero _)
                | succ j ih71 =>
                  intro b v n k ce sl x3 H locs ls hmu i71_0 i71_1 i71_2 i71_3 i71_4 i71_5 B hl
                  obtain ⟨B, Bt⟩ := B
                  have ht9 := tp_ge x3
                  refine lv_lload_n C.1 C.2.1 dX5_code_71 rfl (lv_at hl 3 rfl) ?_
                  refine z_lconst (k0 := 0) C dX5_code_72 rfl ?_
                  refine z_lc_le (tgt := 108) C (by first | assumption | omega | rfl | exact decide_eq_false (by omega) | exact decide_eq_true (by assumption) | exact decide_eq_true (by omega) | exact one_shl33 (by omega) | exact pm_lt _ _ | exact rm_lt (by first | assumption | exact pm_lt _ _) | exact Nat.lt_of_le_of_lt (Nat.shiftRight_le _ _) (by assumption) | exact Nat.lt_of_le_of_lt Nat.and_le_right (by omega)) (by first | assumption | omega | rfl | exact decide_eq_false (by omega) | exact decide_eq_true (by assumption) | exact decide_eq_true (by omega) | exact one_shl33 (by omega) | exact pm_lt _ _ | exact rm_lt (by first | assumption | exact pm_lt _ _) | exact Nat.lt_of_le_of_lt (Nat.shiftRight_le _ _) (by assumption) | exact Nat.lt_of_le_of_lt Nat.and_le_right (by omega)) dX5_code_73 dX5_code_74 (by decide) (fun h73 => ?_) (fun h73 => ?_)
                  · refine lv_aload C.1 C.2.1 dX5_code_108 (lv_at hl 4 rfl) ?_
                    have hn9 := Bt.2.2
                    refine zt_str C Bt V hA (c_J4_toString_0e30d l D cB (n) (k) (by omega)) ml_X5_128 ⟨Nat.le_of_ble_eq_true rfl, Nat.le_of_ble_eq_true rfl⟩ ⟨by show ce + 2 ≤ 40; omega, by show sl + 524 ≤ 18500; omega⟩ hl (Nat.le_of_ble_eq_true rfl) dX5_code_110 (fun q H locs S hq => ?_)
                    have B : zIn D 4 cJ o a c [.int (iZ ((0))), .int (((ac))), .int (((re))), .int (((kn)))] s H locs := ⟨B.1.kept (hq o B.1.lt.1 (by omega)) (hq a B.1.lt.2 (by omega)), S⟩
                    exact zo_aret C B hr hk (by omega) (by omega) dX5_code_113 ⟨_, rfl⟩ rfl rfl
                  · refine lv_aload C.1 C.2.1 dX5_code_77 (lv_at hl 4 rfl) ?_
                    refine va_ldcS C.1 C.2.1 C.2.2.2.1 w1 dX5_code_79 ?_
                    refine lv_aload_n C.1 C.2.1 dX5_code_81 rfl (lv_at hl 0 rfl) ?_
                    refine zo_get C B (Cn := RX5) (T := TX5) (N := 5) (v := .ref a) rfl inX5 0 (by decide) fl_X5_7 rfl rfl dX5_code_82 ?_
                    refine lv_iload_n C.1 C.2.1 dX5_code_85 rfl (lv_at hl 1 rfl) ?_
                    refine zo_lald C B ((z).toNat) (by omega) (by omega) dX5_code_86 ?_
                    have q86 := B.1.2.2.2 ((z).toNat)
                    refine lv_lload_n C.1 C.2.1 dX5_code_87 rfl (lv_at hl 3 rfl) ?_
                    refine z_ldiv C (by omega) (by omega) dX5_code_88 ?_
                    refine lv_iload_n C.1 C.2.1 dX5_code_89 rfl (lv_at hl 2 rfl) ?_
                    refine z_i2l C ((r).toNat) (by omega) (by omega) dX5_code_90 ?_
                    refine z_lrem C (by exact Nat.lt_of_le_of_lt (Nat.div_le_self _ _) (by omega)) (by omega) dX5_code_91 ?_
                    have hm9 := Nat.mod_lt (c z.toNat / x3) (y := r.toNat) (by omega)
                    refine z_l2i C dX5_code_92 ?_
                    have GS : zGs qS s H := ⟨(V.kept B.2.2.1).nar (fun _ _ h => h.elim), tS, gS, va_O_nar (w2.kept B.2.2.1) (fun _ _ h => h.elim), va_OF_nar (w3.kept B.2.2.1) (fun _ _ h => h.elim), va_OF_nar (w4.kept B.2.2.1) (fun _ _ h => h.elim), va_T_nar (w5.kept B.2.2.1) (fun _ _ h => h.elim)⟩
                    refine zro_callV C (c_J0_charAt l qS (((((c ((z).toNat)) / (x3)) % ((r).toNat) : Nat) : Int)) (by omega)) zi_J0_charAt_5068e.1 zi_J0_charAt_5068e.2.1 (show _ = some 1 from by decide +kernel) (w2.kept B.2.2.1) GS ml_X5_134 ⟨Nat.le_of_ble_eq_true rfl, Nat.le_of_ble_eq_true rfl⟩ ⟨by show ce + 0 ≤ 40; omega, by show sl + 0 ≤ 18500; omega⟩ hl (Nat.le_of_ble_eq_true rfl) rfl dX5_code_93 (fun vc hvc => ?_)
                    obtain ⟨zc, rfl, hzc⟩ := hvc
                    have hn9 := Bt.2.2
                    refine zt_call C Bt V hA (c_J4_append_cf468 l D cB (zc) (n) (k) (by first | assumption | omega | rfl | exact decide_eq_false (by omega) | exact decide_eq_true (by assumption) | exact decide_eq_true (by omega) | exact one_shl33 (by omega) | exact pm_lt _ _ | exact rm_lt (by first | assumption | exact pm_lt _ _) | exact Nat.lt_of_le_of_lt (Nat.shiftRight_le _ _) (by assumption) | exact Nat.lt_of_le_of_lt Nat.and_le_right (by omega)) (by first | assumption | omega | rfl | exact decide_eq_false (by omega) | exact decide_eq_true (by assumption) | exact decide_eq_true (by omega) | exact one_shl33 (by omega) | exact pm_lt _ _ | exact rm_lt (by first | assumption | exact pm_lt _ _) | exact Nat.lt_of_le_of_lt (Nat.shiftRight_le _ _) (by assumption) | exact Nat.lt_of_le_of_lt Nat.and_le_right (by omega)) (by first | assumption | omega | rfl | exact decide_eq_false (by omega) | exact decide_eq_true (by assumption) | exact decide_eq_true (by omega) | exact one_shl33 (by omega) | exact pm_lt _ _ | exact rm_lt (by first | assumption | exact pm_lt _ _) | exact Nat.lt_of_le_of_lt (Nat.shiftRight_le _ _) (by assumption) | exact Nat.lt_of_le_of_lt Nat.and_le_right (by omega))) ml_X5_121 (C.2.2.2.2 _ (T0_of zi_J4_append_cf468.2.1 rfl)) ⟨Nat.le_of_ble_eq_true rfl, Nat.le_of_ble_eq_true rfl⟩ ⟨by show ce + 1 ≤ 40; omega, by show sl + 520 ≤ 18500; omega⟩ hl (Nat.le_of_ble_eq_true rfl) rfl dX5_code_96 (fun v96 k96 H locs hp96 Bt hq => ?_)
                    have B : zIn D 4 cJ o a c [.int (iZ ((0))), .int (((ac))), .int (((re))), .int (((kn)))] s H locs := ⟨B.1.kept (hq o B.1.lt.1 (by omega)) (hq a B.1.lt.2 (by omega)), Bt.2.1⟩
                    have hp96 : (n) + 1 ≤ (k96) ∧ (k96) ≤ 2 * ((n) + 1) + 16 := hp96
                    refine lv_pop C.1 C.2.1 dX5_code_99 rfl ?_
                    refine lv_lload_n C.1 C.2.1 dX5_code_100 rfl (lv_at hl 3 rfl) ?_
                    refine lv_iload_n C.1 C.2.1 dX5_code_101 rfl (lv_at hl 2 rfl) ?_
                    refine z_i2l C ((r).toNat) (by omega) (by omega) dX5_code_102 ?_
                    refine z_ldiv C (by omega) (by omega) dX5_code_103 ?_
                    refine lv_lstore_n (lv' := [(3, .long (lN ((x3) / ((r).toNat)))), (0, .ref o), (1, .int (iZ (z))), (2, .int (iZ (r))), (5, .ref b)]) C.1 C.2.1 dX5_code_104 rfl hl (by decide) rfl (fun ls hl => ?_)
                    refine lv_goto (tgt := 71) C.1 C.2.1 dX5_code_105 (by decide) ?_
                    have hd9 := tp_div (x := x3) (r := r.toNat) (by omega) (by omega)
                    have hd8 := tp_ge (x3 / r.toNat)
                    exact ih71 (b) (v96) ((n) + 1) (k96) ((ce + 1)) ((sl + 520)) _ _ _ _ (by omega) (by exact Nat.lt_of_le_of_lt (Nat.div_le_self _ _) (by omega)) (by omega) (by omega) (by omega) (by omega) (by omega) ⟨B, Bt⟩ (lv_sub hl [1, 2, 3, 0, 4] rfl)
              have ht9 := tp33.mp i40_1
              exact L71 _ (b) (v) (0) (16) ((((0 + 0) + 0) + 2)) ((((0 + 0) + 0) + 20)) _ _ _ _ (by exact Nat.lt_succ_self _) (by omega) (by omega) (by omega) (by omega) (by omega) (by omega) ⟨B, Bt⟩ (lv_sub hl [1, 2, 3, 4, 0] rfl)
            · refine lv_lload_n C.1 C.2.1 dX5_code_54 rfl (lv_at hl 3 rfl) ?_
              refine lv_iload_n C.1 C.2.1 dX5_code_55 rfl (lv_at hl 2 rfl) ?_
              refine z_i2l C ((r).toNat) (by omega) (by omega) dX5_code_56 ?_
              refine z_lmul C dX5_code_57 ?_
              refine lv_lstore_n (lv' := [(3, .long (lN ((x3) * ((r).toNat)))), (0, .ref o), (1, .int (iZ (z))), (2, .int (iZ (r)))]) C.1 C.2.1 dX5_code_58 rfl hl (by decide) rfl (fun ls hl => ?_)
              refine lv_goto (tgt := 40) C.1 C.2.1 dX5_code_59 (by decide) ?_
              have h8 : x3 * r.toNat ≤ c z.toNat := by have g1 := (Nat.le_div_iff_mul_le (x := r.toNat) (y := c z.toNat) (k := x3) (by omega)).mp (by omega); rw [Nat.mul_comm]; exact g1
              have h7 : x3 * 2 ≤ x3 * r.toNat := Nat.mul_le_mul_left _ (by omega)
              exact ih40  _ _ (by omega) (by omega) (by omega) (lv_sub hl [1, 2, 3, 0] rfl)
        exact L40 _  _ _ (by exact Nat.lt_succ_self _) (by omega) (by omega) (lv_sub hl [1, 2, 3, 0] rfl)
      · exact absurd h32 (by decide)
    · exact absurd (of_decide_eq_false h20) (by omega)

set_option maxHeartbeats 4000000 in
set_option maxRecDepth 100000 in
theorem c_X5_factors_no (l : Launch) (D : va_G) (cB cJ : ClassId) (o a : Nat) (c : Nat → Nat) (th : Int) (ac : Int32) (re : Int32) (kn : Int32) (z : Int) (hz : 0 ≤ z ∧ z ≤ 5) (hg : ¬ (0 ≤ tp (c z.toNat) ∧ tp (c z.toNat) ≤ 8)) : zAV l yX5_factors 2 69 0 0 D cB 4 cJ o a [.int (iZ (z))] c [.int (iZ (th)), .int (ac), .int (re), .int (kn)] (fun v => ∃ q, v = some (.ref q)) (c) [.int (iZ (0)), .int (ac), .int (re + iZ (1)), .int (kn)] := by
  refine zAV.intro (lo := 44) (nA := 1) (own := RX5) zi_X5_factors (by decide) rfl rfl (by decide +kernel) rfl (Nat.le_of_ble_eq_true rfl) ?_
  intro p e s m below meth c0 ls C hr hk B K V hl
  have hl : lv_has ls 6 [(0, .ref o), (1, .int (iZ (z)))] := hl
  have ho9 := B.1.lt
  have hA : ∀ q, s.heap.size ≤ q → zF o a s.heap.size q := fun _ h => Or.inr (Or.inr h)
  refine lv_aload_n C.1 C.2.1 dX5_factors_0 rfl (lv_at hl 0 rfl) ?_
  refine lv_iload_n C.1 C.2.1 dX5_factors_1 rfl (lv_at hl 1 rfl) ?_
  refine z_call C (c_X5_isNo l (z) (by first | assumption | omega | rfl | exact decide_eq_false (by omega) | exact decide_eq_true (by assumption) | exact decide_eq_true (by omega) | exact one_shl33 (by omega) | exact pm_lt _ _ | exact rm_lt (by first | assumption | exact pm_lt _ _) | exact Nat.lt_of_le_of_lt (Nat.shiftRight_le _ _) (by assumption) | exact Nat.lt_of_le_of_lt Nat.and_le_right (by omega))) ml_X5_67 ⟨by decide, by decide⟩ ⟨Nat.le_of_ble_eq_true rfl, Nat.le_of_ble_eq_true rfl⟩ hl (Nat.le_of_ble_eq_true rfl) rfl dX5_factors_2 ?_
  refine z_iconst C dX5_factors_5 ?_
  refine zo_callD C B (r := some (.int (iZ (zB (false))))) (c_X5_start_ok l D cJ o a (c) (th) (ac) (re) (kn) (decide (¬ (0 ≤ (z) ∧ (z) ≤ 5))) (1 : Int) (by first | assumption | omega | rfl | exact decide_eq_false (by omega) | exact decide_eq_true (by assumption) | exact decide_eq_true (by omega) | exact one_shl33 (by omega) | exact pm_lt _ _ | exact rm_lt (by first | assumption | exact pm_lt _ _) | exact Nat.lt_of_le_of_lt (Nat.shiftRight_le _ _) (by assumption) | exact Nat.lt_of_le_of_lt Nat.and_le_right (by omega))) ml_X5_71 rfl ⟨Nat.le_of_ble_eq_true rfl, Nat.le_of_ble_eq_true rfl⟩ ⟨Nat.le_of_ble_eq_true rfl, Nat.le_of_ble_eq_true rfl⟩ hl (Nat.le_of_ble_eq_true rfl) rfl dX5_factors_6 (fun H locs B => ?_)
  refine z_ifB_eq (tgt := 15) C dX5_factors_9 (by decide) (fun h9 => ?_) (fun h9 => ?_)
  · refine lv_aload_n C.1 C.2.1 dX5_factors_15 rfl (lv_at hl 0 rfl) ?_
    refine zo_get C B (Cn := RX5) (T := TX5) (N := 5) (v := .ref a) rfl inX5 0 (by decide) fl_X5_7 rfl rfl dX5_factors_16 ?_
    refine lv_iload_n C.1 C.2.1 dX5_factors_19 rfl (lv_at hl 1 rfl) ?_
    refine zo_lald C B ((z).toNat) (by omega) (by omega) dX5_factors_20 ?_
    have q20 := B.1.2.2.2 ((z).toNat)
    refine z_call C (c_X5_degreeOf l (c ((z).toNat)) (by first | assumption | omega | rfl | exact decide_eq_false (by omega) | exact decide_eq_true (by assumption) | exact decide_eq_true (by omega) | exact one_shl33 (by omega) | exact pm_lt _ _ | exact rm_lt (by first | assumption | exact pm_lt _ _) | exact Nat.lt_of_le_of_lt (Nat.shiftRight_le _ _) (by assumption) | exact Nat.lt_of_le_of_lt Nat.and_le_right (by omega))) ml_X5_33 ⟨by decide, by decide⟩ ⟨Nat.le_of_ble_eq_true rfl, Nat.le_of_ble_eq_true rfl⟩ hl (Nat.le_of_ble_eq_true rfl) rfl dX5_factors_21 ?_
    have q21_0 := tp_rngE (c ((z).toNat)) (by first | assumption | omega | exact pm_lt _ _ | exact rm_lt (by assumption))
    refine z_iconst C dX5_factors_24 ?_
    refine z_bipush C dX5_factors_25 (by decide) ?_
    refine z_call C (c_X5_isIn l (tp (c ((z).toNat))) (0 : Int) (8 : Int) (by first | assumption | omega | rfl | exact decide_eq_false (by omega) | exact decide_eq_true (by assumption) | exact decide_eq_true (by omega) | exact one_shl33 (by omega) | exact pm_lt _ _ | exact rm_lt (by first | assumption | exact pm_lt _ _) | exact Nat.lt_of_le_of_lt (Nat.shiftRight_le _ _) (by assumption) | exact Nat.lt_of_le_of_lt Nat.and_le_right (by omega)) (by first | assumption | omega | rfl | exact decide_eq_false (by omega) | exact decide_eq_true (by assumption) | exact decide_eq_true (by omega) | exact one_shl33 (by omega) | exact pm_lt _ _ | exact rm_lt (by first | assumption | exact pm_lt _ _) | exact Nat.lt_of_le_of_lt (Nat.shiftRight_le _ _) (by assumption) | exact Nat.lt_of_le_of_lt Nat.and_le_right (by omega)) (by first | assumption | omega | rfl | exact decide_eq_false (by omega) | exact decide_eq_true (by assumption) | exact decide_eq_true (by omega) | exact one_shl33 (by omega) | exact pm_lt _ _ | exact rm_lt (by first | assumption | exact pm_lt _ _) | exact Nat.lt_of_le_of_lt (Nat.shiftRight_le _ _) (by assumption) | exact Nat.lt_of_le_of_lt Nat.and_le_right (by omega))) ml_X5_21 ⟨by decide, by decide⟩ ⟨Nat.le_of_ble_eq_true rfl, Nat.le_of_ble_eq_true rfl⟩ hl (Nat.le_of_ble_eq_true rfl) rfl dX5_factors_27 ?_
    refine z_ifB_ne (tgt := 46) C dX5_factors_30 (by decide) (fun h30 => ?_) (fun h30 => ?_)
    · exact absurd (of_decide_eq_true h30) hg
    · refine lv_aload_n C.1 C.2.1 dX5_factors_33 rfl (lv_at hl 0 rfl) ?_
      refine lv_dup C.1 C.2.1 dX5_factors_34 rfl ?_
      refine zo_get C B (Cn := RX5) (T := TX5) (N := 5) (v := .int ((re))) rfl inX5 3 (by decide) fl_X5_56 rfl rfl dX5_factors_35 ?_
      refine z_iconst C dX5_factors_38 ?_
      refine lv_iadd C.1 C.2.1 dX5_factors_39 ?_
      refine zo_put C B (Cn := RX5) (T := TX5) (N := 5) (fs2 := [.int (iZ (0)), .int ((ac)), .int (((re)) + iZ (1)), .int ((kn))]) rfl inX5 tyX5 tyX5_ok nmX5 2 (by decide) fl_X5_56 rfl rfl (by decide +kernel) (Nat.le_of_ble_eq_true rfl) rfl dX5_factors_40 (fun H locs B => ?_)
      refine zt_ldc C V.t.2.2.2.2.2.1 dX5_factors_43 (fun q => ?_)
      exact zo_aret C B hr hk (Nat.le_of_ble_eq_true rfl) (Nat.le_of_ble_eq_true rfl) dX5_factors_45 ⟨_, rfl⟩ rfl rfl
  · exact absurd h9 (by decide)

set_option maxHeartbeats 4000000 in
set_option maxRecDepth 100000 in
theorem c_X5_factors_ok (l : Launch) (D : va_G) (cB cJ : ClassId) (o a : Nat) (c : Nat → Nat) (th : Int) (ac : Int32) (re : Int32) (kn : Int32) (z : Int) (hz : 0 ≤ z ∧ z ≤ 5) (hg : 0 ≤ tp (c z.toNat) ∧ tp (c z.toNat) ≤ 8) : zAV l yX5_factors 6 190 24 10000 D cB 4 cJ o a [.int (iZ (z))] c [.int (iZ (th)), .int (ac), .int (re), .int (kn)] (fun v => ∃ q, v = some (.ref q)) (c) [.int (iZ (0)), .int (ac), .int (re), .int (kn)] := by
  refine zAV.intro (lo := 165) (nA := 1) (own := RX5) zi_X5_factors (by decide) rfl rfl (by decide +kernel) rfl (Nat.le_of_ble_eq_true rfl) ?_
  intro p e s m below meth c0 ls C hr hk B K V hl
  have hl : lv_has ls 6 [(0, .ref o), (1, .int (iZ (z)))] := hl
  have ho9 := B.1.lt
  have hA : ∀ q, s.heap.size ≤ q → zF o a s.heap.size q := fun _ h => Or.inr (Or.inr h)
  refine lv_aload_n C.1 C.2.1 dX5_factors_0 rfl (lv_at hl 0 rfl) ?_
  refine lv_iload_n C.1 C.2.1 dX5_factors_1 rfl (lv_at hl 1 rfl) ?_
  refine z_call C (c_X5_isNo l (z) (by first | assumption | omega | rfl | exact decide_eq_false (by omega) | exact decide_eq_true (by assumption) | exact decide_eq_true (by omega) | exact one_shl33 (by omega) | exact pm_lt _ _ | exact rm_lt (by first | assumption | exact pm_lt _ _) | exact Nat.lt_of_le_of_lt (Nat.shiftRight_le _ _) (by assumption) | exact Nat.lt_of_le_of_lt Nat.and_le_right (by omega))) ml_X5_67 ⟨by decide, by decide⟩ ⟨Nat.le_of_ble_eq_true rfl, Nat.le_of_ble_eq_true rfl⟩ hl (Nat.le_of_ble_eq_true rfl) rfl dX5_factors_2 ?_
  refine z_iconst C dX5_factors_5 ?_
  refine zo_callD C B (r := some (.int (iZ (zB (false))))) (c_X5_start_ok l D cJ o a (c) (th) (ac) (re) (kn) (decide (¬ (0 ≤ (z) ∧ (z) ≤ 5))) (1 : Int) (by first | assumption | omega | rfl | exact decide_eq_false (by omega) | exact decide_eq_true (by assumption) | exact decide_eq_true (by omega) | exact one_shl33 (by omega) | exact pm_lt _ _ | exact rm_lt (by first | assumption | exact pm_lt _ _) | exact Nat.lt_of_le_of_lt (Nat.shiftRight_le _ _) (by assumption) | exact Nat.lt_of_le_of_lt Nat.and_le_right (by omega))) ml_X5_71 rfl ⟨Nat.le_of_ble_eq_true rfl, Nat.le_of_ble_eq_true rfl⟩ ⟨Nat.le_of_ble_eq_true rfl, Nat.le_of_ble_eq_true rfl⟩ hl (Nat.le_of_ble_eq_true rfl) rfl dX5_factors_6 (fun H locs B => ?_)
  refine z_ifB_eq (tgt := 15) C dX5_factors_9 (by decide) (fun h9 => ?_) (fun h9 => ?_)
  · refine lv_aload_n C.1 C.2.1 dX5_factors_15 rfl (lv_at hl 0 rfl) ?_
    refine zo_get C B (Cn := RX5) (T := TX5) (N := 5) (v := .ref a) rfl inX5 0 (by decide) fl_X5_7 rfl rfl dX5_factors_16 ?_
    refine lv_iload_n C.1 C.2.1 dX5_factors_19 rfl (lv_at hl 1 rfl) ?_
    refine zo_lald C B ((z).toNat) (by omega) (by omega) dX5_factors_20 ?_
    have q20 := B.1.2.2.2 ((z).toNat)
    refine z_call C (c_X5_degreeOf l (c ((z).toNat)) (by first | assumption | omega | rfl | exact decide_eq_false (by omega) | exact decide_eq_true (by assumption) | exact decide_eq_true (by omega) | exact one_shl33 (by omega) | exact pm_lt _ _ | exact rm_lt (by first | assumption | exact pm_lt _ _) | exact Nat.lt_of_le_of_lt (Nat.shiftRight_le _ _) (by assumption) | exact Nat.lt_of_le_of_lt Nat.and_le_right (by omega))) ml_X5_33 ⟨by decide, by decide⟩ ⟨Nat.le_of_ble_eq_true rfl, Nat.le_of_ble_eq_true rfl⟩ hl (Nat.le_of_ble_eq_true rfl) rfl dX5_factors_21 ?_
    have q21_0 := tp_rngE (c ((z).toNat)) (by first | assumption | omega | exact pm_lt _ _ | exact rm_lt (by assumption))
    refine z_iconst C dX5_factors_24 ?_
    refine z_bipush C dX5_factors_25 (by decide) ?_
    refine z_call C (c_X5_isIn l (tp (c ((z).toNat))) (0 : Int) (8 : Int) (by first | assumption | omega | rfl | exact decide_eq_false (by omega) | exact decide_eq_true (by assumption) | exact decide_eq_true (by omega) | exact one_shl33 (by omega) | exact pm_lt _ _ | exact rm_lt (by first | assumption | exact pm_lt _ _) | exact Nat.lt_of_le_of_lt (Nat.shiftRight_le _ _) (by assumption) | exact Nat.lt_of_le_of_lt Nat.and_le_right (by omega)) (by first | assumption | omega | rfl | exact decide_eq_false (by omega) | exact decide_eq_true (by assumption) | exact decide_eq_true (by omega) | exact one_shl33 (by omega) | exact pm_lt _ _ | exact rm_lt (by first | assumption | exact pm_lt _ _) | exact Nat.lt_of_le_of_lt (Nat.shiftRight_le _ _) (by assumption) | exact Nat.lt_of_le_of_lt Nat.and_le_right (by omega)) (by first | assumption | omega | rfl | exact decide_eq_false (by omega) | exact decide_eq_true (by assumption) | exact decide_eq_true (by omega) | exact one_shl33 (by omega) | exact pm_lt _ _ | exact rm_lt (by first | assumption | exact pm_lt _ _) | exact Nat.lt_of_le_of_lt (Nat.shiftRight_le _ _) (by assumption) | exact Nat.lt_of_le_of_lt Nat.and_le_right (by omega))) ml_X5_21 ⟨by decide, by decide⟩ ⟨Nat.le_of_ble_eq_true rfl, Nat.le_of_ble_eq_true rfl⟩ hl (Nat.le_of_ble_eq_true rfl) rfl dX5_factors_27 ?_
    refine z_ifB_ne (tgt := 46) C dX5_factors_30 (by decide) (fun h30 => ?_) (fun h30 => ?_)
    · have e9 := (tp_le (n := c z.toNat) (k := 8)).mp (by omega)
      have e8 : ¬ c z.toNat = 0 := fun g => absurd (tp_neg.mpr g) (by omega)
      refine zt_new C K V B.2 hA cl_X5_115 ml_X5_117 ⟨Nat.le_of_ble_eq_true rfl, Nat.le_of_ble_eq_true rfl⟩ ⟨Nat.le_of_ble_eq_true rfl, Nat.le_of_ble_eq_true rfl⟩ hl (Nat.le_of_ble_eq_true rfl) dX5_factors_46 dX5_factors_49 dX5_factors_50 (fun b v H locs Bt hq => ?_)
      have B : zIn D 4 cJ o a c [.int (iZ (0)), .int ((ac)), .int ((re)), .int ((kn))] s H locs := ⟨B.1.kept (hq o B.1.lt.1) (hq a B.1.lt.2), Bt.2.1⟩
      refine lv_astore_n (lv' := [(2, .ref b), (0, .ref o), (1, .int (iZ (z)))]) C.1 C.2.1 dX5_factors_53 rfl hl (by decide) rfl (fun ls hl => ?_)
      refine lv_aload_n C.1 C.2.1 dX5_factors_54 rfl (lv_at hl 1 rfl) ?_
      refine zo_get C B (Cn := RX5) (T := TX5) (N := 5) (v := .ref a) rfl inX5 0 (by decide) fl_X5_7 rfl rfl dX5_factors_55 ?_
      refine lv_iload_n C.1 C.2.1 dX5_factors_58 rfl (lv_at hl 2 rfl) ?_
      refine zo_lald C B ((z).toNat) (by omega) (by omega) dX5_factors_59 ?_
      have q59 := B.1.2.2.2 ((z).toNat)
      refine lv_lstore_n (lv' := [(3, .long (lN (c ((z).toNat)))), (2, .ref b), (0, .ref o), (1, .int (iZ (z)))]) C.1 C.2.1 dX5_factors_60 rfl hl (by decide) rfl (fun ls hl => ?_)
      refine z_iconst C dX5_factors_61 ?_
      refine lv_istore (lv' := [(5, .int (iZ (2))), (3, .long (lN (c ((z).toNat)))), (2, .ref b), (0, .ref o), (1, .int (iZ (z)))]) C.1 C.2.1 dX5_factors_62 hl (by decide) rfl (fun ls hl => ?_)
      have L64 : ∀ (j : Nat) (b : Nat) (v : Nat) (n : Nat) (k : Nat) (ce : Nat) (sl : Nat) (x3 : Nat) (x5 : Int) (H : Heap) (locs : List Loc) (ls : Array Slot), (513 - x5).toNat < j → (2 ≤ x5 ∧ x5 ≤ 512) → (1 ≤ x3 ∧ x3 < 512) → ((n : Int) + 4 * tp x3 ≤ 32) → (n ≤ k ∧ k ≤ 2 * n + 16) → ((ce : Int) + 2 * tp x3 ≤ 18) → ((sl : Int) + 1040 * tp x3 ≤ 8340) → (nd x3 x5.toNat) → (zIn D 4 cJ o a c [.int (iZ (0)), .int (ac), .int (re), .int (kn)] s H locs ∧ zTn (zF o a s.heap.size) D cB b v n k s H locs) → lv_has ls 6 [(0, .ref o), (1, .int (iZ (z))), (2, .ref b), (3, .long (lN (x3))), (5, .int (iZ (x5)))] → W p l e { frames := 6, cells := 24, slots := 10000, locals := 165 } s m (Value.ref o :: ([.int (iZ (z))] : List Value)).toArray below meth c0 H locs ce sl (zE1 below D 4 cJ o a (Value.ref o :: ([.int (iZ (z))] : List Value)).toArray s 24 10000 (fun v => ∃ q, v = some (.ref q)) (c) [.int (iZ (0)), .int (ac), .int (re), .int (kn)]) (F0 m 64 ls []) := by
        intro j
        induction j with
        | zero => intro b v n k ce sl x3 x5 H locs ls hmu; exact absurd hmu (Nat.not_lt_zero _)
        | succ j ih64 =>
          intro b v n k ce sl x3 x5 H locs ls hmu i64_0 i64_1 i64_2 i64_3 i64_4 i64_5 i64_6 B hl
          obtain ⟨B, Bt⟩ := B
          have ht2 := tp_ge x3
          refine lv_lload_n C.1 C.2.1 dX5_factors_64 rfl (lv_at hl 3 rfl) ?_
          refine z_lconst (k0 := 1) C dX5_factors_65 rfl ?_
          refine z_lc_eq (tgt := 120) C (by first | assumption | omega | rfl | exact decide_eq_false (by omega) | exact decide_eq_true (by assumption) | exact decide_eq_true (by omega) | exact one_shl33 (by omega) | exact pm_lt _ _ | exact rm_lt (by first | assumption | exact pm_lt _ _) | exact Nat.lt_of_le_of_lt (Nat.shiftRight_le _ _) (by assumption) | exact Nat.lt_of_le_of_lt Nat.and_le_right (by omega)) (by first | assumption | omega | rfl | exact decide_eq_false (by omega) | exact decide_eq_true (by assumption) | exact decide_eq_true (by omega) | exact one_shl33 (by omega) | exact pm_lt _ _ | exact rm_lt (by first | assumption | exact pm_lt _ _) | exact Nat.lt_of_le_of_lt (Nat.shiftRight_le _ _) (by assumption) | exact Nat.lt_of_le_of_lt Nat.and_le_right (by omega)) dX5_factors_66 dX5_factors_67 (by decide) (fun h66 => ?_) (fun h66 => ?_)
          · refine lv_aload_n C.1 C.2.1 dX5_factors_120 rfl (lv_at hl 2 rfl) ?_
            have hn9 := Bt.2.2
            refine zt_str C Bt V hA (c_J4_toString_0e30d l D cB (n) (k) (by omega)) ml_X5_128 ⟨Nat.le_of_ble_eq_true rfl, Nat.le_of_ble_eq_true rfl⟩ ⟨by show ce + 2 ≤ 24; omega, by show sl + 524 ≤ 10000; omega⟩ hl (Nat.le_of_ble_eq_true rfl) dX5_factors_121 (fun q H locs S hq => ?_)
            have B : zIn D 4 cJ o a c [.int (iZ (0)), .int ((ac)), .int ((re)), .int ((kn))] s H locs := ⟨B.1.kept (hq o B.1.lt.1 (by omega)) (hq a B.1.lt.2 (by omega)), S⟩
            exact zo_aret C B hr hk (by omega) (by omega) dX5_factors_124 ⟨_, rfl⟩ rfl rfl
          · have L70 : ∀ (j : Nat) (b : Nat) (v : Nat) (n : Nat) (k : Nat) (ce : Nat) (sl : Nat) (x3 : Nat) (H : Heap) (locs : List Loc) (ls : Array Slot), (tp x3 + 1).toNat < j → (1 ≤ x3 ∧ x3 < 512) → ((n : Int) + 4 * tp x3 ≤ 32) → (n ≤ k ∧ k ≤ 2 * n + 16) → ((ce : Int) + 2 * tp x3 ≤ 18) → ((sl : Int) + 1040 * tp x3 ≤ 8340) → (nd x3 x5.toNat) → (x5 ≤ 511) → (zIn D 4 cJ o a c [.int (iZ (0)), .int (ac), .int (re), .int (kn)] s H locs ∧ zTn (zF o a s.heap.size) D cB b v n k s H locs) → lv_has ls 6 [(0, .ref o), (1, .int (iZ (z))), (2, .ref b), (3, .long (lN (x3))), (5, .int (iZ (x5)))] → W p l e { frames := 6, cells := 24, slots := 10000, locals := 165 } s m (Value.ref o :: ([.int (iZ (z))] : List Value)).toArray below meth c0 H locs ce sl (zE1 below D 4 cJ o a (Value.ref o :: ([.int (iZ (z))] : List Value)).toArray s 24 10000 (fun v => ∃ q, v = some (.ref q)) (c) [.int (iZ (0)), .int (ac), .int (re), .int (kn)]) (F0 m 70 ls []) := by
              intro j
              induction j with
              | zero => intro b v n k ce sl x3 H locs ls hmu; exact absurd hmu (Nat.not_lt_zero _)
              | succ j ih70 =>
                intro b v n k ce sl x3 H locs ls hmu i70_0 i70_1 i70_2 i70_3 i70_4 i70_5 i70_6 B hl
                obtain ⟨B, Bt⟩ := B
                have ht2 := tp_ge x3
                refine lv_lload_n C.1 C.2.1 dX5_factors_70 rfl (lv_at hl 3 rfl) ?_
                refine lv_iload C.1 C.2.1 dX5_factors_71 (lv_at hl 4 rfl) ?_
                refine z_i2l C ((x5).toNat) (by omega) (by omega) dX5_factors_73 ?_
                refine z_call C (c_X5_restOf l (x3) ((x5).toNat) (by first | assumption | omega | rfl | exact decide_eq_false (by omega) | exact decide_eq_true (by assumption) | exact decide_eq_true (by omega) | exact one_shl33 (by omega) | exact pm_lt _ _ | exact rm_lt (by first | assumption | exact pm_lt _ _) | exact Nat.lt_of_le_of_lt (Nat.shiftRight_le _ _) (by assumption) | exact Nat.lt_of_le_of_lt Nat.and_le_right (by omega)) (by first | assumption | omega | rfl | exact decide_eq_false (by omega) | exact decide_eq_true (by assumption) | exact decide_eq_true (by omega) | exact one_shl33 (by omega) | exact pm_lt _ _ | exact rm_lt (by first | assumption | exact pm_lt _ _) | exact Nat.lt_of_le_of_lt (Nat.shiftRight_le _ _) (by assumption) | exact Nat.lt_of_le_of_lt Nat.and_le_right (by omega)) (by first | assumption | omega | rfl | exact decide_eq_false (by omega) | exact decide_eq_true (by assumption) | exact decide_eq_true (by omega) | exact one_shl33 (by omega) | exact pm_lt _ _ | exact rm_lt (by first | assumption | exact pm_lt _ _) | exact Nat.lt_of_le_of_lt (Nat.shiftRight_le _ _) (by assumption) | exact Nat.lt_of_le_of_lt Nat.and_le_right (by omega))) ml_X5_46 ⟨by decide, by decide⟩ ⟨by show ce + 0 ≤ 24; omega, by show sl + 0 ≤ 10000; omega⟩ hl (Nat.le_of_ble_eq_true rfl) rfl dX5_factors_74 ?_
                refine z_lconst (k0 := 0) C dX5_factors_77 rfl ?_
                refine z_lc_ne (tgt := 114) C (by exact rm_lt (by omega)) (by omega) dX5_factors_78 dX5_factors_79 (by decide) (fun h78 => ?_) (fun h78 => ?_)
                · refine z_iinc (j := 4) (lv' := [(5, .int (iZ (x5 + 1))), (0, .ref o), (1, .int (iZ (z))), (2, .ref b), (3, .long (lN (x3)))]) C dX5_factors_114 hl rfl (by decide) rfl (fun ls hl => ?_)
                  refine lv_goto (tgt := 64) C.1 C.2.1 dX5_factors_117 (by decide) ?_
                  exact ih64 (b) (v) (n) (k) (ce) (sl) _ _ _ _ _ (by omega) (by omega) (by omega) (by omega) (by omega) (by omega) (by omega) (by exact nd_s i70_5 h78 (by omega)) ⟨B, Bt⟩ (lv_sub hl [1, 2, 3, 4, 0] rfl)
                · have h2x : 2 ≤ x3 := by refine Nat.le_of_not_lt fun g => ?_; rw [show x3 = 1 by omega] at h78; exact rm1_ne (by omega) (by omega) h78
                  have ht1 := tp_2 h2x
                  refine lv_aload_n C.1 C.2.1 dX5_factors_82 rfl (lv_at hl 2 rfl) ?_
                  have hn9 := Bt.2.2
                  refine zt_call C Bt V hA (c_J4_length_8abf5 l D cB  (n) (k) ) ml_X5_118 (C.2.2.2.2 _ (T0_of zi_J4_length_8abf5.2.1 rfl)) ⟨Nat.le_of_ble_eq_true rfl, Nat.le_of_ble_eq_true rfl⟩ ⟨by show ce + 0 ≤ 24; omega, by show sl + 0 ≤ 10000; omega⟩ hl (Nat.le_of_ble_eq_true rfl) rfl dX5_factors_83 (fun v83 k83 H locs hp83 Bt hq => ?_)
                  have B : zIn D 4 cJ o a c [.int (iZ (0)), .int ((ac)), .int ((re)), .int ((kn))] s H locs := ⟨B.1.kept (hq o B.1.lt.1 (by omega)) (hq a B.1.lt.2 (by omega)), Bt.2.1⟩
                  obtain ⟨rfl, rfl⟩ := hp83
                  refine z_if_le (tgt := 96) C (by omega) dX5_factors_86 (by decide) (fun h86 => ?_) (fun h86 => ?_)
                  · refine lv_aload_n C.1 C.2.1 dX5_factors_96 rfl (lv_at hl 2 rfl) ?_
                    refine lv_iload C.1 C.2.1 dX5_factors_97 (lv_at hl 4 rfl) ?_
                    have hn9 := Bt.2.2
                    refine zt_call C Bt V hA (c_J4_append_bf812 l D cB (x5) ((n)) (k) (by first | assumption | omega | rfl | exact decide_eq_false (by omega) | exact decide_eq_true (by assumption) | exact decide_eq_true (by omega) | exact one_shl33 (by omega) | exact pm_lt _ _ | exact rm_lt (by first | assumption | exact pm_lt _ _) | exact Nat.lt_of_le_of_lt (Nat.shiftRight_le _ _) (by assumption) | exact Nat.lt_of_le_of_lt Nat.and_le_right (by omega)) (by first | assumption | omega | rfl | exact decide_eq_false (by omega) | exact decide_eq_true (by assumption) | exact decide_eq_true (by omega) | exact one_shl33 (by omega) | exact pm_lt _ _ | exact rm_lt (by first | assumption | exact pm_lt _ _) | exact Nat.lt_of_le_of_lt (Nat.shiftRight_le _ _) (by assumption) | exact Nat.lt_of_le_of_lt Nat.and_le_right (by omega)) (by first | assumption | omega | rfl | exact decide_eq_false (by omega) | exact decide_eq_true (by assumption) | exact decide_eq_true (by omega) | exact one_shl33 (by omega) | exact pm_lt _ _ | exact rm_lt (by first | assumption | exact pm_lt _ _) | exact Nat.lt_of_le_of_lt (Nat.shiftRight_le _ _) (by assumption) | exact Nat.lt_of_le_of_lt Nat.and_le_right (by omega))) ml_X5_125 (C.2.2.2.2 _ (T0_of zi_J4_append_bf812.2.1 rfl)) ⟨Nat.le_of_ble_eq_true rfl, Nat.le_of_ble_eq_true rfl⟩ ⟨by show (ce + 0) + 1 ≤ 24; omega, by show (sl + 0) + 520 ≤ 10000; omega⟩ hl (Nat.le_of_ble_eq_true rfl) rfl dX5_factors_99 (fun v99 k99 H locs hp99 Bt hq => ?_)
                    have B : zIn D 4 cJ o a c [.int (iZ (0)), .int ((ac)), .int ((re)), .int ((kn))] s H locs := ⟨B.1.kept (hq o B.1.lt.1 (by omega)) (hq a B.1.lt.2 (by omega)), Bt.2.1⟩
                    have hp99 : ((n)) + (ssz (x5)).toNat ≤ (k99) ∧ (k99) ≤ 2 * (((n)) + (ssz (x5)).toNat) + 16 := hp99
                    have q99_0 := ssz_rng (x5)
                    refine lv_pop C.1 C.2.1 dX5_factors_102 rfl ?_
                    refine lv_lload_n C.1 C.2.1 dX5_factors_103 rfl (lv_at hl 3 rfl) ?_
                    refine lv_iload C.1 C.2.1 dX5_factors_104 (lv_at hl 4 rfl) ?_
                    refine z_i2l C ((x5).toNat) (by omega) (by omega) dX5_factors_106 ?_
                    refine z_call C (c_X5_quotientOf l (x3) ((x5).toNat) (by first | assumption | omega | rfl | exact decide_eq_false (by omega) | exact decide_eq_true (by assumption) | exact decide_eq_true (by omega) | exact one_shl33 (by omega) | exact pm_lt _ _ | exact rm_lt (by first | assumption | exact pm_lt _ _) | exact Nat.lt_of_le_of_lt (Nat.shiftRight_le _ _) (by assumption) | exact Nat.lt_of_le_of_lt Nat.and_le_right (by omega)) (by first | assumption | omega | rfl | exact decide_eq_false (by omega) | exact decide_eq_true (by assumption) | exact decide_eq_true (by omega) | exact one_shl33 (by omega) | exact pm_lt _ _ | exact rm_lt (by first | assumption | exact pm_lt _ _) | exact Nat.lt_of_le_of_lt (Nat.shiftRight_le _ _) (by assumption) | exact Nat.lt_of_le_of_lt Nat.and_le_right (by omega)) (by first | assumption | omega | rfl | exact decide_eq_false (by omega) | exact decide_eq_true (by assumption) | exact decide_eq_true (by omega) | exact one_shl33 (by omega) | exact pm_lt _ _ | exact rm_lt (by first | assumption | exact pm_lt _ _) | exact Nat.lt_of_le_of_lt (Nat.shiftRight_le _ _) (by assumption) | exact Nat.lt_of_le_of_lt Nat.and_le_right (by omega))) ml_X5_37 ⟨by decide, by decide⟩ ⟨by show ((ce + 0) + 1) + 0 ≤ 24; omega, by show ((sl + 0) + 520) + 0 ≤ 10000; omega⟩ hl (Nat.le_of_ble_eq_true rfl) rfl dX5_factors_107 ?_
                    refine lv_lstore_n (lv' := [(3, .long (lN (qo (x3) ((x5).toNat)))), (0, .ref o), (1, .int (iZ (z))), (2, .ref b), (5, .int (iZ (x5)))]) C.1 C.2.1 dX5_factors_110 rfl hl (by decide) rfl (fun ls hl => ?_)
                    refine lv_goto (tgt := 70) C.1 C.2.1 dX5_factors_111 (by decide) ?_
                    have hf := fq_rng (a := x3) (b := x5.toNat) (by omega) h2x (by omega)
                    have hf1 := qo_1 (x := x3) (b := x5.toNat) (by omega) (by omega) (by omega) (by omega) h78
                    have hf3 := tp_ge (qo x3 x5.toNat)
                    exact ih70 (b) (v99) (((n)) + (ssz (x5)).toNat) (k99) (((ce + 0) + 1)) (((sl + 0) + 520)) _ _ _ _ (by omega) (by omega) (by omega) (by omega) (by omega) (by omega) (by exact nd_q (by omega) h2x (by omega) i70_5 h78) (by omega) ⟨B, Bt⟩ (lv_sub hl [1, 2, 3, 0, 4] rfl)
                  · refine lv_aload_n C.1 C.2.1 dX5_factors_89 rfl (lv_at hl 2 rfl) ?_
                    refine z_bipush C dX5_factors_90 (by decide) ?_
                    have hn9 := Bt.2.2
                    refine zt_call C Bt V hA (c_J4_append_cf468 l D cB (32 : Int) ((n)) (k) (by first | assumption | omega | rfl | exact decide_eq_false (by omega) | exact decide_eq_true (by assumption) | exact decide_eq_true (by omega) | exact one_shl33 (by omega) | exact pm_lt _ _ | exact rm_lt (by first | assumption | exact pm_lt _ _) | exact Nat.lt_of_le_of_lt (Nat.shiftRight_le _ _) (by assumption) | exact Nat.lt_of_le_of_lt Nat.and_le_right (by omega)) (by first | assumption | omega | rfl | exact decide_eq_false (by omega) | exact decide_eq_true (by assumption) | exact decide_eq_true (by omega) | exact one_shl33 (by omega) | exact pm_lt _ _ | exact rm_lt (by first | assumption | exact pm_lt _ _) | exact Nat.lt_of_le_of_lt (Nat.shiftRight_le _ _) (by assumption) | exact Nat.lt_of_le_of_lt Nat.and_le_right (by omega)) (by first | assumption | omega | rfl | exact decide_eq_false (by omega) | exact decide_eq_true (by assumption) | exact decide_eq_true (by omega) | exact one_shl33 (by omega) | exact pm_lt _ _ | exact rm_lt (by first | assumption | exact pm_lt _ _) | exact Nat.lt_of_le_of_lt (Nat.shiftRight_le _ _) (by assumption) | exact Nat.lt_of_le_of_lt Nat.and_le_right (by omega))) ml_X5_121 (C.2.2.2.2 _ (T0_of zi_J4_append_cf468.2.1 rfl)) ⟨Nat.le_of_ble_eq_true rfl, Nat.le_of_ble_eq_true rfl⟩ ⟨by show (ce + 0) + 1 ≤ 24; omega, by show (sl + 0) + 520 ≤ 10000; omega⟩ hl (Nat.le_of_ble_eq_true rfl) rfl dX5_factors_92 (fun v92 k92 H locs hp92 Bt hq => ?_)
                    have B : zIn D 4 cJ o a c [.int (iZ (0)), .int ((ac)), .int ((re)), .int ((kn))] s H locs := ⟨B.1.kept (hq o B.1.lt.1 (by omega)) (hq a B.1.lt.2 (by omega)), Bt.2.1⟩
                    have hp92 : ((n)) + 1 ≤ (k92) ∧ (k92) ≤ 2 * (((n)) + 1) + 16 := hp92
                    refine lv_pop C.1 C.2.1 dX5_factors_95 rfl ?_
                    refine lv_aload_n C.1 C.2.1 dX5_factors_96 rfl (lv_at hl 2 rfl) ?_
                    refine lv_iload C.1 C.2.1 dX5_factors_97 (lv_at hl 4 rfl) ?_
                    have hn9 := Bt.2.2
                    refine zt_call C Bt V hA (c_J4_append_bf812 l D cB (x5) (((n)) + 1) (k92) (by first | assumption | omega | rfl | exact decide_eq_false (by omega) | exact decide_eq_true (by assumption) | exact decide_eq_true (by omega) | exact one_shl33 (by omega) | exact pm_lt _ _ | exact rm_lt (by first | assumption | exact pm_lt _ _) | exact Nat.lt_of_le_of_lt (Nat.shiftRight_le _ _) (by assumption) | exact Nat.lt_of_le_of_lt Nat.and_le_right (by omega)) (by first | assumption | omega | rfl | exact decide_eq_false (by omega) | exact decide_eq_true (by assumption) | exact decide_eq_true (by omega) | exact one_shl33 (by omega) | exact pm_lt _ _ | exact rm_lt (by first | assumption | exact pm_lt _ _) | exact Nat.lt_of_le_of_lt (Nat.shiftRight_le _ _) (by assumption) | exact Nat.lt_of_le_of_lt Nat.and_le_right (by omega)) (by first | assumption | omega | rfl | exact decide_eq_false (by omega) | exact decide_eq_true (by assumption) | exact decide_eq_true (by omega) | exact one_shl33 (by omega) | exact pm_lt _ _ | exact rm_lt (by first | assumption | exact pm_lt _ _) | exact Nat.lt_of_le_of_lt (Nat.shiftRight_le _ _) (by assumption) | exact Nat.lt_of_le_of_lt Nat.and_le_right (by omega))) ml_X5_125 (C.2.2.2.2 _ (T0_of zi_J4_append_bf812.2.1 rfl)) ⟨Nat.le_of_ble_eq_true rfl, Nat.le_of_ble_eq_true rfl⟩ ⟨by show ((ce + 0) + 1) + 1 ≤ 24; omega, by show ((sl + 0) + 520) + 520 ≤ 10000; omega⟩ hl (Nat.le_of_ble_eq_true rfl) rfl dX5_factors_99 (fun v99 k99 H locs hp99 Bt hq => ?_)
                    have B : zIn D 4 cJ o a c [.int (iZ (0)), .int ((ac)), .int ((re)), .int ((kn))] s H locs := ⟨B.1.kept (hq o B.1.lt.1 (by omega)) (hq a B.1.lt.2 (by omega)), Bt.2.1⟩
                    have hp99 : (((n)) + 1) + (ssz (x5)).toNat ≤ (k99) ∧ (k99) ≤ 2 * ((((n)) + 1) + (ssz (x5)).toNat) + 16 := hp99
                    have q99_0 := ssz_rng (x5)
                    refine lv_pop C.1 C.2.1 dX5_factors_102 rfl ?_
                    refine lv_lload_n C.1 C.2.1 dX5_factors_103 rfl (lv_at hl 3 rfl) ?_
                    refine lv_iload C.1 C.2.1 dX5_factors_104 (lv_at hl 4 rfl) ?_
                    refine z_i2l C ((x5).toNat) (by omega) (by omega) dX5_factors_106 ?_
                    refine z_call C (c_X5_quotientOf l (x3) ((x5).toNat) (by first | assumption | omega | rfl | exact decide_eq_false (by omega) | exact decide_eq_true (by assumption) | exact decide_eq_true (by omega) | exact one_shl33 (by omega) | exact pm_lt _ _ | exact rm_lt (by first | assumption | exact pm_lt _ _) | exact Nat.lt_of_le_of_lt (Nat.shiftRight_le _ _) (by assumption) | exact Nat.lt_of_le_of_lt Nat.and_le_right (by omega)) (by first | assumption | omega | rfl | exact decide_eq_false (by omega) | exact decide_eq_true (by assumption) | exact decide_eq_true (by omega) | exact one_shl33 (by omega) | exact pm_lt _ _ | exact rm_lt (by first | assumption | exact pm_lt _ _) | exact Nat.lt_of_le_of_lt (Nat.shiftRight_le _ _) (by assumption) | exact Nat.lt_of_le_of_lt Nat.and_le_right (by omega)) (by first | assumption | omega | rfl | exact decide_eq_false (by omega) | exact decide_eq_true (by assumption) | exact decide_eq_true (by omega) | exact one_shl33 (by omega) | exact pm_lt _ _ | exact rm_lt (by first | assumption | exact pm_lt _ _) | exact Nat.lt_of_le_of_lt (Nat.shiftRight_le _ _) (by assumption) | exact Nat.lt_of_le_of_lt Nat.and_le_right (by omega))) ml_X5_37 ⟨by decide, by decide⟩ ⟨by show (((ce + 0) + 1) + 1) + 0 ≤ 24; omega, by show (((sl + 0) + 520) + 520) + 0 ≤ 10000; omega⟩ hl (Nat.le_of_ble_eq_true rfl) rfl dX5_factors_107 ?_
                    refine lv_lstore_n (lv' := [(3, .long (lN (qo (x3) ((x5).toNat)))), (0, .ref o), (1, .int (iZ (z))), (2, .ref b), (5, .int (iZ (x5)))]) C.1 C.2.1 dX5_factors_110 rfl hl (by decide) rfl (fun ls hl => ?_)
                    refine lv_goto (tgt := 70) C.1 C.2.1 dX5_factors_111 (by decide) ?_
                    have hf := fq_rng (a := x3) (b := x5.toNat) (by omega) h2x (by omega)
                    have hf1 := qo_1 (x := x3) (b := x5.toNat) (by omega) (by omega) (by omega) (by omega) h78
                    have hf3 := tp_ge (qo x3 x5.toNat)
                    exact ih70 (b) (v99) ((((n)) + 1) + (ssz (x5)).toNat) (k99) ((((ce + 0) + 1) + 1)) ((((sl + 0) + 520) + 520)) _ _ _ _ (by omega) (by omega) (by omega) (by omega) (by omega) (by omega) (by exact nd_q (by omega) h2x (by omega) i70_5 h78) (by omega) ⟨B, Bt⟩ (lv_sub hl [1, 2, 3, 0, 4] rfl)
            exact L70 _ (b) (v) (n) (k) (ce) (sl) _ _ _ _ (by exact Nat.lt_succ_self _) (by omega) (by omega) (by omega) (by omega) (by omega) (by exact i64_6) (by have := nd_le i64_6 i64_1.2 (by omega); omega) ⟨B, Bt⟩ (lv_sub hl [0, 1, 2, 3, 4] rfl)
      exact L64 _ (b) (v) (0) (16) (((0 + 0) + 2)) (((0 + 0) + 20)) _ _ _ _ _ (by exact Nat.lt_succ_self _) (by omega) (by omega) (by omega) (by omega) (by omega) (by omega) (by exact nd_2 _) ⟨B, Bt⟩ (lv_sub hl [3, 4, 2, 1, 0] rfl)
    · exact absurd (of_decide_eq_false h30) (not_not_intro hg)
  · exact absurd h9 (by decide)

set_option maxHeartbeats 4000000 in
set_option maxRecDepth 100000 in
theorem c_X5_formula (l : Launch) (D : va_G) (cB cJ : ClassId) (o a : Nat) (c : Nat → Nat) (th : Int) (ac : Int32) (re : Int32) (kn : Int32) (d : Int) (hd : 1 ≤ d ∧ d ≤ 8) : zAV l yX5_formula 2 67 0 0 D cB 4 cJ o a [.int (iZ (d))] c [.int (iZ (th)), .int (ac), .int (re), .int (kn)] (fun v => v = some (.int (iZ (fo d)))) (c) [.int (iZ (0)), .int (ac), .int (re), .int (kn)] := by
  refine zAV.intro (lo := 44) (nA := 1) (own := RX5) zi_X5_formula (by decide) rfl rfl (by decide +kernel) rfl (Nat.le_of_ble_eq_true rfl) ?_
  intro p e s m below meth c0 ls C hr hk B K V hl
  have hl : lv_has ls 4 [(0, .ref o), (1, .int (iZ (d)))] := hl
  have ho9 := B.1.lt
  have hA : ∀ q, s.heap.size ≤ q → zF o a s.heap.size q := fun _ h => Or.inr (Or.inr h)
  refine lv_aload_n C.1 C.2.1 dX5_formula_0 rfl (lv_at hl 0 rfl) ?_
  refine lv_iload_n C.1 C.2.1 dX5_formula_1 rfl (lv_at hl 1 rfl) ?_
  refine z_iconst C dX5_formula_2 ?_
  refine z_bipush C dX5_formula_3 (by decide) ?_
  refine z_call C (c_X5_isIn l (d) (1 : Int) (8 : Int) (by first | assumption | omega | rfl | exact decide_eq_false (by omega) | exact decide_eq_true (by assumption) | exact decide_eq_true (by omega) | exact one_shl33 (by omega) | exact pm_lt _ _ | exact rm_lt (by first | assumption | exact pm_lt _ _) | exact Nat.lt_of_le_of_lt (Nat.shiftRight_le _ _) (by assumption) | exact Nat.lt_of_le_of_lt Nat.and_le_right (by omega)) (by first | assumption | omega | rfl | exact decide_eq_false (by omega) | exact decide_eq_true (by assumption) | exact decide_eq_true (by omega) | exact one_shl33 (by omega) | exact pm_lt _ _ | exact rm_lt (by first | assumption | exact pm_lt _ _) | exact Nat.lt_of_le_of_lt (Nat.shiftRight_le _ _) (by assumption) | exact Nat.lt_of_le_of_lt Nat.and_le_right (by omega)) (by first | assumption | omega | rfl | exact decide_eq_false (by omega) | exact decide_eq_true (by assumption) | exact decide_eq_true (by omega) | exact one_shl33 (by omega) | exact pm_lt _ _ | exact rm_lt (by first | assumption | exact pm_lt _ _) | exact Nat.lt_of_le_of_lt (Nat.shiftRight_le _ _) (by assumption) | exact Nat.lt_of_le_of_lt Nat.and_le_right (by omega))) ml_X5_21 ⟨by decide, by decide⟩ ⟨Nat.le_of_ble_eq_true rfl, Nat.le_of_ble_eq_true rfl⟩ hl (Nat.le_of_ble_eq_true rfl) rfl dX5_formula_5 ?_
  refine z_ifB_ne (tgt := 15) C dX5_formula_8 (by decide) (fun h8 => ?_) (fun h8 => ?_)
  · refine z_iconst C dX5_formula_15 ?_
    refine z_iconst C dX5_formula_16 ?_
    refine zo_callD C B (r := some (.int (iZ (zB (false))))) (c_X5_start_ok l D cJ o a (c) (th) (ac) (re) (kn) (false) (1 : Int) (by first | assumption | omega | rfl | exact decide_eq_false (by omega) | exact decide_eq_true (by assumption) | exact decide_eq_true (by omega) | exact one_shl33 (by omega) | exact pm_lt _ _ | exact rm_lt (by first | assumption | exact pm_lt _ _) | exact Nat.lt_of_le_of_lt (Nat.shiftRight_le _ _) (by assumption) | exact Nat.lt_of_le_of_lt Nat.and_le_right (by omega))) ml_X5_71 rfl ⟨Nat.le_of_ble_eq_true rfl, Nat.le_of_ble_eq_true rfl⟩ ⟨Nat.le_of_ble_eq_true rfl, Nat.le_of_ble_eq_true rfl⟩ hl (Nat.le_of_ble_eq_true rfl) rfl dX5_formula_17 (fun H locs B => ?_)
    refine z_ifB_eq (tgt := 25) C dX5_formula_20 (by decide) (fun h20 => ?_) (fun h20 => ?_)
    · obtain ⟨tM, m1, m2⟩ := V.2.2.2.2.1
      refine z_iconst C dX5_formula_25 ?_
      refine lv_istore_n (lv' := [(2, .int (iZ (0))), (0, .ref o), (1, .int (iZ (d)))]) C.1 C.2.1 dX5_formula_26 rfl hl (by decide) rfl (fun ls hl => ?_)
      refine z_iconst C dX5_formula_27 ?_
      refine lv_istore_n (lv' := [(3, .int (iZ (1))), (2, .int (iZ (0))), (0, .ref o), (1, .int (iZ (d)))]) C.1 C.2.1 dX5_formula_28 rfl hl (by decide) rfl (fun ls hl => ?_)
      have L29 : ∀ (j : Nat) (f : Nat) (x2 : Int) (x3 : Int) (ls : Array Slot), 9 - f < j → (x3 = (f : Int) + 1) → (x3 ≤ d + 1) → (x2 = foF d f) → lv_has ls 4 [(0, .ref o), (1, .int (iZ (d))), (2, .int (iZ (x2))), (3, .int (iZ (x3)))] → W p l e { frames := 2, cells := 0, slots := 0, locals := 44 } s m (Value.ref o :: ([.int (iZ (d))] : List Value)).toArray below meth c0 H locs (0 + 0) (0 + 0) (zE1 below D 4 cJ o a (Value.ref o :: ([.int (iZ (d))] : List Value)).toArray s 0 0 (fun v => v = some (.int (iZ (fo d)))) (c) [.int (iZ (0)), .int (ac), .int (re), .int (kn)]) (F0 m 29 ls []) := by
        intro j
        induction j with
        | zero => intro f x2 x3 ls hmu; exact absurd hmu (Nat.not_lt_zero _)
        | succ j ih29 =>
          intro f x2 x3 ls hmu i29_0 i29_1 i29_2 hl
          refine lv_iload_n C.1 C.2.1 dX5_formula_29 rfl (lv_at hl 3 rfl) ?_
          refine lv_iload_n C.1 C.2.1 dX5_formula_30 rfl (lv_at hl 1 rfl) ?_
          refine z_icmp_gt (tgt := 60) C (by omega) (by omega) dX5_formula_31 (by decide) (fun h31 => ?_) (fun h31 => ?_)
          · refine lv_iload_n C.1 C.2.1 dX5_formula_60 rfl (lv_at hl 2 rfl) ?_
            refine lv_iload_n C.1 C.2.1 dX5_formula_61 rfl (lv_at hl 1 rfl) ?_
            refine z_idiv C (by rw [i29_2, show f = d.toNat by omega]; exact (fo_rngE d hd).1) (by omega) dX5_formula_62 ?_
            exact zo_iret C B hr hk (Nat.le_of_ble_eq_true rfl) (Nat.le_of_ble_eq_true rfl) dX5_formula_63 (by exact congrArg (fun z : Int => some (Value.int (iZ z))) (by rw [i29_2, show f = d.toNat by omega]; rfl)) (by rfl) (by rfl)
          · refine lv_iload_n C.1 C.2.1 dX5_formula_34 rfl (lv_at hl 1 rfl) ?_
            refine lv_iload_n C.1 C.2.1 dX5_formula_35 rfl (lv_at hl 3 rfl) ?_
            refine z_irem C (by omega) (by omega) dX5_formula_36 ?_
            refine z_if_ne (tgt := 54) C (by have := Int.emod_nonneg d (b := x3) (by omega); have := Int.emod_lt_of_pos d (b := x3) (by omega); omega) dX5_formula_37 (by decide) (fun h37 => ?_) (fun h37 => ?_)
            · refine z_iinc (j := 3) (lv' := [(3, .int (iZ (x3 + 1))), (0, .ref o), (1, .int (iZ (d))), (2, .int (iZ (x2)))]) C dX5_formula_54 hl rfl (by decide) rfl (fun ls hl => ?_)
              refine lv_goto (tgt := 29) C.1 C.2.1 dX5_formula_57 (by decide) ?_
              have e2 : x3 = ((f + 1 : Nat) : Int) := by omega
              rw [e2] at h37
              exact ih29 (f + 1) _ _ _ (by omega) (by omega) (by omega) (by rw [foF, if_neg h37]; exact i29_2) (lv_sub hl [1, 2, 3, 0] rfl)
            · refine lv_iload_n C.1 C.2.1 dX5_formula_40 rfl (lv_at hl 2 rfl) ?_
              refine zv_gets C m1 B.2 fl_X5_153 dX5_formula_41 ?_
              refine lv_iload_n C.1 C.2.1 dX5_formula_44 rfl (lv_at hl 3 rfl) ?_
              refine va_ti C.1 C.2.1 m2 B.2 (v := .int (iZ (sg (x3)))) (iZ_in (by omega) (by omega)) (by rw [iZ_clamp (by omega), msv_sg (by omega)]) dX5_formula_45 ?_
              refine z_iconst C dX5_formula_46 ?_
              refine lv_iload_n C.1 C.2.1 dX5_formula_47 rfl (lv_at hl 1 rfl) ?_
              refine lv_iload_n C.1 C.2.1 dX5_formula_48 rfl (lv_at hl 3 rfl) ?_
              refine z_idiv C (by omega) (by omega) dX5_formula_49 ?_
              refine z_ishl1 C (((d) / (x3)).toNat) (by have h9 : d / x3 ≤ d := Int.ediv_le_self _ (by omega); have h8 : 0 ≤ d / x3 := Int.ediv_nonneg (by omega) (by omega); omega) (by have h9 : d / x3 ≤ d := Int.ediv_le_self _ (by omega); have h8 : 0 ≤ d / x3 := Int.ediv_nonneg (by omega) (by omega); omega) dX5_formula_50 ?_
              refine z_imul C dX5_formula_51 ?_
              refine z_iadd C dX5_formula_52 ?_
              refine lv_istore_n (lv' := [(2, .int (iZ ((x2) + ((sg (x3)) * (((1 <<< ((d) / (x3)).toNat : Nat) : Int)))))), (0, .ref o), (1, .int (iZ (d))), (3, .int (iZ (x3)))]) C.1 C.2.1 dX5_formula_53 rfl hl (by decide) rfl (fun ls hl => ?_)
              refine z_iinc (j := 3) (lv' := [(3, .int (iZ (x3 + 1))), (2, .int (iZ ((x2) + ((sg (x3)) * (((1 <<< ((d) / (x3)).toNat : Nat) : Int)))))), (0, .ref o), (1, .int (iZ (d)))]) C dX5_formula_54 hl rfl (by decide) rfl (fun ls hl => ?_)
              refine lv_goto (tgt := 29) C.1 C.2.1 dX5_formula_57 (by decide) ?_
              have e2 : x3 = ((f + 1 : Nat) : Int) := by omega
              rw [e2] at h37
              exact ih29 (f + 1) _ _ _ (by omega) (by omega) (by omega) (by rw [foF, if_pos h37, i29_2, e2]) (lv_sub hl [2, 3, 1, 0] rfl)
      exact L29 _ (0) _ _ _ (by exact Nat.lt_succ_self _) (by rfl) (by omega) (by rfl) (lv_sub hl [2, 3, 1, 0] rfl)
    · exact absurd h20 (by decide)
  · exact absurd (of_decide_eq_false h8) (by omega)

end MT
/-! ===== class and model reckon the same: by signs ===== -/
section QA
theorem bitlo {n k i : Nat} (h : n < 2 ^ k) (hi : k ≤ i) : n.testBit i = false := Nat.testBit_lt_two_pow (Nat.lt_of_lt_of_le h (Nat.pow_le_pow_right (by omega) hi))
theorem b33 {n i : Nat} (h : n < 8589934592) (hi : 33 ≤ i) : n.testBit i = false := bitlo (k := 33) h hi
theorem bpF_no (n : Nat) : ∀ g k : Nat, n < 2 ^ k → bpF n g k = -1 := by
  intro g
  induction g with
  | zero => intro k _; rfl
  | succ g ih =>
    intro k h
    rw [bpF_f (bitlo h (Nat.le_refl _))]
    exact ih (k + 1) (Nat.lt_of_lt_of_le h (Nat.pow_le_pow_right (by omega) (by omega)))
theorem bpF_more (n g : Nat) : ∀ f k : Nat, n < 2 ^ (k + f) → bpF n (f + g) k = bpF n f k := by
  intro f
  induction f with
  | zero => intro k h; rw [Nat.zero_add]; exact bpF_no n g k h
  | succ f ih =>
    intro k h
    rw [Nat.add_right_comm]
    cases hb : n.testBit k with
    | true => rw [bpF_t hb, bpF_t hb]
    | false => rw [bpF_f hb, bpF_f hb]; exact ih (k + 1) (by rw [show k + 1 + f = k + (f + 1) by omega]; exact h)
theorem bp_eq {n : Nat} (h : n < 8589934592) : bp n = bpF n 33 0 := bpF_more n 31 33 0 h
theorem bit1 (k i : Nat) : (1 <<< k).testBit i = decide (k = i) := by rw [Nat.one_shiftLeft, Nat.testBit_two_pow]
theorem m55 (i : Nat) : (6148914691236517205 : Nat).testBit i = (decide (i % 2 = 0) && decide (i < 64)) := by
  by_cases h : i < 64
  · have hall : (List.range 64).all (fun i => (6148914691236517205 : Nat).testBit i == decide (i % 2 = 0)) = true := by decide +kernel
    have := List.all_eq_true.mp hall i (List.mem_range.mpr h)
    rw [eq_of_beq this, decide_eq_true h, Bool.and_true]
  · rw [bitlo (k := 64) (by decide) (by omega), decide_eq_false h, Bool.and_false]
theorem mdF_bit (n : Nat) : ∀ k i : Nat, (mdF n k).testBit i = (decide (i % 2 = 0 ∧ i / 2 < k) && n.testBit (i + 1)) := by
  intro k
  induction k with
  | zero => intro i; rw [decide_eq_false (by omega)]; exact Nat.zero_testBit i
  | succ k ih =>
    intro i
    cases hb : n.testBit (2 * k + 1) with
    | true =>
      rw [mdF_t hb, Nat.testBit_or, ih, bit1]
      by_cases e : 2 * k = i
      · subst e
        rw [hb, decide_eq_true (by omega : 2 * k = 2 * k), decide_eq_true (by omega : 2 * k % 2 = 0 ∧ 2 * k / 2 < k + 1)]
        simp
      · rw [decide_eq_false e, Bool.or_false]
        congr 1
        exact decide_eq_decide.mpr (by omega)
    | false =>
      rw [mdF_f hb, ih]
      by_cases e : 2 * k = i
      · subst e
        rw [hb, Bool.and_false, Bool.and_false]
      · congr 1
        exact decide_eq_decide.mpr (by omega)
theorem ehF_bit (n : Nat) : ∀ k i : Nat, (ehF n k).testBit i = (decide (i < k) && n.testBit (2 * i)) := by
  intro k
  induction k with
  | zero => intro i; rw [decide_eq_false (by omega)]; exact Nat.zero_testBit i
  | succ k ih =>
    intro i
    cases hb : n.testBit (2 * k) with
    | true =>
      rw [ehF_t hb, Nat.testBit_or, ih, bit1]
      by_cases e : k = i
      · subst e
        rw [hb, decide_eq_true (rfl : k = k), decide_eq_true (by omega : k < k + 1)]
        simp
      · rw [decide_eq_false e, Bool.or_false]
        congr 1
        exact decide_eq_decide.mpr (by omega)
    | false =>
      rw [ehF_f hb, ih]
      by_cases e : k = i
      · subst e
        rw [hb, Bool.and_false, Bool.and_false]
      · congr 1
        exact decide_eq_decide.mpr (by omega)
theorem dv_eq {n : Nat} (h : n < 8589934592) : dv n = mdF n 16 := by
  refine Nat.eq_of_testBit_eq fun i => ?_
  rw [dv, Nat.testBit_and, Nat.testBit_shiftRight, m55, mdF_bit, Nat.add_comm 1 i]
  by_cases g : i + 1 < 33
  · rw [Bool.and_comm, Bool.and_comm (decide (i % 2 = 0)), decide_eq_true (by omega : i < 64), Bool.true_and]
    congr 1
    exact decide_eq_decide.mpr (by omega)
  · rw [b33 h (by omega), Bool.false_and, Bool.and_false]
theorem eh_eq {n : Nat} (h : n < 8589934592) : eh n = ehF n 17 := by
  refine Nat.eq_of_testBit_eq fun i => ?_
  rw [eh, ehF_bit, ehF_bit]
  by_cases g : 2 * i < 33
  · congr 1
    exact decide_eq_decide.mpr (by omega)
  · rw [b33 h (by omega), Bool.and_false, Bool.and_false]
theorem wE_eq {n : Nat} (h : n < 8589934592) : wE n = wEm n := by rw [wE, wEm, dv_eq h, eh_eq h]
theorem tuF_bit (n T : Nat) : ∀ k i : Nat, k ≤ T + 1 → (tuF n (T : Int) k).testBit i = (decide (i ≤ T ∧ T - i < k) && n.testBit (T - i)) := by
  intro k
  induction k with
  | zero => intro i _; rw [decide_eq_false (by omega)]; exact Nat.zero_testBit i
  | succ k ih =>
    intro i hk
    have et : ((T : Int) - (k : Int)).toNat = T - k := by omega
    cases hb : n.testBit k with
    | true =>
      rw [tuF_t hb, Nat.testBit_or, ih i (by omega), et, bit1]
      by_cases e : T - k = i
      · have e2 : T - i = k := by omega
        rw [decide_eq_true e, e2, hb, decide_eq_true (by omega : i ≤ T ∧ k < k + 1)]
        simp
      · rw [decide_eq_false e, Bool.or_false]
        congr 1
        exact decide_eq_decide.mpr (by omega)
    | false =>
      rw [tuF_f hb, ih i (by omega)]
      by_cases e : T - k = i
      · have e2 : T - i = k := by omega
        rw [e2, hb, Bool.and_false, Bool.and_false]
      · congr 1
        exact decide_eq_decide.mpr (by omega)
theorem tmF_bit (n : Nat) : ∀ k i : Nat, (tmF n k).testBit i = (decide (i < k) && n.testBit (k - 1 - i)) := by
  intro k
  induction k with
  | zero => intro i; rw [decide_eq_false (by omega)]; exact Nat.zero_testBit i
  | succ k ih =>
    intro i
    have e0 : ((n >>> k) &&& 1).testBit i = (decide (i = 0) && n.testBit k) := by
      rw [Nat.testBit_and, Nat.testBit_shiftRight]
      cases i with
      | zero => simp
      | succ i => rw [one_bit (by omega), decide_eq_false (by omega), Bool.and_false, Bool.false_and]
    rw [tmF, Nat.testBit_or, Nat.testBit_shiftLeft, ih, e0]
    cases i with
    | zero =>
      rw [decide_eq_false (by omega : ¬ 0 ≥ 1), decide_eq_true (rfl : 0 = 0), decide_eq_true (by omega : 0 < k + 1)]
      simp
    | succ i =>
      rw [decide_eq_true (by omega : i + 1 ≥ 1), decide_eq_false (by omega : ¬ i + 1 = 0), Bool.false_and, Bool.or_false, Bool.true_and, show k + 1 - 1 - (i + 1) = k - 1 - (i + 1 - 1) by omega]
      congr 1
      exact decide_eq_decide.mpr (by omega)
theorem tu_eq (n : Nat) : tu n = tm n := by
  by_cases h : n = 0
  · subst h; rfl
  · have e := tp_pos h
    rw [tu, tm, e]
    refine Nat.eq_of_testBit_eq fun i => ?_
    rw [show ((Nat.log2 n : Int) + 1).toNat = Nat.log2 n + 1 by omega, tuF_bit n _ _ i (Nat.le_refl _), tmF_bit, show Nat.log2 n + 1 - 1 - i = Nat.log2 n - i by omega]
    congr 1
    exact decide_eq_decide.mpr (by omega)
theorem mvF_mm (n : Nat) : ∀ j s : Nat, mvF n j s = mmF n j s := by
  intro j
  induction j with
  | zero => intro s; rfl
  | succ j ih => intro s; rw [mvF, mmF, ih, Nat.xor_comm (s <<< 1) s]
theorem mmF_0 (n k : Nat) (h : n < 2 ^ k) : ∀ g : Nat, mmF n (k + g) 0 = mmF n k 0 := by
  intro g
  induction g with
  | zero => rfl
  | succ g ih =>
    have e : (n >>> (k + g)) &&& 1 = 0 := by rw [shr_0.mpr (Nat.lt_of_lt_of_le h (Nat.pow_le_pow_right (by omega) (by omega)))]; rfl
    rw [← Nat.add_assoc, mmF, e]
    exact ih
theorem mv_eq {n : Nat} (h : n < 8589934592) : mv n = mm n := by
  have ht := tp33.mp h
  have ht2 := tp_ge n
  have h2 : n < 2 ^ (tp n + 1).toNat := (tp_lt (k := (tp n + 1).toNat)).mp (by omega)
  have e : mmF n 33 0 = mmF n (tp n + 1).toNat 0 := by
    have := mmF_0 n _ h2 (33 - (tp n + 1).toNat)
    rwa [show (tp n + 1).toNat + (33 - (tp n + 1).toNat) = 33 by omega] at this
  rw [mv, mvF_mm, mm, e]
  refine Nat.mod_eq_of_lt ?_
  have := mm33 n
  rw [mm, e] at this
  omega
theorem m64 (i : Nat) : (18446744073709551615 : Nat).testBit i = decide (i < 64) := by
  rw [show (18446744073709551615 : Nat) = 2 ^ 64 - 1 from rfl, Nat.testBit_two_pow_sub_one]
theorem dg_eq {x : Nat} {q : Int} {b : Bool} (hx : x < 8589934592) (hq : 0 ≤ q ∧ q ≤ 32) : dg x q b = dgm x q b := by
  have e : tb x q = x.testBit q.toNat := tb_in hq.1 (by omega)
  cases b with
  | true =>
    rw [dg, if_pos rfl, dgm, e]
    cases h : x.testBit q.toNat with
    | true =>
      rw [if_pos rfl]
      refine Nat.eq_of_testBit_eq fun i => ?_
      rw [Nat.testBit_or, bit1]
      by_cases g : q.toNat = i
      · rw [← g, h]; rfl
      · rw [decide_eq_false g, Bool.or_false]
    | false =>
      rw [if_neg (by decide)]
      refine Nat.eq_of_testBit_eq fun i => ?_
      rw [Nat.testBit_or, Nat.testBit_xor, bit1]
      by_cases g : q.toNat = i
      · rw [← g, h, Bool.false_or, Bool.false_xor]
      · rw [decide_eq_false g, Bool.or_false, Bool.xor_false]
  | false =>
    rw [dg, if_neg (by decide), dgm, e]
    have e2 : ∀ i, (x &&& ((1 <<< q.toNat) ^^^ 18446744073709551615)).testBit i = (x.testBit i && !decide (q.toNat = i)) := by
      intro i
      rw [Nat.testBit_and, Nat.testBit_xor, bit1, m64]
      by_cases g : i < 64
      · rw [decide_eq_true g, Bool.xor_true]
      · rw [b33 hx (by omega), Bool.false_and, Bool.false_and]
    cases h : x.testBit q.toNat with
    | true =>
      rw [if_neg (by decide)]
      refine Nat.eq_of_testBit_eq fun i => ?_
      rw [e2, Nat.testBit_xor, bit1]
      by_cases g : q.toNat = i
      · rw [← g, h, decide_eq_true rfl]; rfl
      · rw [decide_eq_false g, Bool.xor_false]; simp
    | false =>
      rw [if_pos rfl]
      refine Nat.eq_of_testBit_eq fun i => ?_
      rw [e2]
      by_cases g : q.toNat = i
      · rw [← g, h]; rfl
      · rw [decide_eq_false g]; simp
theorem flip_eq {x : Nat} {g : Int} (hg : 0 ≤ g ∧ g ≤ 32) : (!tb x g) = tb (x ^^^ (1 <<< g.toNat)) g := by
  rw [tb_in hg.1 (by omega), tb_in hg.1 (by omega), Nat.testBit_xor, bit1, decide_eq_true rfl, Bool.xor_true]
theorem zu_z {c : Nat → Nat} {f z : Nat} : zu c f (c z) z = c z := by
  unfold zu
  split <;> rfl
theorem swap_eq {c : Nat → Nat} {f z : Nat} : aR (zu c f (c z)) z (some (c f)) = if c f = c z then 0 else 1 := by
  rw [aR, zu_z]
  by_cases h : c f = c z
  · rw [if_pos h, if_pos h.symm]
  · rw [if_neg h, if_neg (fun g => h g.symm)]
theorem pd_eq {n : Int} (h : 1 ≤ n ∧ n ≤ 5) : pd n = fi n := by
  have hc : n = 1 ∨ n = 2 ∨ n = 3 ∨ n = 4 ∨ n = 5 := by omega
  rcases hc with rfl | rfl | rfl | rfl | rfl <;> decide +kernel
theorem od_eq (a b : Nat) : od a b = zB (decide (b < a)) - zB (decide (a < b)) := by
  unfold od
  by_cases h1 : a < b
  · rw [if_pos h1, decide_eq_true h1, decide_eq_false (by omega)]; rfl
  · rw [if_neg h1, decide_eq_false h1]
    by_cases h2 : b < a
    · rw [if_pos h2, decide_eq_true h2]; rfl
    · rw [if_neg h2, decide_eq_false h2]; rfl
theorem and1_eq (x : Nat) : ((x &&& 1 : Nat) : Int) = zB (tb x 0) := by
  rw [tb_0, Nat.testBit_zero, Nat.and_one_is_mod]
  by_cases h : x % 2 = 1
  · rw [h, decide_eq_true rfl]; rfl
  · rw [show x % 2 = 0 by omega, decide_eq_false (by omega)]; rfl
end QA
/-! ===== the weight: a sum over fields ===== -/
section QB
theorem and8 (a b M m : Nat) (hb : b < 256) (hm : m < 256) : (256 * a + b) &&& (256 * M + m) = 256 * (a &&& M) + (b &&& m) := by
  have hbm : b &&& m < 2 ^ 8 := Nat.lt_of_le_of_lt Nat.and_le_left (by omega)
  refine Nat.eq_of_testBit_eq fun i => ?_
  rw [Nat.testBit_and, show 256 * a + b = 2 ^ 8 * a + b from rfl, show 256 * M + m = 2 ^ 8 * M + m from rfl, show 256 * (a &&& M) + (b &&& m) = 2 ^ 8 * (a &&& M) + (b &&& m) from rfl, Nat.testBit_two_pow_mul_add a (by omega : b < 2 ^ 8), Nat.testBit_two_pow_mul_add M (by omega : m < 2 ^ 8), Nat.testBit_two_pow_mul_add (a &&& M) hbm]
  by_cases g : i < 8
  · rw [if_pos g, if_pos g, if_pos g, Nat.testBit_and]
  · rw [if_neg g, if_neg g, if_neg g, Nat.testBit_and]
def s1 (M n : Nat) : Nat := n - ((n >>> 1) &&& M)
def s2 (M n : Nat) : Nat := (n &&& M) + ((n >>> 2) &&& M)
def s3 (M n : Nat) : Nat := (n + (n >>> 4)) &&& M
theorem all2 {n m : Nat} {P : Nat → Nat → Bool} (h : (List.range n).all (fun i => (List.range m).all (fun j => P i j)) = true) {i j : Nat} (hi : i < n) (hj : j < m) : P i j = true :=
  List.all_eq_true.mp (List.all_eq_true.mp h i (List.mem_range.mpr hi)) j (List.mem_range.mpr hj)
theorem t1 : (List.range 2).all (fun r => (List.range 256).all (fun b => ((128 * r + b / 2) &&& 85) == ((b >>> 1) &&& 85))) = true := by decide +kernel
theorem t2 : (List.range 4).all (fun r => (List.range 256).all (fun b => ((64 * r + b / 4) &&& 51) == ((b >>> 2) &&& 51))) = true := by decide +kernel
theorem t3 : (List.range 5).all (fun r => (List.range 69).all (fun b => ((b + b / 16 + 16 * r) &&& 15) == ((b + (b >>> 4)) &&& 15))) = true := by decide +kernel
theorem s1_8 (a b M : Nat) (hb : b < 256) : s1 (256 * M + 85) (256 * a + b) = 256 * s1 M a + s1 85 b := by
  have e1 : (256 * a + b) >>> 1 = 256 * (a >>> 1) + (128 * (a % 2) + b / 2) := by rw [Nat.shiftRight_eq_div_pow, Nat.shiftRight_eq_div_pow]; omega
  have e2 := eq_of_beq (all2 t1 (by omega : a % 2 < 2) hb)
  have h1 : (a >>> 1) &&& M ≤ a := Nat.le_trans Nat.and_le_left (Nat.shiftRight_le a 1)
  have h2 : (b >>> 1) &&& 85 ≤ b := Nat.le_trans Nat.and_le_left (Nat.shiftRight_le b 1)
  unfold s1
  rw [e1, and8 _ _ _ _ (by omega) (by omega), e2]
  omega
theorem s2_8 (a b M : Nat) (hb : b < 256) : s2 (256 * M + 51) (256 * a + b) = 256 * s2 M a + s2 51 b := by
  have e1 : (256 * a + b) >>> 2 = 256 * (a >>> 2) + (64 * (a % 4) + b / 4) := by rw [Nat.shiftRight_eq_div_pow, Nat.shiftRight_eq_div_pow]; omega
  have e2 := eq_of_beq (all2 t2 (by omega : a % 4 < 4) hb)
  unfold s2
  rw [e1, and8 _ _ _ _ hb (by omega), and8 _ _ _ _ (by omega) (by omega), e2]
  omega
theorem s3_8 (a b M : Nat) (hb : b < 69) (ha : a % 16 < 5) : s3 (256 * M + 15) (256 * a + b) = 256 * s3 M a + s3 15 b := by
  have e1 : 256 * a + b + ((256 * a + b) >>> 4) = 256 * (a + (a >>> 4)) + (b + b / 16 + 16 * (a % 16)) := by rw [Nat.shiftRight_eq_div_pow, Nat.shiftRight_eq_div_pow]; omega
  have e2 := eq_of_beq (all2 t3 ha hb)
  unfold s3
  rw [e1, and8 _ _ _ _ (by omega) (by omega), e2]
theorem t4 : (List.range 256).all (fun x => (s1 85 x < 256 && s2 51 (s1 85 x) < 69 && s2 51 (s1 85 x) % 16 < 5 && s3 15 (s2 51 (s1 85 x)) < 9 && decide (((s3 15 (s2 51 (s1 85 x)) : Nat) : Int) = wt x 8))) = true := by decide +kernel
theorem t4' {x : Nat} (h : x < 256) : s1 85 x < 256 ∧ s2 51 (s1 85 x) < 69 ∧ s2 51 (s1 85 x) % 16 < 5 ∧ s3 15 (s2 51 (s1 85 x)) < 9 ∧ ((s3 15 (s2 51 (s1 85 x)) : Nat) : Int) = wt x 8 := by
  have := List.all_eq_true.mp t4 x (List.mem_range.mpr h)
  simp only [Bool.and_eq_true, decide_eq_true_eq] at this
  exact ⟨this.1.1.1.1, this.1.1.1.2, this.1.1.2, this.1.2, this.2⟩
theorem wt_8 (a b : Nat) (hb : b < 256) : ∀ k : Nat, wt (256 * a + b) (8 + k) = wt b 8 + wt a k := by
  have hbit : ∀ i, (256 * a + b).testBit i = if i < 8 then b.testBit i else a.testBit (i - 8) := fun i => Nat.testBit_two_pow_mul_add a (by omega : b < 2 ^ 8) i
  have h8 : ∀ k, k ≤ 8 → wt (256 * a + b) k = wt b k := by
    intro k
    induction k with
    | zero => intro _; rfl
    | succ k ih => intro hk; rw [wt, wt, ih (by omega), hbit, if_pos (by omega)]
  intro k
  induction k with
  | zero => rw [h8 8 (Nat.le_refl _)]; exact (Int.add_zero _).symm
  | succ k ih =>
    rw [← Nat.add_assoc, wt, ih, hbit, if_neg (by omega), show 8 + k - 8 = k by omega]
    exact Int.add_assoc _ _ _
theorem bcs_sum (y0 y1 y2 y3 x4 : Nat) (h0 : y0 < 9) (h1 : y1 < 9) (h2 : y2 < 9) (h3 : y3 < 9) (h4 : x4 < 2) : bcs 32 (bcs 16 (bcs 8 (256 * (256 * (256 * (256 * x4 + y3) + y2) + y1) + y0))) % 128 = y0 + y1 + y2 + y3 + x4 := by
  have e1 : bcs 8 (256 * (256 * (256 * (256 * x4 + y3) + y2) + y1) + y0) = 65536 * (65536 * x4 + (256 * (y3 + x4) + (y2 + y3))) + (256 * (y1 + y2) + (y0 + y1)) := by
    unfold bcs; rw [Nat.shiftRight_eq_div_pow]; omega
  have e2 : bcs 16 (65536 * (65536 * x4 + (256 * (y3 + x4) + (y2 + y3))) + (256 * (y1 + y2) + (y0 + y1))) = 4294967296 * x4 + (65536 * (256 * (y3 + x4) + (y2 + y3) + x4) + (256 * (y1 + y2 + y3 + x4) + (y0 + y1 + y2 + y3))) := by
    unfold bcs; rw [Nat.shiftRight_eq_div_pow]; omega
  rw [e1, e2]
  have h5 : 65536 * (256 * (y3 + x4) + (y2 + y3) + x4) + (256 * (y1 + y2 + y3 + x4) + (y0 + y1 + y2 + y3)) < 4294967296 := by omega
  have h6 : (65536 * (256 * (y3 + x4) + (y2 + y3) + x4) + (256 * (y1 + y2 + y3 + x4) + (y0 + y1 + y2 + y3))) % 128 = y0 + y1 + y2 + y3 := by omega
  generalize 65536 * (256 * (y3 + x4) + (y2 + y3) + x4) + (256 * (y1 + y2 + y3 + x4) + (y0 + y1 + y2 + y3)) = L at h5 h6
  unfold bcs
  rw [Nat.shiftRight_eq_div_pow]
  have h7 : (4294967296 * x4 + L) / 2 ^ 32 = x4 := by omega
  rw [h7]
  omega
theorem bc_eq {n : Nat} (h : n < 8589934592) : bc n = wt n 33 := by
  have hx0 : n % 256 < 256 := Nat.mod_lt _ (by omega)
  have hx1 : n / 256 % 256 < 256 := Nat.mod_lt _ (by omega)
  have hx2 : n / 65536 % 256 < 256 := Nat.mod_lt _ (by omega)
  have hx3 : n / 16777216 % 256 < 256 := Nat.mod_lt _ (by omega)
  have hx4 : n / 4294967296 < 2 := by omega
  have en : n = 256 * (256 * (256 * (256 * (n / 4294967296) + n / 16777216 % 256) + n / 65536 % 256) + n / 256 % 256) + n % 256 := by omega
  generalize n % 256 = x0 at hx0 en
  generalize n / 256 % 256 = x1 at hx1 en
  generalize n / 65536 % 256 = x2 at hx2 en
  generalize n / 16777216 % 256 = x3 at hx3 en
  generalize n / 4294967296 = x4 at hx4 en
  subst en
  obtain ⟨a0, b0, c0, d0, e0⟩ := t4' hx0
  obtain ⟨a1, b1, c1, d1, e1⟩ := t4' hx1
  obtain ⟨a2, b2, c2, d2, e2⟩ := t4' hx2
  obtain ⟨a3, b3, c3, d3, e3⟩ := t4' hx3
  have hw : wt (256 * (256 * (256 * (256 * x4 + x3) + x2) + x1) + x0) 33 = wt x0 8 + (wt x1 8 + (wt x2 8 + (wt x3 8 + wt x4 1))) := by
    rw [show 33 = 8 + (8 + (8 + (8 + 1))) from rfl, wt_8 _ _ hx0, wt_8 _ _ hx1, wt_8 _ _ hx2, wt_8 _ _ hx3]
  have f1 : bc1 (256 * (256 * (256 * (256 * x4 + x3) + x2) + x1) + x0) = 256 * (256 * (256 * (256 * s1 1431655765 x4 + s1 85 x3) + s1 85 x2) + s1 85 x1) + s1 85 x0 := by
    show s1 (256 * (256 * (256 * (256 * 1431655765 + 85) + 85) + 85) + 85) _ = _
    rw [s1_8 _ _ _ hx0, s1_8 _ _ _ hx1, s1_8 _ _ _ hx2, s1_8 _ _ _ hx3]
  have f2 : bc2 (256 * (256 * (256 * (256 * s1 1431655765 x4 + s1 85 x3) + s1 85 x2) + s1 85 x1) + s1 85 x0) = 256 * (256 * (256 * (256 * s2 858993459 (s1 1431655765 x4) + s2 51 (s1 85 x3)) + s2 51 (s1 85 x2)) + s2 51 (s1 85 x1)) + s2 51 (s1 85 x0) := by
    show s2 (256 * (256 * (256 * (256 * 858993459 + 51) + 51) + 51) + 51) _ = _
    rw [s2_8 _ _ _ a0, s2_8 _ _ _ a1, s2_8 _ _ _ a2, s2_8 _ _ _ a3]
  have hc : s2 858993459 (s1 1431655765 x4) = x4 ∧ s3 252645135 x4 = x4 ∧ ((x4 : Nat) : Int) = wt x4 1 := by
    have : x4 = 0 ∨ x4 = 1 := by omega
    rcases this with rfl | rfl <;> decide +kernel
  have f3 : bc3 (256 * (256 * (256 * (256 * s2 858993459 (s1 1431655765 x4) + s2 51 (s1 85 x3)) + s2 51 (s1 85 x2)) + s2 51 (s1 85 x1)) + s2 51 (s1 85 x0)) = 256 * (256 * (256 * (256 * x4 + s3 15 (s2 51 (s1 85 x3))) + s3 15 (s2 51 (s1 85 x2))) + s3 15 (s2 51 (s1 85 x1))) + s3 15 (s2 51 (s1 85 x0)) := by
    rw [hc.1]
    show s3 (256 * (256 * (256 * (256 * 252645135 + 15) + 15) + 15) + 15) _ = _
    rw [s3_8 _ _ _ b0 (by omega), s3_8 _ _ _ b1 (by omega), s3_8 _ _ _ b2 (by omega), s3_8 _ _ _ b3 (by omega), hc.2.1]
  rw [hw, bc, f1, f2, f3, ← e0, ← e1, ← e2, ← e3, ← hc.2.2]
  rw [bcs_sum _ _ _ _ _ d0 d1 d2 d3 hx4]
  omega
theorem czm (c : Nat → Nat) : ∀ k : Nat, czF c k = zmF c k := by
  intro k
  induction k with
  | zero => rfl
  | succ k ih =>
    rw [czF, zmF, ih]
    by_cases h : c k = 0
    · rw [if_pos h, decide_eq_true h]; rfl
    · rw [if_neg h, decide_eq_false h]; exact (Int.add_zero _).symm
theorem awm {c : Nat → Nat} (hc : ∀ k, c k < 8589934592) : ∀ k : Nat, awF c k = wmF c k := by
  intro k
  induction k with
  | zero => rfl
  | succ k ih => rw [awF, wmF, ih, bc_eq (hc k)]
theorem hs_eq {c : Nat → Nat} (hc : ∀ k, c k < 8589934592) (ac re kn : Int32) (z : Int) : hs3 c ac re kn z = hm3 c ac re kn z := by rw [hs3, hm3, czm, awm hc]
theorem val_eq {x : Nat} (h : x < 8589934592) (b : Bool) : (if b = true then bc x % 2 else ((x &&& 1 : Nat) : Int)) = (if b = true then wt x 33 % 2 else zB (tb x 0)) := by rw [bc_eq h, and1_eq]
theorem sdm {c : Nat → Nat} (hc : ∀ k, c k < 8589934592) : ∀ k : Nat, sdF c k = sdmF c k := by
  intro k
  induction k with
  | zero => rfl
  | succ k ih => rw [sdF, sdmF, ih, bp_eq (hc k)]
theorem so_eq {c : Nat → Nat} (hc : ∀ k, c k < 8589934592) : so c = som c := by rw [so, som, sdm hc]; rfl
theorem dcm {c : Nat → Nat} (hc : ∀ k, c k < 8589934592) : ∀ k : Nat, dcF c k = dmF c k := by
  intro k
  induction k with
  | zero => rfl
  | succ k ih => rw [dcF, dmF, ih, dc1, dm1, bp_eq (hc k), bc_eq (hc k)]
theorem dom {c : Nat → Nat} (hc : ∀ k, c k < 8589934592) : ∀ k : Nat, doF c k = omF c k := by
  intro k
  induction k with
  | zero => exact dcm hc 6
  | succ k ih => rw [doF, omF, ih, od_eq]
theorem dhm {c : Nat → Nat} (hc : ∀ k, c k < 8589934592) (ac re kn : Int32) : ∀ k : Nat, dhF c ac re kn k = gmF c ac re kn k := by
  intro k
  induction k with
  | zero => exact dom hc 5
  | succ k ih => rw [dhF, gmF, ih, hs_eq hc]
theorem dgs_eq {c : Nat → Nat} (hc : ∀ k, c k < 8589934592) (ac re kn : Int32) : dgs c ac re kn = dgsm c ac re kn := by rw [dgs, dgsm, dhm hc, so_eq hc]
end QB
/-! ===== class and model reckon the same: by the ring ===== -/
section QC
/-- the product, without a bound -/
def cm (a b : Nat) : Nat := pmF a b b
theorem pmF_cm {a b n : Nat} (h : b < 2 ^ n) : pmF a b n = cm a b := by
  have h1 : pmF a b (n + b) = pmF a b n := pmF_top (shr_0.mpr h) b
  have h2 : pmF a b (b + n) = pmF a b b := pmF_top (shr_0.mpr Nat.lt_two_pow_self) n
  rw [Nat.add_comm] at h2
  exact h1.symm.trans h2
theorem cm_comm (a b : Nat) : cm a b = cm b a := pmF_comm a b a b Nat.lt_two_pow_self Nat.lt_two_pow_self
theorem cm_swap (a b c : Nat) : cm (cm a b) c = cm (cm a c) b := pmF_asc a b c c b
theorem cm_assoc (a b c : Nat) : cm (cm a b) c = cm a (cm b c) := by rw [cm_comm a b, cm_swap, cm_comm]
theorem cm_xl (a a' b : Nat) : cm (a ^^^ a') b = cm a b ^^^ cm a' b := pmF_xl a a' b b
theorem cm_xr (a b b' : Nat) : cm a (b ^^^ b') = cm a b ^^^ cm a b' := by rw [cm_comm, cm_xl, cm_comm b, cm_comm b']
theorem cm_0l (b : Nat) : cm 0 b = 0 := pmF_0l b b
theorem cm_0r (a : Nat) : cm a 0 = 0 := rfl
theorem cm_1r (a : Nat) : cm a 1 = a := by
  show pmF a 1 (0 + 1) = a
  rw [pmF_t (by decide), Nat.shiftLeft_zero]
  exact Nat.zero_xor a
theorem cm_1l (a : Nat) : cm 1 a = a := (cm_comm 1 a).trans (cm_1r a)
theorem cm_2r (a : Nat) : cm a 2 = a <<< 1 := by
  show pmF a 2 (0 + 1 + 1) = _
  rw [pmF_t (by decide), pmF_f (by decide)]
  exact Nat.zero_xor _
theorem cm_sl (a b k : Nat) : cm (a <<< k) b = (cm a b) <<< k := pmF_sl a b k b
theorem cm_lt {a b i j : Nat} (ha : a < 2 ^ i) (hb : b < 2 ^ j) : cm a b < 2 ^ (i + j) := by
  rw [← pmF_cm hb]
  exact pmF_bit j i ha
theorem cm_tp {a b : Nat} (ha : a ≠ 0) (hb : b ≠ 0) : tp (cm a b) = tp a + tp b := by
  have h1 : tp b = ((Nat.log2 b : Nat) : Int) := tp_pos hb
  have h2 : tp a = ((Nat.log2 a : Nat) : Int) := tp_pos ha
  generalize Nat.log2 b = k at h1
  generalize Nat.log2 a = d at h2
  have hb2 : b < 2 ^ (k + 1) := (tp_le (k := k)).mp (by omega)
  have ha2 : a < 2 ^ (d + 1) := (tp_le (k := d)).mp (by omega)
  have e0 : cm a b = pmF a b k ^^^ a <<< k := by rw [← pmF_cm hb2, pmF_t (tp_top h1)]
  have h3 : (pmF a b k).testBit (d + k) = false := by
    refine Nat.testBit_lt_two_pow ?_
    cases k with
    | zero => exact Nat.two_pow_pos _
    | succ k =>
      have := pmF_bit2 (a := a) (b := b) k (d + 1) ha2
      rwa [show d + 1 + k = d + (k + 1) by omega] at this
  have h4 : (a <<< k).testBit (d + k) = true := by
    rw [Nat.testBit_shiftLeft, show d + k - k = d by omega, tp_top h2]
    simp
  have h5 : (cm a b).testBit (d + k) = true := by rw [e0, Nat.testBit_xor, h3, h4]; rfl
  have h6 : cm a b < 2 ^ (d + k + 1) := by
    have := pmF_bit2 (a := a) (b := b) k (d + 1) ha2
    rwa [pmF_cm hb2, show d + 1 + k = d + k + 1 by omega] at this
  have h7 := (tp_le (n := cm a b) (k := d + k)).mpr h6
  by_cases g : tp (cm a b) < ((d + k : Nat) : Int)
  · rw [tp_hi g] at h5
    exact absurd h5 (by decide)
  · omega
theorem pm_cm {a b : Nat} (hb : b < 18446744073709551616) : pm a b = cm a b % 18446744073709551616 := by rw [pm, pmF_cm (n := 64) hb]
theorem pm_cm' {a b : Nat} (hb : b < 18446744073709551616) (h : cm a b < 18446744073709551616) : pm a b = cm a b := by rw [pm_cm hb, Nat.mod_eq_of_lt h]
theorem xor_mid (a b c : Nat) : (a ^^^ b) ^^^ c = (a ^^^ c) ^^^ b := by rw [Nat.xor_assoc, Nat.xor_comm b c, ← Nat.xor_assoc]
theorem xor_out (a b : Nat) : (a ^^^ b) ^^^ a = b := by rw [xor_mid, Nat.xor_self, Nat.zero_xor]
def Dv (d a : Nat) : Prop := ∃ q, a = cm d q
theorem Dv_self (d : Nat) : Dv d d := ⟨1, (cm_1r d).symm⟩
theorem Dv_0 (d : Nat) : Dv d 0 := ⟨0, rfl⟩
theorem Dv_x {d a b : Nat} (h1 : Dv d a) (h2 : Dv d b) : Dv d (a ^^^ b) := by
  obtain ⟨q, rfl⟩ := h1
  obtain ⟨r, rfl⟩ := h2
  exact ⟨q ^^^ r, (cm_xr d q r).symm⟩
theorem Dv_m {d a : Nat} (c : Nat) (h1 : Dv d a) : Dv d (cm a c) := by
  obtain ⟨q, rfl⟩ := h1
  exact ⟨cm q c, cm_assoc d q c⟩
theorem rm_cm {a b : Nat} (ha : a < 18446744073709551616) (hb : b < 18446744073709551616) (h0 : ¬ b = 0) : rm a b = a ^^^ cm b (qo a b) := by
  obtain ⟨-, h2, h3⟩ := qo_spec ha hb h0
  rw [h3, pmF_cm h2]
theorem rm_uniq {a b r : Nat} (ha : a < 18446744073709551616) (hb : b < 18446744073709551616) (h0 : ¬ b = 0) (hr : tp r < tp b) (hd : Dv b (a ^^^ r)) : rm a b = r := by
  obtain ⟨q, hq⟩ := hd
  have h4 : rm a b ^^^ r = cm b (q ^^^ qo a b) := by rw [rm_cm ha hb h0, cm_xr, ← hq, xor_mid]
  by_cases z : q ^^^ qo a b = 0
  · rw [z, cm_0r] at h4
    exact xor_same h4
  · have h5 := cm_tp h0 z
    have h6 : ¬ tp (q ^^^ qo a b) < 0 := fun g => z (tp_neg.mp g)
    have h7 := tp_xor (a := rm a b) (b := r) (K := tp b - 1) (by have := rm_tp ha hb h0; omega) (by omega)
    rw [h4] at h7
    omega
theorem rm_congr {a b m : Nat} (ha : a < 18446744073709551616) (hb : b < 18446744073709551616) (hm : m < 18446744073709551616) (h0 : ¬ m = 0) (h : Dv m (a ^^^ b)) : rm a m = rm b m := by
  refine rm_uniq ha hm h0 (rm_tp hb hm h0) ?_
  rw [rm_cm hb hm h0, ← Nat.xor_assoc]
  exact Dv_x h ⟨_, rfl⟩
theorem rm_small {a m : Nat} (ha : a < 18446744073709551616) (hm : m < 18446744073709551616) (h0 : ¬ m = 0) (h : tp a < tp m) : rm a m = a :=
  rm_uniq ha hm h0 h (by rw [Nat.xor_self]; exact Dv_0 m)
theorem rm_mul {u v m : Nat} (hu : u < 18446744073709551616) (hv : v < 18446744073709551616) (hm : m < 18446744073709551616) (h0 : ¬ m = 0) (h1 : cm u v < 18446744073709551616) (h2 : cm (rm u m) v < 18446744073709551616) : rm (cm (rm u m) v) m = rm (cm u v) m := by
  refine rm_congr h2 h1 hm h0 ?_
  rw [← cm_xl, rm_cm hu hm h0, xor_out]
  exact Dv_m v ⟨_, rfl⟩
-- powers
theorem pq_tp {x m : Nat} (hm : m < 8589934592) (h1 : 1 ≤ tp m) : ∀ k : Nat, tp (pqF x m k) < tp m := by
  have h0 : ¬ m = 0 := fun g => by rw [g] at h1; exact absurd h1 (by decide)
  intro k
  cases k with
  | zero => have : tp 1 = 0 := rfl
            show tp 1 < tp m
            omega
  | succ k => exact rm_tp (pm_lt _ _) (by omega) h0
theorem pq_add {x m : Nat} (hm : m < 8589934592) (h1 : 1 ≤ tp m ∧ tp m ≤ 12) (hx : tp x < tp m) (a : Nat) : ∀ b : Nat, rm (pm (pqF x m a) (pqF x m b)) m = pqF x m (a + b) := by
  have h0 : ¬ m = 0 := fun g => by rw [g] at h1; exact absurd h1.1 (by decide)
  have hs : ∀ y, tp y < tp m → y < 2 ^ 12 := fun y hy => (tp_le (k := 11)).mp (by omega)
  have hp := pq_tp (x := x) hm h1.1
  have hx2 := hs x hx
  have hA := hs _ (hp a)
  have w24 : ∀ {y z : Nat}, y < 2 ^ 12 → z < 2 ^ 12 → cm y z < 2 ^ 24 := fun hy hz => cm_lt hy hz
  intro b
  induction b with
  | zero =>
    show rm (pm (pqF x m a) 1) m = pqF x m a
    rw [pm_cm' (by omega) (by rw [cm_1r]; omega), cm_1r]
    exact rm_small (by omega) (by omega) h0 (hp a)
  | succ b ih =>
    have hB := hs _ (hp b)
    have hAB := w24 hA hB
    have hBx := w24 hB hx2
    have hABx : cm (cm (pqF x m a) (pqF x m b)) x < 2 ^ 36 := cm_lt hAB hx2
    have hABr : rm (cm (pqF x m a) (pqF x m b)) m < 2 ^ 12 := hs _ (rm_tp (by omega) (by omega) h0)
    have hBxr : rm (cm (pqF x m b) x) m < 2 ^ 12 := hs _ (rm_tp (by omega) (by omega) h0)
    have e1 : pqF x m (b + 1) = rm (cm (pqF x m b) x) m := by rw [pqF, pm_cm' (by omega) (by omega)]
    have e2 : pqF x m (a + b) = rm (cm (pqF x m a) (pqF x m b)) m := by rw [← ih, pm_cm' (by omega) (by omega)]
    have e3 : pqF x m (a + (b + 1)) = rm (cm (rm (cm (pqF x m a) (pqF x m b)) m) x) m := by
      have h9 := w24 hABr hx2
      rw [← Nat.add_assoc, pqF, e2, pm_cm' (by omega) (by omega)]
    have h8 := w24 hBxr hA
    have h7 := w24 hABr hx2
    have e4 : cm (cm (pqF x m b) x) (pqF x m a) = cm (cm (pqF x m a) (pqF x m b)) x := by rw [cm_comm _ (pqF x m a), cm_assoc]
    rw [e3, e1, rm_mul (by omega) (by omega) (by omega) h0 (by omega) (by omega), pm_cm' (by omega) (by rw [cm_comm]; omega), cm_comm, rm_mul (by omega) (by omega) (by omega) h0 (by rw [e4]; omega) (by omega), e4]
theorem pw_pq {x m t : Nat} (hm : m < 8589934592) (h1 : 1 ≤ tp m ∧ tp m ≤ 12) (hx : tp x < tp m) : ∀ j e : Nat, pwF t x m j (pqF x m e) = pqF x m (e * 2 ^ j + t % 2 ^ j) := by
  intro j
  induction j with
  | zero => intro e; rw [Nat.pow_zero, Nat.mod_one, Nat.mul_one]; rfl
  | succ j ih =>
    intro e
    have hb := Nat.toNat_testBit t j
    have e1 := Nat.mod_pow_succ (x := t) (b := 2) (k := j)
    have e2 : 2 ^ (j + 1) = 2 * 2 ^ j := pow_s j
    have e3 : e * (2 * 2 ^ j) = (e + e) * 2 ^ j := by rw [← Nat.mul_assoc, Nat.mul_two]
    cases h : t.testBit j with
    | true =>
      rw [h] at hb
      rw [pwF_t h, pq_add hm h1 hx]
      show pwF t x m j (pqF x m (e + e + 1)) = _
      rw [ih, e1, ← hb, e2, e3]
      congr 1
      rw [Nat.add_mul, show (true.toNat : Nat) = 1 from rfl]
      omega
    | false =>
      rw [h] at hb
      rw [pwF_f h, pq_add hm h1 hx, ih, e1, ← hb, e2, e3]
      congr 1
theorem wP_eq {a m : Nat} {t : Int} (ha : a < 8589934592) (hm : m < 8589934592) (ht : 0 ≤ t ∧ t ≤ 255) : wP a m t = wPm a m t := by
  rw [wP, wPm]
  by_cases h : 1 ≤ tp m ∧ tp m ≤ 12
  · have h0 : ¬ m = 0 := fun g => by rw [g] at h; exact absurd h.1 (by decide)
    rw [if_pos h, if_pos h, pw]
    have := pw_pq (x := rm a m) (t := t.toNat) hm h (rm_tp (by omega) (by omega) h0) 8 0
    rw [show (1 : Nat) = pqF (rm a m) m 0 from rfl, this, Nat.zero_mul, Nat.zero_add, Nat.mod_eq_of_lt (show t.toNat < 2 ^ 8 by omega)]
  · rw [if_neg h, if_neg h]
-- the greatest common divisor
theorem euF_dvd : ∀ (f a b : Nat), a < 8589934592 → b < 8589934592 → tp b < (f : Int) → Dv (euF f a b a b) a ∧ Dv (euF f a b a b) b := by
  intro f
  induction f with
  | zero =>
    intro a b _ _ hf
    have hb : b = 0 := tp_neg.mp hf
    subst hb
    exact ⟨Dv_self a, Dv_0 _⟩
  | succ f ih =>
    intro a b ha hb hf
    by_cases h0 : b = 0
    · subst h0
      rw [euF_0]
      exact ⟨Dv_self a, Dv_0 _⟩
    · rw [euF_s h0]
      have ht := rm_tp (a := a) (b := b) (by omega) (by omega) h0
      obtain ⟨g1, g2⟩ := ih b (rm a b) hb (rm33 ha hb h0) (by omega)
      have g1 : Dv (euF f b (rm a b) b (a ^^^ pm (qo a b) b)) b := g1
      have g2 : Dv (euF f b (rm a b) b (a ^^^ pm (qo a b) b)) (rm a b) := g2
      refine ⟨?_, g1⟩
      have := Dv_x g2 (Dv_m (qo a b) g1)
      have e : rm a b ^^^ cm b (qo a b) = a := by rw [rm_cm (by omega) (by omega) h0, Nat.xor_assoc, Nat.xor_self, Nat.xor_zero]
      rw [e] at this
      exact this
theorem euF_lin : ∀ (f a b : Nat), a < 8589934592 → b < 8589934592 → tp b < (f : Int) → ∃ s t, euF f a b a b = cm a s ^^^ cm b t := by
  intro f
  induction f with
  | zero => intro a b _ _ _; exact ⟨1, 0, by rw [cm_1r, cm_0r, Nat.xor_zero]; rfl⟩
  | succ f ih =>
    intro a b ha hb hf
    by_cases h0 : b = 0
    · subst h0
      exact ⟨1, 0, by rw [cm_1r, cm_0r, Nat.xor_zero, euF_0]⟩
    · rw [euF_s h0]
      have ht := rm_tp (a := a) (b := b) (by omega) (by omega) h0
      obtain ⟨s, t, g⟩ := ih b (rm a b) hb (rm33 ha hb h0) (by omega)
      have g : euF f b (rm a b) b (a ^^^ pm (qo a b) b) = cm b s ^^^ cm (rm a b) t := g
      refine ⟨t, s ^^^ cm (qo a b) t, ?_⟩
      rw [g, rm_cm (by omega) (by omega) h0, cm_xl, cm_xr, cm_assoc, Nat.xor_comm, xor_mid, Nat.xor_assoc]
theorem eu_dvd {a b : Nat} (ha : a < 8589934592) (hb : b < 8589934592) : Dv (eu a b a b) a ∧ Dv (eu a b a b) b := euF_dvd 65 a b ha hb (by have := tp33.mp hb; omega)
theorem eu_lin {a b d : Nat} (ha : a < 8589934592) (hb : b < 8589934592) (h1 : Dv d a) (h2 : Dv d b) : Dv d (eu a b a b) := by
  obtain ⟨s, t, h⟩ := euF_lin 65 a b ha hb (by have := tp33.mp hb; omega)
  rw [eu, h]
  exact Dv_x (Dv_m s h1) (Dv_m t h2)
theorem rm_of_Dv {a b : Nat} (ha : a < 18446744073709551616) (hb : b < 18446744073709551616) (h0 : ¬ b = 0) (h : Dv b a) : rm a b = 0 :=
  rm_uniq ha hb h0 (by have : ¬ tp b < 0 := fun g => h0 (tp_neg.mp g)
                       rw [tp_0]; omega) (by rw [Nat.xor_zero]; exact h)
theorem qo_of_Dv {a b : Nat} (ha : a < 18446744073709551616) (hb : b < 18446744073709551616) (h0 : ¬ b = 0) (h : Dv b a) : a = cm b (qo a b) := by
  have h1 := rm_of_Dv ha hb h0 h
  rw [rm_cm ha hb h0] at h1
  exact xor_same h1
theorem qo_0 (g : Nat) : qo 0 g = 0 := by
  unfold qo
  split
  · rfl
  · rename_i h
    have : ¬ tp g < 0 := fun z => h (tp_neg.mp z)
    rw [tp_0, show (-1 + 1 - tp g).toNat = 0 by omega]
    rfl
theorem lcm_eq {a b : Nat} (ha : a < 8589934592) (hb : b < 8589934592) : wT a (qo b (eu a b a b)) = wL a b := by
  by_cases h1 : a = 0
  · subst h1
    rw [wT_0 (Or.inl rfl), pm_0l, wL, if_pos (Or.inl rfl)]
  by_cases h2 : b = 0
  · subst h2
    rw [qo_0, wT_0 (Or.inr (Or.inl rfl)), pm_0r, wL, if_pos (Or.inr rfl)]
  have hg0 : ¬ eu a b a b = 0 := eu_ne ha hb h1
  have hg := eu33g ha hb
  obtain ⟨d1, d2⟩ := eu_dvd ha hb
  have e1 := qo_of_Dv (by omega) (by omega) hg0 d1
  have e2 := qo_of_Dv (by omega) (by omega) hg0 d2
  have hqb := qo33 hb hg
  have hqa := qo33 ha hg
  rw [wL, if_neg (fun h => h.elim h1 h2)]
  generalize eu a b a b = g at hg0 hg e1 e2 hqa hqb
  generalize qo a g = a' at e1 hqa
  generalize qo b g = b' at e2 hqb
  have ha' : a' ≠ 0 := fun h => h1 (by rw [e1, h, cm_0r])
  have hb' : b' ≠ 0 := fun h => h2 (by rw [e2, h, cm_0r])
  have t1 := cm_tp hg0 ha'
  have t2 := cm_tp hg0 hb'
  rw [← e1] at t1
  rw [← e2] at t2
  have ep : pm a b' = pm a' b := by
    rw [pm_cm (by omega), pm_cm (by omega), e1, e2, cm_comm g a', cm_assoc]
  rw [wT, wT, ep]
  by_cases h : 32 < tp a + tp b'
  · rw [if_pos ⟨h1, hb', h⟩, if_pos ⟨ha', h2, by omega⟩]
  · rw [if_neg (fun z => h z.2.2), if_neg (fun z => h (by have := z.2.2; omega))]
-- squares
theorem sq_x (a b : Nat) : cm (a ^^^ b) (a ^^^ b) = cm a a ^^^ cm b b := by
  rw [cm_xl, cm_xr, cm_xr, cm_comm b a, x4, Nat.xor_comm (cm a b) (cm b b), ← x4, Nat.xor_self, Nat.xor_zero]
theorem sq_1 (k : Nat) : cm (1 <<< k) (1 <<< k) = 1 <<< (2 * k) := by
  rw [cm_sl, cm_1l, ← Nat.shiftLeft_add, Nat.two_mul]
theorem or_x {x k : Nat} (h : x < 2 ^ k) : x ||| (1 <<< k) = x ^^^ (1 <<< k) := by
  refine Nat.eq_of_testBit_eq fun i => ?_
  rw [Nat.testBit_or, Nat.testBit_xor, bit1]
  by_cases g : k = i
  · rw [← g, Nat.testBit_lt_two_pow h, Bool.false_or, Bool.false_xor]
  · rw [decide_eq_false g, Bool.or_false, Bool.xor_false]
theorem sq_bit (n : Nat) : ∀ k i : Nat, (cm (ehF n k) (ehF n k)).testBit i = (decide (i % 2 = 0 ∧ i / 2 < k) && n.testBit i) := by
  intro k
  induction k with
  | zero => intro i; rw [decide_eq_false (by omega)]; exact Nat.zero_testBit i
  | succ k ih =>
    intro i
    cases hb : n.testBit (2 * k) with
    | true =>
      rw [ehF_t hb, or_x (ehF_lt n k), sq_x, sq_1, Nat.testBit_xor, ih, bit1]
      by_cases e : 2 * k = i
      · subst e
        rw [decide_eq_false (by omega : ¬ (2 * k % 2 = 0 ∧ 2 * k / 2 < k)), decide_eq_true (rfl : 2 * k = 2 * k), decide_eq_true (by omega : 2 * k % 2 = 0 ∧ 2 * k / 2 < k + 1), hb]
        rfl
      · rw [decide_eq_false e, Bool.xor_false]
        congr 1
        exact decide_eq_decide.mpr (by omega)
    | false =>
      rw [ehF_f hb, ih]
      by_cases e : 2 * k = i
      · subst e
        rw [hb, Bool.and_false, Bool.and_false]
      · congr 1
        exact decide_eq_decide.mpr (by omega)
theorem sq_dv {z : Nat} (h : z < 8589934592) : dv z = cm (ehF (z >>> 1) 17) (ehF (z >>> 1) 17) := by
  refine Nat.eq_of_testBit_eq fun i => ?_
  rw [dv_eq h, mdF_bit, sq_bit, Nat.testBit_shiftRight, Nat.add_comm 1 i]
  by_cases g : i + 1 < 33
  · congr 1
    exact decide_eq_decide.mpr (by omega)
  · rw [b33 h (by omega), Bool.and_false, Bool.and_false]
theorem sq_z {z : Nat} (h : z < 8589934592) : z = cm (ehF z 17) (ehF z 17) ^^^ cm (dv z) 2 := by
  refine Nat.eq_of_testBit_eq fun i => ?_
  rw [cm_2r, sq_dv h, Nat.testBit_xor, Nat.testBit_shiftLeft, sq_bit, sq_bit, Nat.testBit_shiftRight]
  by_cases g : i < 33
  · by_cases g2 : i % 2 = 0
    · rw [decide_eq_true (by omega : i % 2 = 0 ∧ i / 2 < 17), Bool.true_and]
      by_cases g3 : i = 0
      · subst g3
        rw [decide_eq_false (by omega : ¬ 0 ≥ 1), Bool.false_and, Bool.xor_false]
      · rw [decide_eq_false (by omega : ¬ ((i - 1) % 2 = 0 ∧ (i - 1) / 2 < 17)), Bool.false_and, Bool.and_false, Bool.xor_false]
    · rw [decide_eq_false (by omega : ¬ (i % 2 = 0 ∧ i / 2 < 17)), decide_eq_true (by omega : (i - 1) % 2 = 0 ∧ (i - 1) / 2 < 17), decide_eq_true (by omega : i ≥ 1), show 1 + (i - 1) = i by omega]
      simp
  · rw [b33 h (by omega), show 1 + (i - 1) = i by omega, b33 h (by omega)]
    simp
theorem one_Dv {d : Nat} (h : Dv d 1) : d = 1 := by
  obtain ⟨q, hq⟩ := h
  have h1 : d ≠ 0 := fun g => by rw [g, cm_0l] at hq; exact absurd hq (by decide)
  have h2 : q ≠ 0 := fun g => by rw [g, cm_0r] at hq; exact absurd hq (by decide)
  have h3 := cm_tp h1 h2
  rw [← hq, show tp 1 = 0 from rfl] at h3
  have h4 : ¬ tp d < 0 := fun g => h1 (tp_neg.mp g)
  have h5 : ¬ tp q < 0 := fun g => h2 (tp_neg.mp g)
  have h6 := (tp_le (n := d) (k := 0)).mp (by omega)
  omega
theorem free_eq {z : Nat} (h : z < 8589934592) : (eu z (dv z) z (dv z) = 1) ↔ (eu (ehF z 17) (ehF (z >>> 1) 17) (ehF z 17) (ehF (z >>> 1) 17) = 1) := by
  have hd := dv33 h
  have hE : ehF z 17 < 8589934592 := Nat.lt_of_lt_of_le (ehF_lt z 17) (by decide)
  have hO : ehF (z >>> 1) 17 < 8589934592 := Nat.lt_of_lt_of_le (ehF_lt _ 17) (by decide)
  have e1 := sq_z h
  have e2 := sq_dv h
  constructor
  · intro g
    obtain ⟨d1, d2⟩ := eu_dvd hE hO
    have d3 := Dv_m (ehF (z >>> 1) 17) d2
    rw [← e2] at d3
    have d4 := Dv_x (Dv_m (ehF z 17) d1) (Dv_m 2 d3)
    rw [← e1] at d4
    have d5 := eu_lin h hd d4 d3
    rw [g] at d5
    exact one_Dv d5
  · intro g
    obtain ⟨d1, d2⟩ := eu_dvd h hd
    obtain ⟨s, t, k⟩ := euF_lin 65 _ _ hE hO (by have := tp33.mp hO; omega)
    rw [← eu, g] at k
    have d3 := Dv_x d1 (Dv_m 2 d2)
    have e3 : z ^^^ cm (dv z) 2 = cm (ehF z 17) (ehF z 17) := by
      have : (cm (ehF z 17) (ehF z 17) ^^^ cm (dv z) 2) ^^^ cm (dv z) 2 = cm (ehF z 17) (ehF z 17) := by rw [Nat.xor_assoc, Nat.xor_self, Nat.xor_zero]
      rwa [← e1] at this
    rw [e3] at d3
    have e4 : 1 = cm (cm (ehF z 17) (ehF z 17)) (cm s s) ^^^ cm (dv z) (cm t t) := by
      have e5 : ∀ x y : Nat, cm (cm x y) (cm x y) = cm (cm x x) (cm y y) := fun x y => by rw [cm_assoc, ← cm_assoc y x y, cm_comm y x, cm_assoc x y y, ← cm_assoc x x]
      rw [e2, ← e5, ← e5, ← sq_x, ← k]
      rfl
    refine one_Dv ?_
    rw [e4]
    exact Dv_x (Dv_m _ d3) (Dv_m _ d2)
theorem dvd_eq {f z : Nat} : decide (rm z f = 0) = decide (if f = 0 then z = 0 else rm z f = 0) := by
  refine decide_eq_decide.mpr ?_
  by_cases h : f = 0
  · subst h
    rw [if_pos rfl, rm, pm_0r, Nat.xor_zero]
  · rw [if_neg h]
theorem free_eqB {z : Nat} (h : z < 8589934592) : decide (eu z (dv z) z (dv z) = 1) = decide (eu (ehF z 17) (ehF (z >>> 1) 17) (ehF z 17) (ehF (z >>> 1) 17) = 1) := decide_eq_decide.mpr (free_eq h)
end QC
/-! ===== the three constructors ===== -/
section KA
variable {p : Program} {l : Launch} {e : Env} {R : Room} {s : State} {m : MethodId} {args : Array Value} {below : List Frame} {meth : Method} {c : Code} {H : Heap} {locs : List Loc} {cells slots : Nat} {Q : State → Prop}
variable {cc : ByteArray} {pc nL : Nat} {ls : Array Slot} {rest st : List Value} {own : String} {lv : List (Nat × Value)} {D : va_G} {cJ : ClassId} {A : Nat → Prop} {b : Nat}
theorem zr_newl (C : CallFix p m c cc nL s args T0 own) (hK : va_K D vwCl [(cJ, .long)] s) (hS : va_S A s.heap H locs) (hc : cells + 1 ≤ R.cells) (hs : slots + 6 ≤ R.slots) (d : decode cc pc = .ok (.newarray .long, 2))
    (kk : ∀ q H1, H.size ≤ q → va_P D vwCl [(q, .inl (cJ, 6, .inr (.inl (fun _ => lN 0))))] H1 → va_S A s.heap H1 locs → (∀ x : Nat, x < H.size → H1[x]? = H[x]?) → H.size ≤ H1.size → W p l e R s m args below meth c H1 locs (cells + 1) (slots + 6) Q (F0 m (pc + 2) ls (.ref q :: rest))) : W p l e R s m args below meth c H locs cells slots Q (F0 m pc ls (.int (iZ 6) :: rest)) := by
  refine va_newaK C.1 C.2.1 (atype := .long) (C.2.2.2.2 _ (T0_of ac_long rfl)) (g := F0 m pc ls (.int (iZ 6) :: rest)) rfl d rfl (N := 6) (by decide) (by decide) (by decide) hc hs rfl fun H1 cA e1 z1 o1 hAr hNm => ?_
  have hB : s.vm.findClass ("[" ++ (newarray.typeOf .long).toString) = some cJ := (hK.2 0 _ rfl).2
  have e9 : cA = cJ := Option.some.inj (hNm.symm.trans hB)
  subst e9
  refine kk H.size H1 (Nat.le_refl _) (wP1 ?_) ⟨Nat.le_trans hS.1 (by omega), fun x g1 g2 => (o1 x (Nat.lt_of_lt_of_le g1 hS.1)).trans (hS.2.1 x g1 g2), hS.2.2⟩ o1 (by omega)
  show H1[H.size]? = some (vp_cell _ _)
  exact e1
/-- a constructor of a nest mate -/
theorem zn_callN (C : CallFix p m c cc nL s args T0 own) {P : Nat → State → Heap → Prop} {Q2 : Nat → Nat → State → Heap → Prop} {F : Nat → Nat → Nat → Prop} (hP : P b s H) (hS : va_S A s.heap H locs) (hA : ∀ q, F b H.size q → A q) {y : MethodName} {host : String} {fr need mc ms idx : Nat} {as : List Value} (hM : zNM l y fr need mc ms as P Q2 F) (hG : va_Nw (Cond.methodLinkNest own idx y host) s)
    (hR : fr + 1 ≤ R.frames ∧ need ≤ R.locals) (hf : cells + mc ≤ R.cells ∧ slots + ms ≤ R.slots) (hl : lv_has ls nL lv) (hcat : (rest.map fun v => v.category).sum ≤ 8) (hst : st = as.reverse ++ .ref b :: rest) (d : decode cc pc = .ok (.invokespecial idx, 3))
    (kk : ∀ H1 locs1, Q2 b H.size s H1 → va_S A s.heap H1 locs1 → (∀ q : Nat, q < H.size → ¬ F b H.size q → H1[q]? = H[q]?) → H.size ≤ H1.size → W p l e R s m args below meth c H1 locs1 (cells + mc) (slots + ms) Q (F0 m (pc + 3) ls rest)) : W p l e R s m args below meth c H locs cells slots Q (F0 m pc ls st) := by
  obtain ⟨bytes, maxL, lo, hz, hn, hd, hni, hPm, hQm, hM⟩ := hM
  have hM := hM b H.size
  have cw := va_cnB (R := R) (s := s) (args := args) (own := own) (host := host) (index := idx) (y := y) (bytes := bytes) (maxL := maxL) (ret := none) (ws := Cond.code y bytes maxL none :: T0) (ws' := T0) (rm := { frames := fr, cells := mc, slots := ms, locals := lo }) (mc := mc) (ms := ms) as.length C.2.2.2.2 (zgB hz.2.2) rfl rfl rfl hG (C.2.2.2.2 _ (T0_of hz.2.1 rfl)) hd ⟨hR.1, by rw [hn] at hR; exact hR.2⟩
  have hr := va_runIN (p := p) (l := l) (e := e) (below := below) (meth := meth) (c := c) (H := H) (locs := locs) (cells := cells) (slots := slots) (g := F0 m pc ls st) (rest := rest) (b := b) (As := as) C hM ⟨cw, hni, C.2.2.2.2 _ (T0_of hz.1 rfl)⟩ ⟨fun A U g mk q => ⟨q.1, q.2.1, hPm b U (U.calling g mk A) U.heap (State.WarmedH.refl U) q.2.2⟩, fun U hU hW => ⟨rfl, by rw [hU], by rw [hU]; exact hPm b s U H hW hP⟩⟩ rfl rfl hl.1 hst (lv_room hcat) d hf
  intro T9 hT X
  obtain ⟨v9, st₀, t, T', L, h0, X', hL, e1, e2, ⟨hv, hQ, hF⟩, st2⟩ := hr T9 hT X
  cases hv
  obtain ⟨hz2, hk2⟩ := hF
  rw [h0] at hz2 hk2
  have hss : s.heap.size ≤ H.size := hS.1
  have hS2 : va_S A s.heap T'.heap (locs ++ L) := by
    refine ⟨Nat.le_trans hss (by rw [e1]; exact hz2), fun q h1 h2 => ?_, fun q hq => ?_⟩
    · rw [e1, hk2 q (Nat.lt_of_lt_of_le h1 hss) (fun z => h2 (hA q z))]
      exact hS.2.1 q h1 h2
    · rcases List.mem_append.mp hq with h | h
      · exact hS.2.2 q h
      · exact hA _ (hL q h)
  obtain ⟨t2, a1, b1⟩ := kk T'.heap (locs ++ L) (by rw [e1]; exact hQm b H.size t s t.heap (by rw [← e2]; exact X'.warmed.alike.symm) hQ) hS2 (fun q h1 h2 => by rw [e1]; exact hk2 q h1 h2) (by rw [e1]; exact hz2) T' rfl X'
  exact ⟨t2, st2 t2 a1, b1⟩
end KA
section KB
def zI6 (D : va_G) (cJ : ClassId) (ci : Nat) (fs : List Value) (b : Nat) (U : State) (H : Heap) : Prop := va_P D vwCl [(b, .inr (ci, fs))] H ∧ va_K D vwCl [(cJ, .long)] U
theorem zI6.warm {D : va_G} {cJ : ClassId} {ci : Nat} {fs : List Value} (b : Nat) (s U : State) (H : Heap) (hW : s.WarmedH U.vm) (h : zI6 D cJ ci fs b s H) : zI6 D cJ ci fs b U H := ⟨h.1, va_K.moved hW.alike h.2⟩
def zQ6 (D : va_G) (cJ : ClassId) (ci : Nat) (fs : List Value) (b sz : Nat) (U : State) (H : Heap) : Prop := ∃ a, AtO D ci cJ b a (fun _ => 0) fs U H ∧ sz ≤ a
theorem zQ6.moved {D : va_G} {cJ : ClassId} {ci : Nat} {fs : List Value} (b sz : Nat) (s U : State) (H : Heap) (hW : s.vm.Alike U.vm) (h : zQ6 D cJ ci fs b sz s H) : zQ6 D cJ ci fs b sz U H := h.imp fun _ g => ⟨g.1.moved hW, g.2⟩
theorem wP2 {D : va_G} {a b : Nat} {x y : va_E} {H : Heap} (h1 : va_P D vwCl [(a, x)] H) (h2 : va_P D vwCl [(b, y)] H) : va_P D vwCl [(a, x), (b, y)] H := by
  intro k q hk
  match k, hk with
  | 0, hk => cases hk; exact h1 0 _ rfl
  | 1, hk => cases hk; exact h2 0 _ rfl
  | k + 2, hk => simp at hk
set_option maxHeartbeats 4000000 in
theorem c_X3_init (l : Launch) (D : va_G) (cJ : ClassId) : zNM l yX3_init 1 60 1 6 [] (zI6 D cJ 2 [.null, .int 0, .int 0, .int 0]) (zQ6 D cJ 2 [.int 0, .int 0, .int 0]) zF1 := by
  refine zNM.intro (lo := 40) (nA := 0) (own := RX3) zi_X3_init (by decide) rfl rfl (by decide +kernel) rfl (fun _ => Nat.le_of_ble_eq_true rfl) rfl zI6.warm zQ6.moved ?_
  intro b p e s m below meth c ls C hr hk hin hP hl
  obtain ⟨hP, hK⟩ := hP
  have hl : lv_has ls 1 [(0, .ref b)] := hl
  have hbl : b < s.heap.size := (hP 0 _ rfl).lt
  refine lv_aload_n C.1 C.2.1 dX3_init_0 rfl (lv_at hl 0 rfl) ?_
  refine W.objInit C.1 C.2.1 C.2.2.2.1 (C.2.2.2.2 _ (T0_of my_X3_1 rfl)) (C.2.2.2.2 _ (T0_of im_java_lang_Object_init rfl)) (C.2.2.2.2 _ (T0_of cd_oi rfl)) rfl (hl.1.trans C.2.2.1.symm) rfl dX3_init_1 (Nat.le_of_ble_eq_true rfl) (Nat.le_of_ble_eq_true rfl) ?_
  refine W.eq (g2 := F0 m 4 ls []) rfl ?_
  refine lv_aload_n C.1 C.2.1 dX3_init_4 rfl (lv_at hl 0 rfl) ?_
  refine z_bipush C dX3_init_5 (by decide) ?_
  refine zr_newl (A := zF1 b s.heap.size) C hK va_S.rf (Nat.le_of_ble_eq_true rfl) (Nat.le_of_ble_eq_true rfl) dX3_init_7 (fun w H1 hw hW S1 ho hz => ?_)
  refine za_putF C hin inX3 tyX3 tyX3_ok nmX3 hK (wK1 hP (ho b hbl)) S1 (Or.inl rfl) rfl 0 (by decide) fl_X3_9 rfl rfl rfl (ty := .array .long) rfl rfl rfl (Nat.le_of_ble_eq_true rfl) dX3_init_9 (fun H2 locs2 hP2 S2 hq2 hz2 => ?_)
  refine lv_aload_n C.1 C.2.1 dX3_init_12 rfl (lv_at hl 0 rfl) ?_
  refine z_iconst C dX3_init_13 ?_
  refine za_put C inX3 tyX3 tyX3_ok nmX3 hK hP2 S2 (Or.inl rfl) rfl 1 (by decide) fl_X3_13 rfl rfl (ty := .int) rfl rfl rfl (Nat.le_of_ble_eq_true rfl) dX3_init_14 (fun H3 locs3 hP3 S3 hq3 hz3 => ?_)
  refine lv_aload_n C.1 C.2.1 dX3_init_17 rfl (lv_at hl 0 rfl) ?_
  refine z_iconst C dX3_init_18 ?_
  refine za_put C inX3 tyX3 tyX3_ok nmX3 hK hP3 S3 (Or.inl rfl) rfl 2 (by decide) fl_X3_17 rfl rfl (ty := .int) rfl rfl rfl (Nat.le_of_ble_eq_true rfl) dX3_init_19 (fun H4 locs4 hP4 S4 hq4 hz4 => ?_)
  refine lv_aload_n C.1 C.2.1 dX3_init_22 rfl (lv_at hl 0 rfl) ?_
  refine z_iconst C dX3_init_23 ?_
  refine za_put C inX3 tyX3 tyX3_ok nmX3 hK hP4 S4 (Or.inl rfl) rfl 3 (by decide) fl_X3_20 rfl rfl (ty := .int) rfl rfl rfl (Nat.le_of_ble_eq_true rfl) dX3_init_24 (fun H5 locs5 hP5 S5 hq5 hz5 => ?_)
  have hbw : w ≠ b := by omega
  have hB : AtO D 2 cJ b w (fun _ => 0) [.int 0, .int 0, .int 0] s H5 := ⟨wP2 hP5 (wK1 (wK1 (wK1 (wK1 hW (hq2 w hbw)) (hq3 w hbw)) (hq4 w hbw)) (hq5 w hbw)), hK, Ne.symm hbw, fun _ => (by omega : (0 : Nat) < 8589934592)⟩
  exact W.vret C.1 C.2.1 hr (fun t ht hW9 => ⟨rfl, ⟨w, by rw [ht]; exact hB.moved hW9.alike, hw⟩, S5.F ht⟩) S5.2.2 dX3_init_27 hk
set_option maxHeartbeats 4000000 in
theorem c_X5_init (l : Launch) (D : va_G) (cJ : ClassId) : zNM l yX5_init 1 60 1 6 [] (zI6 D cJ 4 [.null, .int 0, .int 0, .int 0, .int 0]) (zQ6 D cJ 4 [.int 0, .int 0, .int 0, .int 0]) zF1 := by
  refine zNM.intro (lo := 40) (nA := 0) (own := RX5) zi_X5_init (by decide) rfl rfl (by decide +kernel) rfl (fun _ => Nat.le_of_ble_eq_true rfl) rfl zI6.warm zQ6.moved ?_
  intro b p e s m below meth c ls C hr hk hin hP hl
  obtain ⟨hP, hK⟩ := hP
  have hl : lv_has ls 1 [(0, .ref b)] := hl
  have hbl : b < s.heap.size := (hP 0 _ rfl).lt
  refine lv_aload_n C.1 C.2.1 dX5_init_0 rfl (lv_at hl 0 rfl) ?_
  refine W.objInit C.1 C.2.1 C.2.2.2.1 (C.2.2.2.2 _ (T0_of my_X5_1 rfl)) (C.2.2.2.2 _ (T0_of im_java_lang_Object_init rfl)) (C.2.2.2.2 _ (T0_of cd_oi rfl)) rfl (hl.1.trans C.2.2.1.symm) rfl dX5_init_1 (Nat.le_of_ble_eq_true rfl) (Nat.le_of_ble_eq_true rfl) ?_
  refine W.eq (g2 := F0 m 4 ls []) rfl ?_
  refine lv_aload_n C.1 C.2.1 dX5_init_4 rfl (lv_at hl 0 rfl) ?_
  refine z_bipush C dX5_init_5 (by decide) ?_
  refine zr_newl (A := zF1 b s.heap.size) C hK va_S.rf (Nat.le_of_ble_eq_true rfl) (Nat.le_of_ble_eq_true rfl) dX5_init_7 (fun w H1 hw hW S1 ho hz => ?_)
  refine za_putF C hin inX5 tyX5 tyX5_ok nmX5 hK (wK1 hP (ho b hbl)) S1 (Or.inl rfl) rfl 0 (by decide) fl_X5_7 rfl rfl rfl (ty := .array .long) rfl rfl rfl (Nat.le_of_ble_eq_true rfl) dX5_init_9 (fun H2 locs2 hP2 S2 hq2 hz2 => ?_)
  have hbw : w ≠ b := by omega
  have hB : AtO D 4 cJ b w (fun _ => 0) [.int 0, .int 0, .int 0, .int 0] s H2 := ⟨wP2 hP2 (wK1 hW (hq2 w hbw)), hK, Ne.symm hbw, fun _ => (by omega : (0 : Nat) < 8589934592)⟩
  exact W.vret C.1 C.2.1 hr (fun t ht hW9 => ⟨rfl, ⟨w, by rw [ht]; exact hB.moved hW9.alike, hw⟩, S2.F ht⟩) S2.2.2 dX5_init_12 hk
def zI7 (D : va_G) (b : Nat) (U : State) (H : Heap) : Prop := va_P D vwCl (wOut b 0 .null) H ∧ va_K D vwCl [] U
theorem zI7.warm {D : va_G} (b : Nat) (s U : State) (H : Heap) (hW : s.WarmedH U.vm) (h : zI7 D b s H) : zI7 D b U H := ⟨h.1, va_K.moved hW.alike h.2⟩
def zQ7 (D : va_G) (b _sz : Nat) (U : State) (H : Heap) : Prop := AtW D b 0 .null U H
theorem zQ7.moved {D : va_G} (b sz : Nat) (s U : State) (H : Heap) (hW : s.vm.Alike U.vm) (h : zQ7 D b sz s H) : zQ7 D b sz U H := AtW.moved hW h
set_option maxHeartbeats 4000000 in
theorem c_X4_init (l : Launch) (D : va_G) : zNM l yX4_init 1 60 0 0 [] (zI7 D) (zQ7 D) zF1 := by
  refine zNM.intro (lo := 40) (nA := 0) (own := RX4) zi_X4_init (by decide) rfl rfl (by decide +kernel) rfl (fun _ => Nat.le_of_ble_eq_true rfl) rfl zI7.warm zQ7.moved ?_
  intro b p e s m below meth c ls C hr hk hin hP hl
  obtain ⟨hP, hK⟩ := hP
  have hl : lv_has ls 1 [(0, .ref b)] := hl
  have S0 : va_S (zF1 b s.heap.size) s.heap s.heap [] := va_S.rf
  refine lv_aload_n C.1 C.2.1 dX4_init_0 rfl (lv_at hl 0 rfl) ?_
  refine W.objInit C.1 C.2.1 C.2.2.2.1 (C.2.2.2.2 _ (T0_of my_X4_1 rfl)) (C.2.2.2.2 _ (T0_of im_java_lang_Object_init rfl)) (C.2.2.2.2 _ (T0_of cd_oi rfl)) rfl (hl.1.trans C.2.2.1.symm) rfl dX4_init_1 (Nat.le_of_ble_eq_true rfl) (Nat.le_of_ble_eq_true rfl) ?_
  refine W.eq (g2 := F0 m 4 ls []) rfl ?_
  exact W.vret C.1 C.2.1 hr (fun t ht hW9 => ⟨rfl, by rw [ht]; exact ⟨hP, va_K.moved hW9.alike hK, Or.inl rfl⟩, S0.F ht⟩) S0.2.2 dX4_init_4 hk
end KB
/-! ===== the law's wrappers of methods that write texts ===== -/
section VA8
/-- the wrapper's world, with what texts stand on -/
def zLj (D : va_G) (cB cJ : ClassId) (o a w : Nat) (ce : Nat → Nat) (fs : List Value) (n : Int64) (sv : Value) (U : State) (H : Heap) : Prop :=
  zLi D cJ o a w ce fs n sv U H ∧ va_K D vwCl [(cB, .byte)] U ∧ zV (fun q => q = w ∨ zoa o a q) U H
theorem zLj.moved {D : va_G} {cB cJ : ClassId} {o a w : Nat} {ce : Nat → Nat} {fs : List Value} {n : Int64} {sv : Value} {s U : State} {H : Heap} (hW : s.WarmedH U.vm) (h : zLj D cB cJ o a w ce fs n sv s H) : zLj D cB cJ o a w ce fs n sv U H :=
  ⟨h.1.moved hW, va_K.moved hW.alike h.2.1, h.2.2.warm hW⟩
abbrev zL2 (below : List Frame) (D : va_G) (cJ : ClassId) (o a w : Nat) (av : Array Value) (s : State) (mc ms : Nat) (r : Int) (c2 : Nat → Nat) (fs2 : List Value) (n2 : Int64) : State → Prop :=
  MQ below (fun _ st oc t => oc = .returned (some (.int (iZ r))) ∧ AtO D 2 cJ o a c2 fs2 t t.heap ∧ (∃ sv2, AtW D w n2 sv2 t t.heap) ∧ va_F (zFw o a w s.heap.size) st t) av s mc ms (zFw o a w s.heap.size)
def zLV (l : Launch) (y : MethodName) (fr need mc ms : Nat) (D : va_G) (cB cJ : ClassId) (o a w : Nat) (as : List Value) (ce : Nat → Nat) (fs : List Value) (n : Int64) (sv : Value) (r : Int) (c2 : Nat → Nat) (fs2 : List Value) (n2 : Int64) : Prop :=
  ∃ (bytes : ByteArray) (maxL lo : Nat) (hh : List (Nat × Nat × Nat × Nat)), zSW y bytes maxL (some .int) hh ∧ need = 8 + (maxL + 11) + lo ∧
    (y.cls = y.cls ∧ y.cls ≠ "java/lang/invoke/MethodHandle" ∧ y.cls ≠ "java/lang/invoke/VarHandle" ∧ (parseMethodDescriptor y.desc).map (fun d => d.parameters.length) = some as.length) ∧
    ∀ sz : Nat, Met l y (Cond.codeWith y bytes maxL (some .int) hh :: T0) { frames := fr, cells := mc, slots := ms, locals := lo } (fun v U => v = as.toArray ∧ U.heap.size = sz ∧ zLj D cB cJ o a w ce fs n sv U U.heap)
      (fun _ st oc t => oc = .returned (some (.int (iZ r))) ∧ AtO D 2 cJ o a c2 fs2 t t.heap ∧ (∃ sv2, AtW D w n2 sv2 t t.heap) ∧ va_F (zFw o a w sz) st t) mc ms (zFw o a w sz)
theorem zLV.intro {l : Launch} {y : MethodName} {fr need lo nA mc ms : Nat} {D : va_G} {cB cJ : ClassId} {o a w : Nat} {as : List Value} {ce : Nat → Nat} {fs : List Value} {n : Int64} {sv : Value} {r : Int} {c2 : Nat → Nat} {fs2 : List Value} {n2 : Int64} {cc : ByteArray} {maxL : Nat} {hh : List (Nat × Nat × Nat × Nat)} (hz : zSW y cc maxL (some .int) hh) (hy : plainName y.cls = true) (ho : RL = y.cls) (hn : need = 8 + (maxL + 11) + lo)
    (hd : y.cls ≠ "java/lang/invoke/MethodHandle" ∧ y.cls ≠ "java/lang/invoke/VarHandle" ∧ (parseMethodDescriptor y.desc).map (fun d => d.parameters.length) = some nA) (hA : as.length = nA) (hle : (lg_sl as).length ≤ maxL)
    (body : ∀ (p : Program) (e : Env) (s : State) (m : MethodId) (below : List Frame) (meth : Method) (c0 : Code) (ls : Array Slot), CallFix p m c0 cc maxL s as.toArray T0 RL → meth.sig.returnType = some .int → meth.locks = false → c0.exceptionTable.toList = tableOf hh → zLj D cB cJ o a w ce fs n sv s s.heap → va_S (zFw o a w s.heap.size) s.heap s.heap [] → lv_has ls maxL (lv_args 0 as) →
      W p l e { frames := fr, cells := mc, slots := ms, locals := lo } s m as.toArray below meth c0 s.heap [] 0 0 (zL2 below D cJ o a w as.toArray s mc ms r c2 fs2 n2) (F0 m 0 ls [])) : zLV l y fr need mc ms D cB cJ o a w as ce fs n sv r c2 fs2 n2 := by
  subst hA
  refine ⟨cc, maxL, lo, hh, hz, hn, ⟨rfl, hd⟩, fun sz => ?_⟩
  refine zMet_ofWH (ws' := T0) hy rfl ?_
  intro p e s m args below meth c0 s₁ B hml hv
  obtain ⟨hv, hsz, hLi⟩ := hv
  subst hv
  subst hsz
  have hts := atoms_spec (ws := Cond.codeWith y cc maxL (some .int) hh :: T0) B.pre
  have hown : s.vm.findClass RL = some m.cls := by rw [ho]; exact findClass_of_methodNamed B.named
  have htab := vx_table (x := y) B (hts _ List.mem_cons_self)
  rw [lg_entry_eq]
  exact body p e s m below meth c0 _ ⟨B.exec, B.bytes, hml, hown, fun w h => hts w (List.mem_cons_of_mem _ h)⟩ B.returns B.notSynchronized htab hLi va_S.rf (lv_entry as hle)
end VA8
section VB8
variable {p : Program} {l : Launch} {e : Env} {R : Room} {s : State} {m : MethodId} {args : Array Value} {below : List Frame} {meth : Method} {c : Code} {H : Heap} {locs : List Loc} {cells slots : Nat} {Q : State → Prop}
variable {cc : ByteArray} {pc nL : Nat} {ls : Array Slot} {rest st : List Value} {own : String} {lv : List (Nat × Value)} {D : va_G} {ci : Nat} {cB cJ : ClassId} {o a w : Nat} {ce : Nat → Nat} {fs : List Value} {A : Nat → Prop}
/-- a call of an object's method that may write texts, from any world -/
theorem zgV_call (C : CallFix p m c cc nL s args T0 own) (hAt : AtO D ci cJ o a ce fs s H) (hK : va_K D vwCl [(cB, .byte)] s) (hV : zV (zoa o a) s H) (hS : va_S A s.heap H locs) (hA : ∀ q, zF o a H.size q → A q) {y : MethodName} {fr need mc ms idx : Nat} {as : List Value} {rv : Option Value → Prop} {c2 : Nat → Nat} {fs2 : List Value} {T : u_T} {N : Nat} (hM : zAV l y fr need mc ms D cB ci cJ o a as ce fs rv c2 fs2) (hG : Cond.methodLink own idx y ∈ lw_tbl) (hcl : vwCl[ci]? = some (y.cls, T, N))
    (hR : fr + 1 ≤ R.frames ∧ need ≤ R.locals) (hf : cells + mc ≤ R.cells ∧ slots + ms ≤ R.slots) (hl : lv_has ls nL lv) (hcat : (rest.map fun v => v.category).sum ≤ 8) (hst : st = as.reverse ++ .ref o :: rest) (d : decode cc pc = .ok (.invokevirtual idx, 3))
    (k : ∀ v H1 locs1, rv v → AtO D ci cJ o a c2 fs2 s H1 → va_S A s.heap H1 locs1 → (∀ q : Nat, q < H.size → ¬ (q = o ∨ q = a) → H1[q]? = H[q]?) → H.size ≤ H1.size → W p l e R s m args below meth c H1 locs1 (cells + mc) (slots + ms) Q (F0 m (pc + 3) ls (v.toList ++ rest))) : W p l e R s m args below meth c H locs cells slots Q (F0 m pc ls st) := by
  obtain ⟨bytes, maxL, lo, ret, hz, hn, hd, hM⟩ := hM
  have hM := hM H.size
  have cw := cwV (R := R) (own := own) (index := idx) (C := y.cls) (y := y) (bytes := bytes) (maxL := maxL) (ret := ret) (ws := Cond.code y bytes maxL ret :: T0) (ws' := T0) (rm := { frames := fr, cells := mc, slots := ms, locals := lo }) (mc := mc) (ms := ms) as.length C.2.2.2.2 (zgV hG hz) rfl rfl rfl hd ⟨hR.1, by rw [hn] at hR; exact hR.2⟩
  have hr := va_runV (p := p) (l := l) (e := e) (below := below) (meth := meth) (c := c) (H := H) (locs := locs) (cells := cells) (slots := slots) (g := F0 m pc ls st) (rest := rest) C hM cw ⟨fun A U g mk q => ⟨q.1, q.2.1, q.2.2.1.moved (U := U.calling g mk A) (Vm.Alike.refl U.vm), va_K.moved (Vm.Alike.refl U.vm) q.2.2.2.1, q.2.2.2.2.warm (State.WarmedH.refl U)⟩, va_recv hAt.2.1 hAt.1 (ci := ci) (q0 := 0) hcl rfl, fun U hU hW => ⟨rfl, by rw [hU], by rw [hU]; exact hAt.moved hW.alike, va_K.moved hW.alike hK, by rw [hU]; exact hV.warm hW⟩⟩ rfl rfl hl.1 hst (lv_room hcat) d hf
  intro T9 hT X
  obtain ⟨v2, st₀, t, T', L, h0, X', hL, e1, e2, ⟨⟨v3, hv, hrv⟩, hAt2, hF⟩, st2⟩ := hr T9 hT X
  cases hv
  obtain ⟨hz2, hk2⟩ := hF
  rw [h0] at hz2 hk2
  have hss : s.heap.size ≤ H.size := hS.1
  have hS2 : va_S A s.heap T'.heap (locs ++ L) := by
    refine ⟨Nat.le_trans hss (by rw [e1]; exact hz2), fun q h1 h2 => ?_, fun q hq => ?_⟩
    · rw [e1, hk2 q (Nat.lt_of_lt_of_le h1 hss) (fun z => h2 (hA q z))]
      exact hS.2.1 q h1 h2
    · rcases List.mem_append.mp hq with h | h
      · exact hS.2.2 q h
      · exact hA _ (hL q h)
  obtain ⟨t2, a1, b1⟩ := k v2 T'.heap (locs ++ L) hrv (by rw [e1]; exact hAt2.moved (by rw [← e2]; exact X'.warmed.alike.symm)) hS2 (fun q h1 h2 => by rw [e1]; exact hk2 q h1 (fun z => by rcases z with z | z | z; exact h2 (Or.inl z); exact h2 (Or.inr z); omega)) (by rw [e1]; exact hz2) T' rfl X'
  exact ⟨t2, st2 t2 a1, b1⟩
theorem zl_retV {as : List Value} {mc ms : Nat} {r : Int} {v : Int32} {n2 : Int64} {sv2 : Value} (C : CallFix p m c cc nL s as.toArray T0 own) (hAt : AtO D 2 cJ o a ce fs s H) (hW : AtW D w n2 sv2 s H) (hS : va_S (zFw o a w s.heap.size) s.heap H locs) (hr : meth.sig.returnType = some .int) (hk : meth.locks = false) (h1 : cells ≤ mc) (h2 : slots ≤ ms) (d : decode cc pc = .ok (.ireturn, 1)) (hv : v = iZ r) :
    W p l e R s m as.toArray below meth c H locs cells slots (zL2 below D cJ o a w as.toArray s mc ms r ce fs n2) (F0 m pc ls [.int v]) := by
  subst hv
  refine W.widen (k := mc) (n := ms) h1 h2 ?_
  exact W.iret C.1 C.2.1 hr (fun t ht hW9 => ⟨rfl, by rw [ht]; exact hAt.moved hW9.alike, ⟨sv2, by rw [ht]; exact hW.moved hW9.alike⟩, hS.F ht⟩) hS.2.2 d hk
/-- the law calls such a wrapper -/
theorem zlV_call (C : CallFix p m c cc nL s args T0 own) {n : Int64} {sv : Value} (hLj : zLj D cB cJ o a w ce fs n sv s H) (hS : va_S A s.heap H locs) (hA : ∀ q, zFw o a w H.size q → A q) {y : MethodName} {fr need mc ms idx : Nat} {as : List Value} {r : Int} {c2 : Nat → Nat} {fs2 : List Value} {n2 : Int64} (hM : zLV l y fr need mc ms D cB cJ o a w as ce fs n sv r c2 fs2 n2) (hG : Cond.methodLink own idx y ∈ lw_tbl)
    (hR : fr + 1 ≤ R.frames ∧ need ≤ R.locals) (hf : cells + mc ≤ R.cells ∧ slots + ms ≤ R.slots) (hl : lv_has ls nL lv) (hcat : (rest.map fun v => v.category).sum ≤ 8) (hst : st = as.reverse ++ rest) (d : decode cc pc = .ok (.invokestatic idx, 3))
    (k : ∀ sv2 H1 locs1, zLi D cJ o a w c2 fs2 n2 sv2 s H1 → va_S A s.heap H1 locs1 → (∀ q : Nat, q < H.size → ¬ (q = w ∨ q = o ∨ q = a) → H1[q]? = H[q]?) → H.size ≤ H1.size → W p l e R s m args below meth c H1 locs1 (cells + mc) (slots + ms) Q (F0 m (pc + 3) ls (.int (iZ r) :: rest))) : W p l e R s m args below meth c H locs cells slots Q (F0 m pc ls st) := by
  obtain ⟨bytes, maxL, lo, hh, hz, hn, hd, hM⟩ := hM
  have hM := hM H.size
  have hLi := hLj.1
  have cw := vx_cwSW (R := R) (own := own) (index := idx) (y := y) (bytes := bytes) (maxL := maxL) (ret := some .int) (hh := hh) (ws := Cond.codeWith y bytes maxL (some .int) hh :: T0) (ws' := T0) (rm := { frames := fr, cells := mc, slots := ms, locals := lo }) (mc := mc) (ms := ms) as.length C.2.2.2.2 (zgW hG hz) rfl rfl rfl hd.2 ⟨hR.1, by rw [hn] at hR; exact hR.2⟩
  have hr := vx_runSW (p := p) (l := l) (e := e) (below := below) (meth := meth) (c := c) (H := H) (locs := locs) (cells := cells) (slots := slots) (g := F0 m pc ls st) (rest := rest) C hM cw ⟨fun A U g mk q => ⟨q.1, q.2.1, q.2.2.moved (U := U.calling g mk A) (State.WarmedH.refl U)⟩, fun U hU hW => ⟨rfl, by rw [hU], by rw [hU]; exact hLj.moved hW⟩⟩ rfl rfl hl.1 hst (lv_room hcat) d hf
  intro T9 hT X
  obtain ⟨v2, st₀, t, T', L, h0, X', hL, e1, e2, ⟨hv, hAt2, ⟨sv2, hW2⟩, hF⟩, st2⟩ := hr T9 hT X
  cases hv
  obtain ⟨hz2, hk2⟩ := hF
  rw [h0] at hz2 hk2
  have hss : s.heap.size ≤ H.size := hS.1
  have hS2 : va_S A s.heap T'.heap (locs ++ L) := by
    refine ⟨Nat.le_trans hss (by rw [e1]; exact hz2), fun q h1 h2 => ?_, fun q hq => ?_⟩
    · rw [e1, hk2 q (Nat.lt_of_lt_of_le h1 hss) (fun z => h2 (hA q z))]
      exact hS.2.1 q h1 h2
    · rcases List.mem_append.mp hq with h | h
      · exact hS.2.2 q h
      · exact hA _ (hL q h)
  have hke : ∀ q : Nat, q < H.size → ¬ (q = w ∨ q = o ∨ q = a) → T'.heap[q]? = H[q]? := fun q h1 h2 => by
    rw [e1]
    exact hk2 q h1 (fun z => by rcases z with z | z | z | z; exact h2 (Or.inl z); exact h2 (Or.inr (Or.inl z)); exact h2 (Or.inr (Or.inr z)); omega)
  have hal : t.vm.Alike s.vm := by rw [← e2]; exact X'.warmed.alike.symm
  obtain ⟨t2, a1, b1⟩ := k sv2 T'.heap (locs ++ L) ⟨by rw [e1]; exact hAt2.moved hal, by rw [e1]; exact hW2.moved hal, hLi.2.2.1, hLi.2.2.2.1.kept (fun q h1 h2 => hke q h1 h2), hLi.2.2.2.2⟩ hS2 hke (by rw [e1]; exact hz2) T' rfl X'
  exact ⟨t2, st2 t2 a1, b1⟩
end VB8
section VC8
set_option maxHeartbeats 4000000 in
set_option maxRecDepth 100000 in
theorem c_L_text (l : Launch) (D : va_G) (cB cJ : ClassId) (o a : Nat) (c : Nat → Nat) (ac : Int32) (re : Int32) (kn : Int32) (z : Int) (hz : 0 ≤ z ∧ z ≤ 5) (w9 : Nat) (n9 : Int64) (s9 : Value) : zLV l yL_text 8 232 72 34864 D cB cJ o a w9 [.ref o, .int (iZ (z)), .ref w9] c [.int (ac), .int (re), .int (kn)] n9 s9 0 c [.int (ac), .int (re), .int (kn)] n9 := by
  refine zLV.intro (lo := 209) (nA := 3) zw_L_text (by decide) rfl rfl (by decide +kernel) rfl (Nat.le_of_ble_eq_true rfl) ?_
  intro p e s m below meth c0 ls C9 hr9 hk9 ht9 hLj9 hS9 hl9
  obtain ⟨hLi9, hK9, hV9⟩ := hLj9
  have hl9 : lv_has ls 4 [(0, .ref o), (1, .int (iZ (z))), (2, .ref w9)] := hl9
  refine lv_aload_n C9.1 C9.2.1 dL_text_0 rfl (lv_at hl9 2 rfl) ?_
  refine lv_aload_n C9.1 C9.2.1 dL_text_1 rfl (lv_at hl9 0 rfl) ?_
  refine lv_iload_n C9.1 C9.2.1 dL_text_2 rfl (lv_at hl9 1 rfl) ?_
  refine zgV_call (as := [.int (iZ (z))]) C9 hLi9.1 hK9 (hV9.nar (fun _ _ h => Or.inr h)) hS9 (fun q h => Or.inr h) (c_X3_text l D cB cJ o a c ac re kn z hz) ml_L_113 rfl (by decide) (by decide) hl9 (Nat.le_of_ble_eq_true rfl) rfl dL_text_3 (fun v9 H1 locs1 hv9 hAt1 hS1 hk1 hz1 => ?_)
  obtain ⟨q9, rfl⟩ := hv9
  refine zw_put C9 (n2 := n9) (sv2 := .ref q9) (hLi9.2.1.kept (hk1 w9 hLi9.2.1.lt (fun z => z.elim hLi9.2.2.1.1 hLi9.2.2.1.2))) hS1 (Or.inl rfl) 1 (by decide) rfl (Or.inr ⟨q9, rfl⟩) (ty := .object "java/lang/String") rfl rfl rfl hLi9.2.2.2.2.2.2.2.2 dL_text_6 (fun H2 locs2 hW2 hS2 hk2 hz2 => ?_)
  refine lv_goto (tgt := 15) C9.1 C9.2.1 dL_text_9 (by decide) ?_
  refine z_iconst C9 dL_text_15 ?_
  exact zl_retV C9 (hAt1.kept (hk2 o (Ne.symm hLi9.2.2.1.1)) (hk2 a (Ne.symm hLi9.2.2.1.2))) hW2 hS2 hr9 hk9 (Nat.le_of_ble_eq_true rfl) (Nat.le_of_ble_eq_true rfl) dL_text_16 rfl
set_option maxHeartbeats 4000000 in
set_option maxRecDepth 100000 in
theorem c_L_code (l : Launch) (D : va_G) (cB cJ : ClassId) (o a : Nat) (c : Nat → Nat) (ac : Int32) (re : Int32) (kn : Int32) (z : Int) (r : Int) (hz : 0 ≤ z ∧ z ≤ 5) (hr0 : 2 ≤ r ∧ r ≤ 36) (w9 : Nat) (n9 : Int64) (s9 : Value) : zLV l yL_code 8 239 70 33900 D cB cJ o a w9 [.ref o, .int (iZ (z)), .int (iZ (r)), .ref w9] c [.int (ac), .int (re), .int (kn)] n9 s9 0 c [.int (ac), .int (re), .int (kn)] n9 := by
  refine zLV.intro (lo := 215) (nA := 4) zw_L_code (by decide) rfl rfl (by decide +kernel) rfl (Nat.le_of_ble_eq_true rfl) ?_
  intro p e s m below meth c0 ls C9 hr9 hk9 ht9 hLj9 hS9 hl9
  obtain ⟨hLi9, hK9, hV9⟩ := hLj9
  have hl9 : lv_has ls 5 [(0, .ref o), (1, .int (iZ (z))), (2, .int (iZ (r))), (3, .ref w9)] := hl9
  refine lv_aload_n C9.1 C9.2.1 dL_code_0 rfl (lv_at hl9 3 rfl) ?_
  refine lv_aload_n C9.1 C9.2.1 dL_code_1 rfl (lv_at hl9 0 rfl) ?_
  refine lv_iload_n C9.1 C9.2.1 dL_code_2 rfl (lv_at hl9 1 rfl) ?_
  refine lv_iload_n C9.1 C9.2.1 dL_code_3 rfl (lv_at hl9 2 rfl) ?_
  refine zgV_call (as := [.int (iZ (z)), .int (iZ (r))]) C9 hLi9.1 hK9 (hV9.nar (fun _ _ h => Or.inr h)) hS9 (fun q h => Or.inr h) (c_X3_code l D cB cJ o a c ac re kn z r hz hr0) ml_L_121 rfl (by decide) (by decide) hl9 (Nat.le_of_ble_eq_true rfl) rfl dL_code_4 (fun v9 H1 locs1 hv9 hAt1 hS1 hk1 hz1 => ?_)
  obtain ⟨q9, rfl⟩ := hv9
  refine zw_put C9 (n2 := n9) (sv2 := .ref q9) (hLi9.2.1.kept (hk1 w9 hLi9.2.1.lt (fun z => z.elim hLi9.2.2.1.1 hLi9.2.2.1.2))) hS1 (Or.inl rfl) 1 (by decide) rfl (Or.inr ⟨q9, rfl⟩) (ty := .object "java/lang/String") rfl rfl rfl hLi9.2.2.2.2.2.2.2.2 dL_code_7 (fun H2 locs2 hW2 hS2 hk2 hz2 => ?_)
  refine lv_goto (tgt := 21) C9.1 C9.2.1 dL_code_10 (by decide) ?_
  refine z_iconst C9 dL_code_21 ?_
  exact zl_retV C9 (hAt1.kept (hk2 o (Ne.symm hLi9.2.2.1.1)) (hk2 a (Ne.symm hLi9.2.2.1.2))) hW2 hS2 hr9 hk9 (Nat.le_of_ble_eq_true rfl) (Nat.le_of_ble_eq_true rfl) dL_code_22 rfl
set_option maxHeartbeats 4000000 in
set_option maxRecDepth 100000 in
theorem c_L_factors_ok (l : Launch) (D : va_G) (cB cJ : ClassId) (o a : Nat) (c : Nat → Nat) (ac : Int32) (re : Int32) (kn : Int32) (z : Int) (hz : 0 ≤ z ∧ z ≤ 5) (hg : 0 ≤ tp (c z.toNat) ∧ tp (c z.toNat) ≤ 8) (w9 : Nat) (n9 : Int64) (s9 : Value) : zLV l yL_factors 8 237 24 10000 D cB cJ o a w9 [.ref o, .int (iZ (z)), .ref w9] c [.int (ac), .int (re), .int (kn)] n9 s9 0 c [.int (ac), .int (re), .int (kn)] n9 := by
  refine zLV.intro (lo := 214) (nA := 3) zw_L_factors (by decide) rfl rfl (by decide +kernel) rfl (Nat.le_of_ble_eq_true rfl) ?_
  intro p e s m below meth c0 ls C9 hr9 hk9 ht9 hLj9 hS9 hl9
  obtain ⟨hLi9, hK9, hV9⟩ := hLj9
  have hl9 : lv_has ls 4 [(0, .ref o), (1, .int (iZ (z))), (2, .ref w9)] := hl9
  refine lv_aload_n C9.1 C9.2.1 dL_factors_0 rfl (lv_at hl9 2 rfl) ?_
  refine lv_aload_n C9.1 C9.2.1 dL_factors_1 rfl (lv_at hl9 0 rfl) ?_
  refine lv_iload_n C9.1 C9.2.1 dL_factors_2 rfl (lv_at hl9 1 rfl) ?_
  refine zgV_call (as := [.int (iZ (z))]) C9 hLi9.1 hK9 (hV9.nar (fun _ _ h => Or.inr h)) hS9 (fun q h => Or.inr h) (c_X3_factors_ok l D cB cJ o a c ac re kn z hz hg) ml_L_148 rfl (by decide) (by decide) hl9 (Nat.le_of_ble_eq_true rfl) rfl dL_factors_3 (fun v9 H1 locs1 hv9 hAt1 hS1 hk1 hz1 => ?_)
  obtain ⟨q9, rfl⟩ := hv9
  refine zw_put C9 (n2 := n9) (sv2 := .ref q9) (hLi9.2.1.kept (hk1 w9 hLi9.2.1.lt (fun z => z.elim hLi9.2.2.1.1 hLi9.2.2.1.2))) hS1 (Or.inl rfl) 1 (by decide) rfl (Or.inr ⟨q9, rfl⟩) (ty := .object "java/lang/String") rfl rfl rfl hLi9.2.2.2.2.2.2.2.2 dL_factors_6 (fun H2 locs2 hW2 hS2 hk2 hz2 => ?_)
  refine lv_goto (tgt := 15) C9.1 C9.2.1 dL_factors_9 (by decide) ?_
  refine z_iconst C9 dL_factors_15 ?_
  exact zl_retV C9 (hAt1.kept (hk2 o (Ne.symm hLi9.2.2.1.1)) (hk2 a (Ne.symm hLi9.2.2.1.2))) hW2 hS2 hr9 hk9 (Nat.le_of_ble_eq_true rfl) (Nat.le_of_ble_eq_true rfl) dL_factors_16 rfl
set_option maxHeartbeats 4000000 in
set_option maxRecDepth 100000 in
theorem c_L_factors_no (l : Launch) (D : va_G) (cB cJ : ClassId) (o a : Nat) (c : Nat → Nat) (ac : Int32) (re : Int32) (kn : Int32) (z : Int) (hz : 0 ≤ z ∧ z ≤ 5) (hg : ¬ (0 ≤ tp (c z.toNat) ∧ tp (c z.toNat) ≤ 8)) (w9 : Nat) (n9 : Int64) (s9 : Value) : zLV l yL_factors 3 93 24 10000 D cB cJ o a w9 [.ref o, .int (iZ (z)), .ref w9] c [.int (ac), .int (re), .int (kn)] n9 s9 0 c [.int (ac), .int (aF re none), .int (kn)] n9 := by
  refine zLV.intro (lo := 70) (nA := 3) zw_L_factors (by decide) rfl rfl (by decide +kernel) rfl (Nat.le_of_ble_eq_true rfl) ?_
  intro p e s m below meth c0 ls C9 hr9 hk9 ht9 hLj9 hS9 hl9
  obtain ⟨hLi9, hK9, hV9⟩ := hLj9
  have hl9 : lv_has ls 4 [(0, .ref o), (1, .int (iZ (z))), (2, .ref w9)] := hl9
  refine lv_aload_n C9.1 C9.2.1 dL_factors_0 rfl (lv_at hl9 2 rfl) ?_
  refine lv_aload_n C9.1 C9.2.1 dL_factors_1 rfl (lv_at hl9 0 rfl) ?_
  refine lv_iload_n C9.1 C9.2.1 dL_factors_2 rfl (lv_at hl9 1 rfl) ?_
  refine zgV_call (as := [.int (iZ (z))]) C9 hLi9.1 hK9 (hV9.nar (fun _ _ h => Or.inr h)) hS9 (fun q h => Or.inr h) (c_X3_factors_no l D cB cJ o a c ac re kn z hz hg) ml_L_148 rfl (by decide) (by decide) hl9 (Nat.le_of_ble_eq_true rfl) rfl dL_factors_3 (fun v9 H1 locs1 hv9 hAt1 hS1 hk1 hz1 => ?_)
  obtain ⟨q9, rfl⟩ := hv9
  refine zw_put C9 (n2 := n9) (sv2 := .ref q9) (hLi9.2.1.kept (hk1 w9 hLi9.2.1.lt (fun z => z.elim hLi9.2.2.1.1 hLi9.2.2.1.2))) hS1 (Or.inl rfl) 1 (by decide) rfl (Or.inr ⟨q9, rfl⟩) (ty := .object "java/lang/String") rfl rfl rfl hLi9.2.2.2.2.2.2.2.2 dL_factors_6 (fun H2 locs2 hW2 hS2 hk2 hz2 => ?_)
  refine lv_goto (tgt := 15) C9.1 C9.2.1 dL_factors_9 (by decide) ?_
  refine z_iconst C9 dL_factors_15 ?_
  exact zl_retV C9 (hAt1.kept (hk2 o (Ne.symm hLi9.2.2.1.1)) (hk2 a (Ne.symm hLi9.2.2.1.2))) hW2 hS2 hr9 hk9 (Nat.le_of_ble_eq_true rfl) (Nat.le_of_ble_eq_true rfl) dL_factors_16 rfl
end VC8
/-! ===== the law's world: both objects and the notebook ===== -/
section XA
def zlA (s : State) : Nat → Prop := fun q => s.heap.size ≤ q
/-- what the law has at its start, that stays -/
def zLw (D : va_G) (cB : ClassId) (t N : Nat) (g : Nat → Int) (s : State) : Prop :=
  zE (zlA s) s s.heap ∧ zCt s ∧ zV (zlA s) s s.heap ∧ va_K D vwCl [(cB, .byte)] s ∧ (va_X t N (fun j => iZ (g j)) s s.heap ∧ t < s.heap.size) ∧ (∀ j, -2147483648 ≤ g j ∧ g j ≤ 2147483647) ∧ N ≤ 320
def zAd (o a u v w : Nat) (s : State) : Prop :=
  (w ≠ o ∧ w ≠ a) ∧ (u ≠ o ∧ u ≠ a ∧ u ≠ w) ∧ (v ≠ o ∧ v ≠ a ∧ v ≠ w) ∧ s.heap.size ≤ o ∧ s.heap.size ≤ a ∧ s.heap.size ≤ u ∧ s.heap.size ≤ v ∧ s.heap.size ≤ w
def zG (D : va_G) (cJ : ClassId) (o a u v w : Nat) (c : Nat → Nat) (fs : List Value) (cM : Nat → Nat) (fsM : List Value) (n : Int64) (sv : Value) (s : State) (H : Heap) (locs : List Loc) : Prop :=
  AtO D 2 cJ o a c fs s H ∧ AtO D 4 cJ u v cM fsM s H ∧ AtW D w n sv s H ∧ va_S (zlA s) s.heap H locs
end XA
section XB
variable {p : Program} {l : Launch} {e : Env} {R : Room} {s : State} {m : MethodId} {args : Array Value} {below : List Frame} {meth : Method} {c : Code} {H : Heap} {locs : List Loc} {cells slots : Nat} {Q : State → Prop}
variable {cc : ByteArray} {pc nL : Nat} {ls : Array Slot} {rest st : List Value} {own : String} {lv : List (Nat × Value)} {D : va_G} {cB cJ : ClassId} {t N : Nat} {g : Nat → Int} {o a u v w : Nat} {ce cM : Nat → Nat} {fs fsM : List Value} {n : Int64} {sv : Value}
theorem zG.li (Z : zLw D cB t N g s) (Y : zAd o a u v w s) (G : zG D cJ o a u v w ce fs cM fsM n sv s H locs) : zLi D cJ o a w ce fs n sv s H :=
  ⟨G.1, G.2.2.1, Y.1, (Z.1.kept G.2.2.2.2.1).narrow (fun q h => by rcases h with h | h | h; exact h ▸ Y.2.2.2.2.2.2.2; exact h ▸ Y.2.2.2.1; exact h ▸ Y.2.2.2.2.1), Z.2.1⟩
theorem zG.A (Y : zAd o a u v w s) (G : zG D cJ o a u v w ce fs cM fsM n sv s H locs) : ∀ q, zFw o a w H.size q → zlA s q :=
  fun q h => by rcases h with h | h | h | h; exact h ▸ Y.2.2.2.2.2.2.2; exact h ▸ Y.2.2.2.1; exact h ▸ Y.2.2.2.2.1; exact Nat.le_trans G.2.2.2.1 h
theorem zG.A2 (Y : zAd o a u v w s) (G : zG D cJ o a u v w ce fs cM fsM n sv s H locs) : ∀ q, zF u v H.size q → zlA s q :=
  fun q h => by rcases h with h | h | h; exact h ▸ Y.2.2.2.2.2.1; exact h ▸ Y.2.2.2.2.2.2.1; exact Nat.le_trans G.2.2.2.1 h
theorem zG.V {A : Nat → Prop} (Z : zLw D cB t N g s) (G : zG D cJ o a u v w ce fs cM fsM n sv s H locs) (hA : ∀ q, A q → zlA s q) : zV A s H := (Z.2.2.1.kept G.2.2.2.2.1).nar (fun q _ h => hA q h)
/-- a wrapper is called -/
theorem zd_W (C : CallFix p m c cc nL s args T0 own) (Z : zLw D cB t N g s) (Y : zAd o a u v w s) (G : zG D cJ o a u v w ce fs cM fsM n sv s H locs) {y : MethodName} {fr need mc ms idx : Nat} {as : List Value} {r : Int} {c2 : Nat → Nat} {fs2 : List Value} {n2 : Int64} {sv2 : Value} (hM : zL l y fr need mc ms D cJ o a w as ce fs n sv r c2 fs2 n2 sv2) (hG : Cond.methodLink own idx y ∈ lw_tbl)
    (hR : fr + 1 ≤ R.frames ∧ need ≤ R.locals) (hf : cells + mc ≤ R.cells ∧ slots + ms ≤ R.slots) (hl : lv_has ls nL lv) (hcat : (rest.map fun v => v.category).sum ≤ 8) (hst : st = as.reverse ++ rest) (d : decode cc pc = .ok (.invokestatic idx, 3))
    (k : ∀ H1 locs1, zG D cJ o a u v w c2 fs2 cM fsM n2 sv2 s H1 locs1 → W p l e R s m args below meth c H1 locs1 (cells + mc) (slots + ms) Q (F0 m (pc + 3) ls (.int (iZ r) :: rest))) : W p l e R s m args below meth c H locs cells slots Q (F0 m pc ls st) := by
  have hlt := G.2.1.lt
  exact zl_call C (G.li Z Y) G.2.2.2 (G.A Y) hM hG hR hf hl hcat hst d (fun H1 locs1 hLi hS hke _ => k H1 locs1 ⟨hLi.1, G.2.1.kept (hke u hlt.1 (fun z => by rcases z with z | z | z; exact Y.2.1.2.2 z; exact Y.2.1.1 z; exact Y.2.1.2.1 z)) (hke v hlt.2 (fun z => by rcases z with z | z | z; exact Y.2.2.1.2.2 z; exact Y.2.2.1.1 z; exact Y.2.2.1.2.1 z)), hLi.2.1, hS⟩)
theorem zd_WV (C : CallFix p m c cc nL s args T0 own) (Z : zLw D cB t N g s) (Y : zAd o a u v w s) (G : zG D cJ o a u v w ce fs cM fsM n sv s H locs) {y : MethodName} {fr need mc ms idx : Nat} {as : List Value} {r : Int} {c2 : Nat → Nat} {fs2 : List Value} {n2 : Int64} (hM : zLV l y fr need mc ms D cB cJ o a w as ce fs n sv r c2 fs2 n2) (hG : Cond.methodLink own idx y ∈ lw_tbl)
    (hR : fr + 1 ≤ R.frames ∧ need ≤ R.locals) (hf : cells + mc ≤ R.cells ∧ slots + ms ≤ R.slots) (hl : lv_has ls nL lv) (hcat : (rest.map fun v => v.category).sum ≤ 8) (hst : st = as.reverse ++ rest) (d : decode cc pc = .ok (.invokestatic idx, 3))
    (k : ∀ sv2 H1 locs1, zG D cJ o a u v w c2 fs2 cM fsM n2 sv2 s H1 locs1 → W p l e R s m args below meth c H1 locs1 (cells + mc) (slots + ms) Q (F0 m (pc + 3) ls (.int (iZ r) :: rest))) : W p l e R s m args below meth c H locs cells slots Q (F0 m pc ls st) := by
  have hlt := G.2.1.lt
  exact zlV_call C ⟨G.li Z Y, Z.2.2.2.1, G.V Z (fun q h => by rcases h with h | h | h; exact h ▸ Y.2.2.2.2.2.2.2; exact h ▸ Y.2.2.2.1; exact h ▸ Y.2.2.2.2.1)⟩ G.2.2.2 (G.A Y) hM hG hR hf hl hcat hst d (fun sv2 H1 locs1 hLi hS hke _ => k sv2 H1 locs1 ⟨hLi.1, G.2.1.kept (hke u hlt.1 (fun z => by rcases z with z | z | z; exact Y.2.1.2.2 z; exact Y.2.1.1 z; exact Y.2.1.2.1 z)) (hke v hlt.2 (fun z => by rcases z with z | z | z; exact Y.2.2.1.2.2 z; exact Y.2.2.1.1 z; exact Y.2.2.1.2.1 z)), hLi.2.1, hS⟩)
/-- a method of the model is called -/
theorem zd_M (C : CallFix p m c cc nL s args T0 own) (Y : zAd o a u v w s) (G : zG D cJ o a u v w ce fs cM fsM n sv s H locs) {y : MethodName} {fr need mc ms idx : Nat} {as : List Value} {rv : Option Value → Prop} {c2 : Nat → Nat} {fs2 : List Value} {T : u_T} {Nf : Nat} (hM : zA l y fr need mc ms D 4 cJ u v as cM fsM rv c2 fs2) (hG : Cond.methodLink own idx y ∈ lw_tbl) (hcl : vwCl[4]? = some (y.cls, T, Nf))
    (hR : fr + 1 ≤ R.frames ∧ need ≤ R.locals) (hf : cells + mc ≤ R.cells ∧ slots + ms ≤ R.slots) (hl : lv_has ls nL lv) (hcat : (rest.map fun v => v.category).sum ≤ 8) (hst : st = as.reverse ++ .ref u :: rest) (d : decode cc pc = .ok (.invokevirtual idx, 3))
    (k : ∀ x H1 locs1, rv x → zG D cJ o a u v w ce fs c2 fs2 n sv s H1 locs1 → W p l e R s m args below meth c H1 locs1 (cells + mc) (slots + ms) Q (F0 m (pc + 3) ls (x.toList ++ rest))) : W p l e R s m args below meth c H locs cells slots Q (F0 m pc ls st) := by
  have hlt := G.1.lt
  exact zg_call C G.2.1 G.2.2.2 (G.A2 Y) hM hG hcl hR hf hl hcat hst d (fun x H1 locs1 hx hAt hS hke _ => k x H1 locs1 hx ⟨G.1.kept (hke o hlt.1 (fun z => by rcases z with z | z; exact Y.2.1.1 z.symm; exact Y.2.2.1.1 z.symm)) (hke a hlt.2 (fun z => by rcases z with z | z; exact Y.2.1.2.1 z.symm; exact Y.2.2.1.2.1 z.symm)), hAt, G.2.2.1.kept (hke w G.2.2.1.lt (fun z => by rcases z with z | z; exact Y.2.1.2.2 z.symm; exact Y.2.2.1.2.2 z.symm)), hS⟩)
theorem zd_MV (C : CallFix p m c cc nL s args T0 own) (Z : zLw D cB t N g s) (Y : zAd o a u v w s) (G : zG D cJ o a u v w ce fs cM fsM n sv s H locs) {y : MethodName} {fr need mc ms idx : Nat} {as : List Value} {rv : Option Value → Prop} {c2 : Nat → Nat} {fs2 : List Value} {T : u_T} {Nf : Nat} (hM : zAV l y fr need mc ms D cB 4 cJ u v as cM fsM rv c2 fs2) (hG : Cond.methodLink own idx y ∈ lw_tbl) (hcl : vwCl[4]? = some (y.cls, T, Nf))
    (hR : fr + 1 ≤ R.frames ∧ need ≤ R.locals) (hf : cells + mc ≤ R.cells ∧ slots + ms ≤ R.slots) (hl : lv_has ls nL lv) (hcat : (rest.map fun v => v.category).sum ≤ 8) (hst : st = as.reverse ++ .ref u :: rest) (d : decode cc pc = .ok (.invokevirtual idx, 3))
    (k : ∀ x H1 locs1, rv x → zG D cJ o a u v w ce fs c2 fs2 n sv s H1 locs1 → W p l e R s m args below meth c H1 locs1 (cells + mc) (slots + ms) Q (F0 m (pc + 3) ls (x.toList ++ rest))) : W p l e R s m args below meth c H locs cells slots Q (F0 m pc ls st) := by
  have hlt := G.1.lt
  exact zgV_call C G.2.1 Z.2.2.2.1 (G.V Z (fun q h => by rcases h with h | h; exact h ▸ Y.2.2.2.2.2.1; exact h ▸ Y.2.2.2.2.2.2.1)) G.2.2.2 (G.A2 Y) hM hG hcl hR hf hl hcat hst d (fun x H1 locs1 hx hAt hS hke _ => k x H1 locs1 hx ⟨G.1.kept (hke o hlt.1 (fun z => by rcases z with z | z; exact Y.2.1.1 z.symm; exact Y.2.2.1.1 z.symm)) (hke a hlt.2 (fun z => by rcases z with z | z; exact Y.2.1.2.1 z.symm; exact Y.2.2.1.2.1 z.symm)), hAt, G.2.2.1.kept (hke w G.2.2.1.lt (fun z => by rcases z with z | z; exact Y.2.1.2.2 z.symm; exact Y.2.2.1.2.2 z.symm)), hS⟩)
/-- a method of the class is called directly -/
theorem zd_X (C : CallFix p m c cc nL s args T0 own) (Y : zAd o a u v w s) (G : zG D cJ o a u v w ce fs cM fsM n sv s H locs) {y : MethodName} {fr need mc ms idx : Nat} {as : List Value} {rv : Option Value → Prop} {c2 : Nat → Nat} {fs2 : List Value} {T : u_T} {Nf : Nat} (hM : zA l y fr need mc ms D 2 cJ o a as ce fs rv c2 fs2) (hG : Cond.methodLink own idx y ∈ lw_tbl) (hcl : vwCl[2]? = some (y.cls, T, Nf))
    (hR : fr + 1 ≤ R.frames ∧ need ≤ R.locals) (hf : cells + mc ≤ R.cells ∧ slots + ms ≤ R.slots) (hl : lv_has ls nL lv) (hcat : (rest.map fun v => v.category).sum ≤ 8) (hst : st = as.reverse ++ .ref o :: rest) (d : decode cc pc = .ok (.invokevirtual idx, 3))
    (k : ∀ x H1 locs1, rv x → zG D cJ o a u v w c2 fs2 cM fsM n sv s H1 locs1 → W p l e R s m args below meth c H1 locs1 (cells + mc) (slots + ms) Q (F0 m (pc + 3) ls (x.toList ++ rest))) : W p l e R s m args below meth c H locs cells slots Q (F0 m pc ls st) := by
  have hlt := G.2.1.lt
  exact zg_call C G.1 G.2.2.2 (fun q h => by rcases h with h | h | h; exact h ▸ Y.2.2.2.1; exact h ▸ Y.2.2.2.2.1; exact Nat.le_trans G.2.2.2.1 h) hM hG hcl hR hf hl hcat hst d (fun x H1 locs1 hx hAt hS hke _ => k x H1 locs1 hx ⟨hAt, G.2.1.kept (hke u hlt.1 (fun z => by rcases z with z | z; exact Y.2.1.1 z; exact Y.2.1.2.1 z)) (hke v hlt.2 (fun z => by rcases z with z | z; exact Y.2.2.1.1 z; exact Y.2.2.1.2.1 z)), G.2.2.1.kept (hke w G.2.2.1.lt (fun z => by rcases z with z | z; exact Y.1.1 z; exact Y.1.2 z)), hS⟩)
/-- a number of the script -/
theorem zd_ld (C : CallFix p m c cc nL s args T0 own) (Z : zLw D cB t N g s) (G : zG D cJ o a u v w ce fs cM fsM n sv s H locs) {z : Int} (x : Int) (j : Nat) (hx : g j = x) (hz : z = (j : Int)) (hj : j < N) (d : decode cc pc = .ok (.iaload, 1))
    (k : W p l e R s m args below meth c H locs cells slots Q (F0 m (pc + 1) ls (.int (iZ x) :: rest))) : W p l e R s m args below meth c H locs cells slots Q (F0 m pc ls (.int (iZ z) :: .ref t :: rest)) := by
  subst hz
  subst hx
  have hN := Z.2.2.2.2.2.2
  refine va_sld C.1 C.2.1 Z.2.2.2.2.1.1 Z.2.2.2.2.1.2 (fun h => absurd (show s.heap.size ≤ t from h) (Nat.not_le.mpr Z.2.2.2.2.1.2)) G.2.2.2 (iZ_in (by omega) (by omega)) d ?_
  have e1 : (iZ (j : Int)).toNatClampNeg = j := by rw [iZ_clamp (by omega)]; rfl
  rw [e1]
  exact k
theorem zd_len (C : CallFix p m c cc nL s args T0 own) (Z : zLw D cB t N g s) (G : zG D cJ o a u v w ce fs cM fsM n sv s H locs) (d : decode cc pc = .ok (.arraylength, 1))
    (k : W p l e R s m args below meth c H locs cells slots Q (F0 m (pc + 1) ls (.int (iZ (N : Int)) :: rest))) : W p l e R s m args below meth c H locs cells slots Q (F0 m pc ls (.ref t :: rest)) := by
  refine va_slen C.1 C.2.1 Z.2.2.2.2.1.1 Z.2.2.2.2.1.2 (fun h => absurd (show s.heap.size ≤ t from h) (Nat.not_le.mpr Z.2.2.2.2.1.2)) G.2.2.2 d ?_
  rw [show Int32.ofNat N = iZ (N : Int) from (iZ_nI N).symm]
  exact k
/-- a number that isn't 0, as a truth value -/
theorem zd_nz (C : CallFix p m c cc nL s args T0 own) {z : Int} (hz : -2147483648 ≤ z ∧ z ≤ 2147483647) (d1 : decode cc pc = .ok (.ifCond .eq 7, 3)) (d2 : decode cc (pc + 3) = .ok (.iconst 1, 1)) (d3 : decode cc (pc + 4) = .ok (.goto 4, 3)) (d4 : decode cc (pc + 7) = .ok (.iconst 0, 1))
    (k : W p l e R s m args below meth c H locs cells slots Q (F0 m (pc + 8) ls (.int (iZ (zB (decide (z ≠ 0)))) :: rest))) : W p l e R s m args below meth c H locs cells slots Q (F0 m pc ls (.int (iZ z) :: rest)) := by
  by_cases h : z = 0
  · rw [decide_eq_false (not_not_intro h)] at k
    exact z_if_eq (tgt := pc + 7) C hz d1 (by omega) (fun _ => z_iconst C d4 k) (fun g => absurd h g)
  · rw [decide_eq_true h] at k
    exact z_if_eq (tgt := pc + 7) C hz d1 (by omega) (fun g => absurd g h) (fun _ => z_iconst C d2 (lv_goto (tgt := pc + 8) C.1 C.2.1 d3 (by omega) k))
/-- the case's number: six bits of it -/
theorem zd_63 (C : CallFix p m c cc nL s args T0 own) {x : Int} (d : decode cc pc = .ok (.iand, 1)) (k : ∀ z : Int, 0 ≤ z ∧ z ≤ 63 → W p l e R s m args below meth c H locs cells slots Q (F0 m (pc + 1) ls (.int (iZ z) :: rest))) : W p l e R s m args below meth c H locs cells slots Q (F0 m pc ls (.int (iZ 63) :: .int (iZ x) :: rest)) := by
  refine lv_iand C.1 C.2.1 d ?_
  obtain ⟨j, h1, h2⟩ := pk_andE (iZ x) (m := iZ 63) 6 (by decide)
  rw [h2, ← iZ_nI]
  exact k j ⟨by omega, by omega⟩
/-- the notebook's number is read -/
theorem zd_getn (C : CallFix p m c cc nL s args T0 RL) (Z : zLw D cB t N g s) (G : zG D cJ o a u v w ce fs cM fsM n sv s H locs) (d : decode cc pc = .ok (.getfield 13, 3))
    (k : W p l e R s m args below meth c H locs cells slots Q (F0 m (pc + 3) ls (.long n :: rest))) : W p l e R s m args below meth c H locs cells slots Q (F0 m pc ls (.ref w :: rest)) :=
  va_getN (D := D) (cl := vwCl) (ws := wOut w n sv) (tys := []) (ref := "CarryfreeLaw$Out") (host := RL) C.1 C.2.1 C.2.2.2.2 inX4 C.2.2.2.1 G.2.2.1.2.1 G.2.2.1.1 0 rfl (ci := 3) rfl 0 (by decide) (Z.2.1.2.2.2.1.use rfl) (fun x h => h) rfl d k
/-- two longs that are one -/
theorem zd_lceq (C : CallFix p m c cc nL s args T0 own) {y z : Int64} {off : Int} {tgt : Nat} (h : z = y) (d1 : decode cc pc = .ok (.lcmp, 1)) (d : decode cc (pc + 1) = .ok (.ifCond .eq off, 3)) (ht : ((pc + 1 : Nat) : Int) + off = (tgt : Int)) (k : W p l e R s m args below meth c H locs cells slots Q (F0 m tgt ls rest)) : W p l e R s m args below meth c H locs cells slots Q (F0 m pc ls (.long y :: .long z :: rest)) := by
  subst h
  refine W.lcmp C.1 C.2.1 d1 ?_
  refine lv_if_eq C.1 C.2.1 d ht (fun _ => k) (fun g => absurd ?_ g)
  unfold lg_cmp
  rw [if_neg (Int64.lt_irrefl), if_pos rfl]
end XB
