/-! ===== java.util.Arrays over bytes: copyOf, copyOfRange ===== -/
section AA
set_option maxHeartbeats 4000000 in
theorem c_J7_copyOf_9075b (l : Launch) (D : va_G) (cB : ClassId) (k q : Nat) (h1 : k < q) (h2 : q ≤ 520) (_ : True) : zRM l yJ7_copyOf_9075b 1 62 1 520 D cB (fun v => [.ref v, .int (iZ (q : Int))]) 2 k q := by
  refine zRM.intro (lo := 40) (nA := 2) (own := RJ7) zs_J7_copyOf_9075b (by decide) rfl rfl (by decide +kernel) (fun _ => rfl) (fun _ => Nat.le_of_ble_eq_true rfl) ?_
  intro v p e s m below meth c ls C hr hk hR V hl
  have hl : lv_has ls 3 [(0, .ref v), (1, .int (iZ (q : Int)))] := hl
  have hv := hR.lt
  refine lv_iload_n C.1 C.2.1 dJ7_copyOf_9075b_0 rfl (lv_at hl 1 rfl) ?_
  refine lv_aload_n C.1 C.2.1 dJ7_copyOf_9075b_1 rfl (lv_at hl 0 rfl) ?_
  refine zr_alen C hR dJ7_copyOf_9075b_2 ?_
  refine z_icmp_ne (tgt := 14) C (by omega) (by omega) dJ7_copyOf_9075b_3 (by decide) (fun h3 => ?_) (fun h3 => absurd h3 (by omega))
  refine lv_iload_n C.1 C.2.1 dJ7_copyOf_9075b_14 rfl (lv_at hl 1 rfl) ?_
  refine zr_newb (A := fun z => s.heap.size ≤ z) C hR.K va_S.rf q rfl (by omega) (Nat.le_of_ble_eq_true rfl) (by show 0 + q ≤ 520; omega) dJ7_copyOf_9075b_15 (fun w H1 hw hW S1 ho hz => ?_)
  refine lv_astore_n (lv' := [(2, .ref w), (0, .ref v), (1, .int (iZ (q : Int)))]) C.1 C.2.1 dJ7_copyOf_9075b_17 rfl hl (by decide) rfl (fun ls hl => ?_)
  refine lv_aload_n C.1 C.2.1 dJ7_copyOf_9075b_18 rfl (lv_at hl 1 rfl) ?_
  refine z_iconst C dJ7_copyOf_9075b_19 ?_
  refine lv_aload_n C.1 C.2.1 dJ7_copyOf_9075b_20 rfl (lv_at hl 0 rfl) ?_
  refine z_iconst C dJ7_copyOf_9075b_21 ?_
  refine lv_aload_n C.1 C.2.1 dJ7_copyOf_9075b_22 rfl (lv_at hl 1 rfl) ?_
  refine zr_alen C (hR.kept (ho v hv)) dJ7_copyOf_9075b_23 ?_
  refine lv_iload_n C.1 C.2.1 dJ7_copyOf_9075b_24 rfl (lv_at hl 2 rfl) ?_
  refine z_mnI C (by omega) (by omega) my_J7_304 hl ⟨Nat.le_of_ble_eq_true rfl, Nat.le_of_ble_eq_true rfl⟩ ⟨Nat.le_of_ble_eq_true rfl, by show 0 + q ≤ 520; omega⟩ (Nat.le_of_ble_eq_true rfl) dJ7_copyOf_9075b_25 ?_
  have hm := mni_rng (k : Int) (q : Int)
  refine zr_copy (A := fun z => s.heap.size ≤ z) C hR (by omega) hW S1 hw k rfl rfl (by omega) (Nat.le_refl _) (by omega) (by omega) (by omega) hl my_J7_150 ⟨Nat.le_of_ble_eq_true rfl, Nat.le_of_ble_eq_true rfl⟩ (Nat.le_of_ble_eq_true rfl) dJ7_copyOf_9075b_28 (fun H2 locs2 hW2 S2 hq => ?_)
  refine lv_aload_n C.1 C.2.1 dJ7_copyOf_9075b_31 rfl (lv_at hl 0 rfl) ?_
  refine W.widen (k := 1) (n := 520) (Nat.le_of_ble_eq_true rfl) (by omega) ?_
  exact W.aret C.1 C.2.1 hr (Or.inr ⟨_, rfl⟩) (Or.inr ⟨w, rfl⟩) (fun t ht hW9 => ⟨w, rfl, hw, by rw [ht]; exact hW2.moved hW9.alike, S2.F ht⟩) S2.2.2 dJ7_copyOf_9075b_32 hk
set_option maxHeartbeats 4000000 in
theorem c_J7_copyOfRangeByte_39247 (l : Launch) (D : va_G) (cB : ClassId) (k q : Nat) (h1 : q ≤ k) (h2 : k ≤ 520) : zRM l yJ7_copyOfRangeByte_39247 1 64 1 520 D cB (fun v => [.ref v, .int (iZ 0), .int (iZ (q : Int))]) 3 k q := by
  refine zRM.intro (lo := 40) (nA := 3) (own := RJ7) zs_J7_copyOfRangeByte_39247 (by decide) rfl rfl (by decide +kernel) (fun _ => rfl) (fun _ => Nat.le_of_ble_eq_true rfl) ?_
  intro v p e s m below meth c ls C hr hk hR V hl
  have hl : lv_has ls 5 [(0, .ref v), (1, .int (iZ 0)), (2, .int (iZ (q : Int)))] := hl
  have hv := hR.lt
  refine lv_iload_n C.1 C.2.1 dJ7_copyOfRangeByte_39247_0 rfl (lv_at hl 1 rfl) ?_
  refine lv_iload_n C.1 C.2.1 dJ7_copyOfRangeByte_39247_1 rfl (lv_at hl 2 rfl) ?_
  refine z_callv C (c_J7_checkLength_df160 l 0 (q : Int) (by omega)) ml_J7_343 ⟨by decide, by decide⟩ ⟨Nat.le_of_ble_eq_true rfl, Nat.le_of_ble_eq_true rfl⟩ hl (Nat.le_of_ble_eq_true rfl) rfl dJ7_copyOfRangeByte_39247_2 ?_
  refine lv_iload_n C.1 C.2.1 dJ7_copyOfRangeByte_39247_5 rfl (lv_at hl 2 rfl) ?_
  refine lv_iload_n C.1 C.2.1 dJ7_copyOfRangeByte_39247_6 rfl (lv_at hl 1 rfl) ?_
  refine z_isub C dJ7_copyOfRangeByte_39247_7 ?_
  refine lv_istore_n (lv' := [(3, .int (iZ ((q : Int) - 0))), (0, .ref v), (1, .int (iZ 0)), (2, .int (iZ (q : Int)))]) C.1 C.2.1 dJ7_copyOfRangeByte_39247_8 rfl hl (by decide) rfl (fun ls hl => ?_)
  refine lv_iload_n C.1 C.2.1 dJ7_copyOfRangeByte_39247_9 rfl (lv_at hl 0 rfl) ?_
  refine zr_newb (A := fun z => s.heap.size ≤ z) C hR.K va_S.rf q (by omega) (by omega) (Nat.le_of_ble_eq_true rfl) (by show 0 + q ≤ 520; omega) dJ7_copyOfRangeByte_39247_10 (fun w H1 hw hW S1 ho hz => ?_)
  refine lv_astore (lv' := [(4, .ref w), (3, .int (iZ ((q : Int) - 0))), (0, .ref v), (1, .int (iZ 0)), (2, .int (iZ (q : Int)))]) C.1 C.2.1 dJ7_copyOfRangeByte_39247_12 hl (by decide) rfl (fun ls hl => ?_)
  refine lv_aload_n C.1 C.2.1 dJ7_copyOfRangeByte_39247_14 rfl (lv_at hl 2 rfl) ?_
  refine lv_iload_n C.1 C.2.1 dJ7_copyOfRangeByte_39247_15 rfl (lv_at hl 3 rfl) ?_
  refine lv_aload C.1 C.2.1 dJ7_copyOfRangeByte_39247_16 (lv_at hl 0 rfl) ?_
  refine z_iconst C dJ7_copyOfRangeByte_39247_18 ?_
  refine lv_aload_n C.1 C.2.1 dJ7_copyOfRangeByte_39247_19 rfl (lv_at hl 2 rfl) ?_
  refine zr_alen C (hR.kept (ho v hv)) dJ7_copyOfRangeByte_39247_20 ?_
  refine lv_iload_n C.1 C.2.1 dJ7_copyOfRangeByte_39247_21 rfl (lv_at hl 3 rfl) ?_
  refine z_isub C dJ7_copyOfRangeByte_39247_22 ?_
  refine lv_iload_n C.1 C.2.1 dJ7_copyOfRangeByte_39247_23 rfl (lv_at hl 1 rfl) ?_
  refine z_mnI C (by omega) (by omega) my_J7_304 hl ⟨Nat.le_of_ble_eq_true rfl, Nat.le_of_ble_eq_true rfl⟩ ⟨Nat.le_of_ble_eq_true rfl, by show 0 + q ≤ 520; omega⟩ (Nat.le_of_ble_eq_true rfl) dJ7_copyOfRangeByte_39247_24 ?_
  have hm := mni_rng ((k : Int) - 0) ((q : Int) - 0)
  refine zr_copy (A := fun z => s.heap.size ≤ z) C hR (by omega) hW S1 hw q rfl rfl (by omega) h1 (Nat.le_refl _) (by omega) (by omega) hl my_J7_150 ⟨Nat.le_of_ble_eq_true rfl, Nat.le_of_ble_eq_true rfl⟩ (Nat.le_of_ble_eq_true rfl) dJ7_copyOfRangeByte_39247_27 (fun H2 locs2 hW2 S2 hq => ?_)
  refine lv_aload C.1 C.2.1 dJ7_copyOfRangeByte_39247_30 (lv_at hl 0 rfl) ?_
  refine W.widen (k := 1) (n := 520) (Nat.le_of_ble_eq_true rfl) (by omega) ?_
  exact W.aret C.1 C.2.1 hr (Or.inr ⟨_, rfl⟩) (Or.inr ⟨w, rfl⟩) (fun t ht hW9 => ⟨w, rfl, hw, by rw [ht]; exact hW2.moved hW9.alike, S2.F ht⟩) S2.2.2 dJ7_copyOfRangeByte_39247_32 hk
set_option maxHeartbeats 4000000 in
theorem c_J7_copyOfRange_39247 (l : Launch) (D : va_G) (cB : ClassId) (k q : Nat) (h1 : q ≤ k) (h2 : k ≤ 520) : zRM l yJ7_copyOfRange_39247 2 86 1 520 D cB (fun v => [.ref v, .int (iZ 0), .int (iZ (q : Int))]) 3 k q := by
  refine zRM.intro (lo := 64) (nA := 3) (own := RJ7) zs_J7_copyOfRange_39247 (by decide) rfl rfl (by decide +kernel) (fun _ => rfl) (fun _ => Nat.le_of_ble_eq_true rfl) ?_
  intro v p e s m below meth c ls C hr hk hR V hl
  have hl : lv_has ls 3 [(0, .ref v), (1, .int (iZ 0)), (2, .int (iZ (q : Int)))] := hl
  have hv := hR.lt
  refine lv_iload_n C.1 C.2.1 dJ7_copyOfRange_39247_0 rfl (lv_at hl 1 rfl) ?_
  refine z_if_ne (tgt := 10) C (by omega) dJ7_copyOfRange_39247_1 (by decide) (fun h => absurd rfl h) (fun _ => ?_)
  refine lv_iload_n C.1 C.2.1 dJ7_copyOfRange_39247_4 rfl (lv_at hl 2 rfl) ?_
  refine lv_aload_n C.1 C.2.1 dJ7_copyOfRange_39247_5 rfl (lv_at hl 0 rfl) ?_
  refine zr_alen C hR dJ7_copyOfRange_39247_6 ?_
  refine z_icmp_eq (tgt := 17) C (by omega) (by omega) dJ7_copyOfRange_39247_7 (by decide) (fun h => ?_) (fun h => ?_)
  · refine lv_aload_n C.1 C.2.1 dJ7_copyOfRange_39247_17 rfl (lv_at hl 0 rfl) ?_
    obtain ⟨f, f1, f2, f3⟩ := hR
    have hB : s.vm.findClass "[B" = some cB := va_nm_byte (f3.2 0 _ rfl).2
    refine va_clone (D := D) (cl := vwCl) (H0 := s.heap) (ws := [(v, .inl (cB, k, .inl f))]) (tys := [(cB, .byte)]) (A := fun z => z = v ∨ s.heap.size ≤ z) (ad := "[B") (ty := .byte) C.1 C.2.1 (C.2.2.1.trans hl.1.symm) C.2.2.2.1 (C.2.2.2.2 _ (T0_of my_J7_310 rfl)) (C.2.2.2.2 _ (T0_of sm__B_clone rfl)) (C.2.2.2.2 _ (T0_of nv_java_lang_Object_clone rfl)) (C.2.2.2.2 _ (T0_of im_java_lang_Object_clone rfl)) (C.2.2.2.2 _ (T0_of sl_B_clone rfl)) V.2.2.2.2.2.2.1 f3 f2 (wD1 (Or.inl rfl)) va_S.rf (fun q hq => Or.inr hq) 0 0 rfl rfl hB (va_fit (fun i _ => f1 i)) (Nat.le_of_ble_eq_true rfl) (Nat.le_of_ble_eq_true rfl) (Nat.le_of_ble_eq_true rfl) (by show 0 + k ≤ 520; omega) dJ7_copyOfRange_39247_18 (fun w H1 hK1 hP1 hD1 hS1 => ?_)
    have hw2 : s.heap.size ≤ w := by
      have h3 : w ≠ v := fun h4 => absurd (hD1.1 1 0 _ _ rfl rfl h4) (by decide)
      exact (hD1.2 1 _ rfl).elim (fun h4 => absurd h4 h3) id
    have hS2 : va_S (fun z => s.heap.size ≤ z) s.heap H1 [] := by
      refine ⟨hS1.1, fun x g1 g2 => ?_, fun x hx => by cases hx⟩
      by_cases hx : x = v
      · subst hx
        exact (show H1[x]? = some _ from hP1 0 _ rfl).trans (show s.heap[x]? = some _ from f2 0 _ rfl).symm
      · exact hS1.2.1 x g1 (fun z => z.elim hx g2)
    refine va_castA (D := D) (cl := vwCl) (ws := [(v, .inl (cB, k, .inl f)), (w, .inl (cB, k, .inl f))]) C.1 C.2.1 C.2.2.2.1 (C.2.2.2.2 _ (T0_of cl_J7_311 rfl)) hP1 1 rfl hB dJ7_copyOfRange_39247_21 ?_
    refine W.widen (k := 1) (n := 520) (Nat.le_of_ble_eq_true rfl) (by show 0 + k ≤ 520; omega) ?_
    obtain rfl : q = k := by omega
    exact W.aret C.1 C.2.1 hr (Or.inr ⟨_, rfl⟩) (Or.inr ⟨w, rfl⟩) (fun t ht hW9 => ⟨w, rfl, hw2, by rw [ht]; exact (show AtR D cB w q s H1 from ⟨f, f1, hP1.sub [1] rfl, f3⟩).moved hW9.alike, hS2.F ht⟩) hS2.2.2 dJ7_copyOfRange_39247_24 hk
  · refine lv_aload_n C.1 C.2.1 dJ7_copyOfRange_39247_10 rfl (lv_at hl 0 rfl) ?_
    refine lv_iload_n C.1 C.2.1 dJ7_copyOfRange_39247_11 rfl (lv_at hl 1 rfl) ?_
    refine lv_iload_n C.1 C.2.1 dJ7_copyOfRange_39247_12 rfl (lv_at hl 2 rfl) ?_
    refine zr_callN (A := fun z => s.heap.size ≤ z) C hR V va_S.rf (fun q hq => hq) (c_J7_copyOfRangeByte_39247 l D cB k q h1 h2) ml_J7_339 ⟨Nat.le_of_ble_eq_true rfl, Nat.le_of_ble_eq_true rfl⟩ ⟨Nat.le_of_ble_eq_true rfl, Nat.le_of_ble_eq_true rfl⟩ hl (Nat.le_of_ble_eq_true rfl) rfl dJ7_copyOfRange_39247_13 (fun w H1 locs1 hw hW S1 hq hz => ?_)
    refine W.widen (k := 1) (n := 520) (Nat.le_of_ble_eq_true rfl) (Nat.le_of_ble_eq_true rfl) ?_
    exact W.aret C.1 C.2.1 hr (Or.inr ⟨_, rfl⟩) (Or.inr ⟨w, rfl⟩) (fun t ht hW9 => ⟨w, rfl, hw, by rw [ht]; exact hW.moved hW9.alike, S1.F ht⟩) S1.2.2 dJ7_copyOfRange_39247_16 hk
end AA
