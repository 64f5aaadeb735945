/-! ===== the three constructors ===== -/
section KA
variable {p : Program} {l : Launch} {e : Env} {R : Room} {s : State} {m : MethodId} {args : Array Value} {below : List Frame} {meth : Method} {c : Code} {H : Heap} {locs : List Loc} {cells slots : Nat} {Q : State → Prop}
variable {cc : ByteArray} {pc nL : Nat} {ls : Array Slot} {rest st : List Value} {own : String} {lv : List (Nat × Value)} {D : va_G} {cJ : ClassId} {A : Nat → Prop} {b : Nat}
theorem zr_newl (C : CallFix p m c cc nL s args T0 own) (hK : va_K D vwCl [(cJ, .long)] s) (hS : va_S A s.heap H locs) (hc : cells + 1 ≤ R.cells) (hs : slots + 6 ≤ R.slots) (d : decode cc pc = .ok (.newarray .long, 2))
    (kk : ∀ q H1, H.size ≤ q → va_P D vwCl [(q, .inl (cJ, 6, .inr (.inl (fun _ => lN 0))))] H1 → va_S A s.heap H1 locs → (∀ x : Nat, x < H.size → H1[x]? = H[x]?) → H.size ≤ H1.size → W p l e R s m args below meth c H1 locs (cells + 1) (slots + 6) Q (F0 m (pc + 2) ls (.ref q :: rest))) : W p l e R s m args below meth c H locs cells slots Q (F0 m pc ls (.int (iZ 6) :: rest)) := by
  refine va_newaK C.1 C.2.1 (atype := .long) (C.2.2.2.2 _ (T0_of ac_long rfl)) (g := F0 m pc ls (.int (iZ 6) :: rest)) rfl d rfl (N := 6) (by decide) (by decide) (by decide) hc hs rfl fun H1 cA e1 z1 o1 hAr hNm => ?_
  have hB : s.vm.findClass ("[" ++ (newarray.typeOf .long).toString) = some cJ := (hK.2 0 _ rfl).2
  have e9 : cA = cJ := Option.some.inj (hNm.symm.trans hB)
  subst e9
  refine kk H.size H1 (Nat.le_refl _) (wP1 ?_) ⟨Nat.le_trans hS.1 (by omega), fun x g1 g2 => (o1 x (Nat.lt_of_lt_of_le g1 hS.1)).trans (hS.2.1 x g1 g2), hS.2.2⟩ o1 (by omega)
  show H1[H.size]? = some (vp_cell _ _)
  exact e1
/-- a constructor of a nest mate -/
theorem zn_callN (C : CallFix p m c cc nL s args T0 own) {P : Nat → State → Heap → Prop} {Q2 : Nat → Nat → State → Heap → Prop} {F : Nat → Nat → Nat → Prop} (hP : P b s H) (hS : va_S A s.heap H locs) (hA : ∀ q, F b H.size q → A q) {y : MethodName} {host : String} {fr need mc ms idx : Nat} {as : List Value} (hM : zNM l y fr need mc ms as P Q2 F) (hG : va_Nw (Cond.methodLinkNest own idx y host) s)
    (hR : fr + 1 ≤ R.frames ∧ need ≤ R.locals) (hf : cells + mc ≤ R.cells ∧ slots + ms ≤ R.slots) (hl : lv_has ls nL lv) (hcat : (rest.map fun v => v.category).sum ≤ 8) (hst : st = as.reverse ++ .ref b :: rest) (d : decode cc pc = .ok (.invokespecial idx, 3))
    (kk : ∀ H1 locs1, Q2 b H.size s H1 → va_S A s.heap H1 locs1 → (∀ q : Nat, q < H.size → ¬ F b H.size q → H1[q]? = H[q]?) → H.size ≤ H1.size → W p l e R s m args below meth c H1 locs1 (cells + mc) (slots + ms) Q (F0 m (pc + 3) ls rest)) : W p l e R s m args below meth c H locs cells slots Q (F0 m pc ls st) := by
  obtain ⟨bytes, maxL, lo, hz, hn, hd, hni, hPm, hQm, hM⟩ := hM
  have hM := hM b H.size
  have cw := va_cnB (R := R) (s := s) (args := args) (own := own) (host := host) (index := idx) (y := y) (bytes := bytes) (maxL := maxL) (ret := none) (ws := Cond.code y bytes maxL none :: T0) (ws' := T0) (rm := { frames := fr, cells := mc, slots := ms, locals := lo }) (mc := mc) (ms := ms) as.length C.2.2.2.2 (zgB hz.2.2) rfl rfl rfl hG (C.2.2.2.2 _ (T0_of hz.2.1 rfl)) hd ⟨hR.1, by rw [hn] at hR; exact hR.2⟩
  have hr := va_runIN (p := p) (l := l) (e := e) (below := below) (meth := meth) (c := c) (H := H) (locs := locs) (cells := cells) (slots := slots) (g := F0 m pc ls st) (rest := rest) (b := b) (As := as) C hM ⟨cw, hni, C.2.2.2.2 _ (T0_of hz.1 rfl)⟩ ⟨fun A U g mk q => ⟨q.1, q.2.1, hPm b U (U.calling g mk A) U.heap (State.WarmedH.refl U) q.2.2⟩, fun U hU hW => ⟨rfl, by rw [hU], by rw [hU]; exact hPm b s U H hW hP⟩⟩ rfl rfl hl.1 hst (lv_room hcat) d hf
  intro T9 hT X
  obtain ⟨v9, st₀, t, T', L, h0, X', hL, e1, e2, ⟨hv, hQ, hF⟩, st2⟩ := hr T9 hT X
  cases hv
  obtain ⟨hz2, hk2⟩ := hF
  rw [h0] at hz2 hk2
  have hss : s.heap.size ≤ H.size := hS.1
  have hS2 : va_S A s.heap T'.heap (locs ++ L) := by
    refine ⟨Nat.le_trans hss (by rw [e1]; exact hz2), fun q h1 h2 => ?_, fun q hq => ?_⟩
    · rw [e1, hk2 q (Nat.lt_of_lt_of_le h1 hss) (fun z => h2 (hA q z))]
      exact hS.2.1 q h1 h2
    · rcases List.mem_append.mp hq with h | h
      · exact hS.2.2 q h
      · exact hA _ (hL q h)
  obtain ⟨t2, a1, b1⟩ := kk T'.heap (locs ++ L) (by rw [e1]; exact hQm b H.size t s t.heap (by rw [← e2]; exact X'.warmed.alike.symm) hQ) hS2 (fun q h1 h2 => by rw [e1]; exact hk2 q h1 h2) (by rw [e1]; exact hz2) T' rfl X'
  exact ⟨t2, st2 t2 a1, b1⟩
end KA
section KB
def zI6 (D : va_G) (cJ : ClassId) (ci : Nat) (fs : List Value) (b : Nat) (U : State) (H : Heap) : Prop := va_P D vwCl [(b, .inr (ci, fs))] H ∧ va_K D vwCl [(cJ, .long)] U
theorem zI6.warm {D : va_G} {cJ : ClassId} {ci : Nat} {fs : List Value} (b : Nat) (s U : State) (H : Heap) (hW : s.WarmedH U.vm) (h : zI6 D cJ ci fs b s H) : zI6 D cJ ci fs b U H := ⟨h.1, va_K.moved hW.alike h.2⟩
def zQ6 (D : va_G) (cJ : ClassId) (ci : Nat) (fs : List Value) (b sz : Nat) (U : State) (H : Heap) : Prop := ∃ a, AtO D ci cJ b a (fun _ => 0) fs U H ∧ sz ≤ a
theorem zQ6.moved {D : va_G} {cJ : ClassId} {ci : Nat} {fs : List Value} (b sz : Nat) (s U : State) (H : Heap) (hW : s.vm.Alike U.vm) (h : zQ6 D cJ ci fs b sz s H) : zQ6 D cJ ci fs b sz U H := h.imp fun _ g => ⟨g.1.moved hW, g.2⟩
theorem wP2 {D : va_G} {a b : Nat} {x y : va_E} {H : Heap} (h1 : va_P D vwCl [(a, x)] H) (h2 : va_P D vwCl [(b, y)] H) : va_P D vwCl [(a, x), (b, y)] H := by
  intro k q hk
  match k, hk with
  | 0, hk => cases hk; exact h1 0 _ rfl
  | 1, hk => cases hk; exact h2 0 _ rfl
  | k + 2, hk => simp at hk
set_option maxHeartbeats 4000000 in
theorem c_X3_init (l : Launch) (D : va_G) (cJ : ClassId) : zNM l yX3_init 1 60 1 6 [] (zI6 D cJ 2 [.null, .int 0, .int 0, .int 0]) (zQ6 D cJ 2 [.int 0, .int 0, .int 0]) zF1 := by
  refine zNM.intro (lo := 40) (nA := 0) (own := RX3) zi_X3_init (by decide) rfl rfl (by decide +kernel) rfl (fun _ => Nat.le_of_ble_eq_true rfl) rfl zI6.warm zQ6.moved ?_
  intro b p e s m below meth c ls C hr hk hin hP hl
  obtain ⟨hP, hK⟩ := hP
  have hl : lv_has ls 1 [(0, .ref b)] := hl
  have hbl : b < s.heap.size := (hP 0 _ rfl).lt
  refine lv_aload_n C.1 C.2.1 dX3_init_0 rfl (lv_at hl 0 rfl) ?_
  refine W.objInit C.1 C.2.1 C.2.2.2.1 (C.2.2.2.2 _ (T0_of my_X3_1 rfl)) (C.2.2.2.2 _ (T0_of im_java_lang_Object_init rfl)) (C.2.2.2.2 _ (T0_of cd_oi rfl)) rfl (hl.1.trans C.2.2.1.symm) rfl dX3_init_1 (Nat.le_of_ble_eq_true rfl) (Nat.le_of_ble_eq_true rfl) ?_
  refine W.eq (g2 := F0 m 4 ls []) rfl ?_
  refine lv_aload_n C.1 C.2.1 dX3_init_4 rfl (lv_at hl 0 rfl) ?_
  refine z_bipush C dX3_init_5 (by decide) ?_
  refine zr_newl (A := zF1 b s.heap.size) C hK va_S.rf (Nat.le_of_ble_eq_true rfl) (Nat.le_of_ble_eq_true rfl) dX3_init_7 (fun w H1 hw hW S1 ho hz => ?_)
  refine za_putF C hin inX3 tyX3 tyX3_ok nmX3 hK (wK1 hP (ho b hbl)) S1 (Or.inl rfl) rfl 0 (by decide) fl_X3_9 rfl rfl rfl (ty := .array .long) rfl rfl rfl (Nat.le_of_ble_eq_true rfl) dX3_init_9 (fun H2 locs2 hP2 S2 hq2 hz2 => ?_)
  refine lv_aload_n C.1 C.2.1 dX3_init_12 rfl (lv_at hl 0 rfl) ?_
  refine z_iconst C dX3_init_13 ?_
  refine za_put C inX3 tyX3 tyX3_ok nmX3 hK hP2 S2 (Or.inl rfl) rfl 1 (by decide) fl_X3_13 rfl rfl (ty := .int) rfl rfl rfl (Nat.le_of_ble_eq_true rfl) dX3_init_14 (fun H3 locs3 hP3 S3 hq3 hz3 => ?_)
  refine lv_aload_n C.1 C.2.1 dX3_init_17 rfl (lv_at hl 0 rfl) ?_
  refine z_iconst C dX3_init_18 ?_
  refine za_put C inX3 tyX3 tyX3_ok nmX3 hK hP3 S3 (Or.inl rfl) rfl 2 (by decide) fl_X3_17 rfl rfl (ty := .int) rfl rfl rfl (Nat.le_of_ble_eq_true rfl) dX3_init_19 (fun H4 locs4 hP4 S4 hq4 hz4 => ?_)
  refine lv_aload_n C.1 C.2.1 dX3_init_22 rfl (lv_at hl 0 rfl) ?_
  refine z_iconst C dX3_init_23 ?_
  refine za_put C inX3 tyX3 tyX3_ok nmX3 hK hP4 S4 (Or.inl rfl) rfl 3 (by decide) fl_X3_20 rfl rfl (ty := .int) rfl rfl rfl (Nat.le_of_ble_eq_true rfl) dX3_init_24 (fun H5 locs5 hP5 S5 hq5 hz5 => ?_)
  have hbw : w ≠ b := by omega
  have hB : AtO D 2 cJ b w (fun _ => 0) [.int 0, .int 0, .int 0] s H5 := ⟨wP2 hP5 (wK1 (wK1 (wK1 (wK1 hW (hq2 w hbw)) (hq3 w hbw)) (hq4 w hbw)) (hq5 w hbw)), hK, Ne.symm hbw, fun _ => (by omega : (0 : Nat) < 8589934592)⟩
  exact W.vret C.1 C.2.1 hr (fun t ht hW9 => ⟨rfl, ⟨w, by rw [ht]; exact hB.moved hW9.alike, hw⟩, S5.F ht⟩) S5.2.2 dX3_init_27 hk
set_option maxHeartbeats 4000000 in
theorem c_X5_init (l : Launch) (D : va_G) (cJ : ClassId) : zNM l yX5_init 1 60 1 6 [] (zI6 D cJ 4 [.null, .int 0, .int 0, .int 0, .int 0]) (zQ6 D cJ 4 [.int 0, .int 0, .int 0, .int 0]) zF1 := by
  refine zNM.intro (lo := 40) (nA := 0) (own := RX5) zi_X5_init (by decide) rfl rfl (by decide +kernel) rfl (fun _ => Nat.le_of_ble_eq_true rfl) rfl zI6.warm zQ6.moved ?_
  intro b p e s m below meth c ls C hr hk hin hP hl
  obtain ⟨hP, hK⟩ := hP
  have hl : lv_has ls 1 [(0, .ref b)] := hl
  have hbl : b < s.heap.size := (hP 0 _ rfl).lt
  refine lv_aload_n C.1 C.2.1 dX5_init_0 rfl (lv_at hl 0 rfl) ?_
  refine W.objInit C.1 C.2.1 C.2.2.2.1 (C.2.2.2.2 _ (T0_of my_X5_1 rfl)) (C.2.2.2.2 _ (T0_of im_java_lang_Object_init rfl)) (C.2.2.2.2 _ (T0_of cd_oi rfl)) rfl (hl.1.trans C.2.2.1.symm) rfl dX5_init_1 (Nat.le_of_ble_eq_true rfl) (Nat.le_of_ble_eq_true rfl) ?_
  refine W.eq (g2 := F0 m 4 ls []) rfl ?_
  refine lv_aload_n C.1 C.2.1 dX5_init_4 rfl (lv_at hl 0 rfl) ?_
  refine z_bipush C dX5_init_5 (by decide) ?_
  refine zr_newl (A := zF1 b s.heap.size) C hK va_S.rf (Nat.le_of_ble_eq_true rfl) (Nat.le_of_ble_eq_true rfl) dX5_init_7 (fun w H1 hw hW S1 ho hz => ?_)
  refine za_putF C hin inX5 tyX5 tyX5_ok nmX5 hK (wK1 hP (ho b hbl)) S1 (Or.inl rfl) rfl 0 (by decide) fl_X5_7 rfl rfl rfl (ty := .array .long) rfl rfl rfl (Nat.le_of_ble_eq_true rfl) dX5_init_9 (fun H2 locs2 hP2 S2 hq2 hz2 => ?_)
  have hbw : w ≠ b := by omega
  have hB : AtO D 4 cJ b w (fun _ => 0) [.int 0, .int 0, .int 0, .int 0] s H2 := ⟨wP2 hP2 (wK1 hW (hq2 w hbw)), hK, Ne.symm hbw, fun _ => (by omega : (0 : Nat) < 8589934592)⟩
  exact W.vret C.1 C.2.1 hr (fun t ht hW9 => ⟨rfl, ⟨w, by rw [ht]; exact hB.moved hW9.alike, hw⟩, S2.F ht⟩) S2.2.2 dX5_init_12 hk
def zI7 (D : va_G) (b : Nat) (U : State) (H : Heap) : Prop := va_P D vwCl (wOut b 0 .null) H ∧ va_K D vwCl [] U
theorem zI7.warm {D : va_G} (b : Nat) (s U : State) (H : Heap) (hW : s.WarmedH U.vm) (h : zI7 D b s H) : zI7 D b U H := ⟨h.1, va_K.moved hW.alike h.2⟩
def zQ7 (D : va_G) (b _sz : Nat) (U : State) (H : Heap) : Prop := AtW D b 0 .null U H
theorem zQ7.moved {D : va_G} (b sz : Nat) (s U : State) (H : Heap) (hW : s.vm.Alike U.vm) (h : zQ7 D b sz s H) : zQ7 D b sz U H := AtW.moved hW h
set_option maxHeartbeats 4000000 in
theorem c_X4_init (l : Launch) (D : va_G) : zNM l yX4_init 1 60 0 0 [] (zI7 D) (zQ7 D) zF1 := by
  refine zNM.intro (lo := 40) (nA := 0) (own := RX4) zi_X4_init (by decide) rfl rfl (by decide +kernel) rfl (fun _ => Nat.le_of_ble_eq_true rfl) rfl zI7.warm zQ7.moved ?_
  intro b p e s m below meth c ls C hr hk hin hP hl
  obtain ⟨hP, hK⟩ := hP
  have hl : lv_has ls 1 [(0, .ref b)] := hl
  have S0 : va_S (zF1 b s.heap.size) s.heap s.heap [] := va_S.rf
  refine lv_aload_n C.1 C.2.1 dX4_init_0 rfl (lv_at hl 0 rfl) ?_
  refine W.objInit C.1 C.2.1 C.2.2.2.1 (C.2.2.2.2 _ (T0_of my_X4_1 rfl)) (C.2.2.2.2 _ (T0_of im_java_lang_Object_init rfl)) (C.2.2.2.2 _ (T0_of cd_oi rfl)) rfl (hl.1.trans C.2.2.1.symm) rfl dX4_init_1 (Nat.le_of_ble_eq_true rfl) (Nat.le_of_ble_eq_true rfl) ?_
  refine W.eq (g2 := F0 m 4 ls []) rfl ?_
  exact W.vret C.1 C.2.1 hr (fun t ht hW9 => ⟨rfl, by rw [ht]; exact ⟨hP, va_K.moved hW9.alike hK, Or.inl rfl⟩, S0.F ht⟩) S0.2.2 dX4_init_4 hk
end KB
