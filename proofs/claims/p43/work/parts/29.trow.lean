/-! ===== rows for methods that write texts ===== -/
section TA9
/-- toString of a builder -/
def zTO (l : Launch) (fr need mc ms : Nat) (D : va_G) (cB : ClassId) (n k : Nat) : Prop :=
  ∃ lo : Nat, need = 8 + (1 + 11) + lo ∧ ∀ b v sz : Nat, Met l yJ4_toString_0e30d (Cond.code yJ4_toString_0e30d cJ4_toString_0e30d 1 (some (.object "java/lang/String")) :: T0) { frames := fr, cells := mc, slots := ms, locals := lo } (fun a U => a = ([.ref b] : List Value).toArray ∧ U.heap.size = sz ∧ AtB D cB b v n k U U.heap ∧ zV (fun x => x = b ∨ x = v) U U.heap)
    (fun _ st oc t => (∃ q, oc = .returned (some (.ref q))) ∧ va_F (zF b v sz) st t) mc ms (zF b v sz)
theorem zdef0 : ∀ j, j < 4 → defaultValue (tyJ0 j) = vp_V [.null, .int 0, .int 0, .int 0] j := by
  intro j hj
  match j, hj with
  | 0, _ => rfl
  | 1, _ => rfl
  | 2, _ => rfl
  | 3, _ => rfl
theorem zdef4 : ∀ j, j < 4 → defaultValue (tyJ4 j) = vp_V [.null, .int 0, .int 0, .int 0] j := by
  intro j hj
  match j, hj with
  | 0, _ => rfl
  | 1, _ => rfl
  | 2, _ => rfl
  | 3, _ => rfl
set_option maxHeartbeats 4000000 in
theorem c_J4_toString_0e30d (l : Launch) (D : va_G) (cB : ClassId) (n k : Nat) (hnk : n ≤ k ∧ k ≤ 520) : zTO l 5 165 2 524 D cB n k := by
  refine ⟨145, rfl, fun b v sz => ?_⟩
  refine Met.ofW (ws' := T0) (by decide) rfl ?_
  intro p e s m args below meth c s₁ B9 hml hv
  obtain ⟨hv, hsz, B, V⟩ := hv
  subst hv
  subst hsz
  have hts := atoms_spec (ws := Cond.code yJ4_toString_0e30d cJ4_toString_0e30d 1 (some (.object "java/lang/String")) :: T0) B9.pre
  have hown : s.vm.findClass RJ4 = some m.cls := findClass_of_methodNamed B9.named
  rw [lg_entry_eq]
  have C : CallFix p m c cJ4_toString_0e30d 1 s ([.ref b] : List Value).toArray T0 RJ4 := ⟨B9.exec, B9.bytes, hml, hown, fun w h => hts w (List.mem_cons_of_mem _ h)⟩
  have hr := B9.returns
  have hk := B9.notSynchronized
  have hl : lv_has _ 1 [(0, .ref b)] := lv_entry ([.ref b] : List Value) (n := 1) (Nat.le_of_ble_eq_true rfl)
  generalize (lg_sl ([.ref b] : List Value) ++ List.replicate (1 - (lg_sl ([.ref b] : List Value)).length) Slot.unset).toArray = ls at hl ⊢
  have V2 : zV (zF b v s.heap.size) s s.heap := V.nar (fun q h1 h2 => by rcases h2 with h2 | h2 | h2; exact Or.inl h2; exact Or.inr h2; omega)
  have hb := B.lt
  refine za_new (A := zF b v s.heap.size) (ci := 0) C inJ0 tyJ0 tyJ0_ok cl_J4_18 it_J0 ini_J0 B.1.K va_S.rf rfl zdef0 (Nat.le_of_ble_eq_true rfl) (Nat.le_of_ble_eq_true rfl) dJ4_toString_0e30d_0 (fun H1 hP S1 ho hz => ?_)
  refine lv_dup C.1 C.2.1 dJ4_toString_0e30d_3 rfl ?_
  refine lv_aload_n C.1 C.2.1 dJ4_toString_0e30d_4 rfl (lv_at hl 0 rfl) ?_
  refine zn_call (A := zF b v s.heap.size) C (⟨hP, B.kept (ho b hb.1) (ho v hb.2), ⟨by omega, by omega⟩, by
    have h9 := V2.kept S1.2.1
    exact h9.nar (fun x h1 h2 => by rcases h2 with h2 | h2 | h2; exact Or.inr (Or.inr (by omega)); exact Or.inl h2; exact Or.inr (Or.inl h2))⟩ : zI0 D cB b v n k s.heap.size s H1) S1 (fun x h => by rcases h with h | h | h | h; exact Or.inr (Or.inr (by omega)); exact Or.inl h; exact Or.inr (Or.inl h); exact Or.inr (Or.inr (by omega))) (c_J0_init_81219 l D cB b v n k hnk) ml_J4_137 ⟨Nat.le_of_ble_eq_true rfl, Nat.le_of_ble_eq_true rfl⟩ ⟨Nat.le_of_ble_eq_true rfl, Nat.le_of_ble_eq_true rfl⟩ hl (Nat.le_of_ble_eq_true rfl) rfl dJ4_toString_0e30d_5 (fun H2 locs2 _ S2 _ _ => ?_)
  exact W.aret C.1 C.2.1 hr (Or.inl ⟨_, rfl⟩) (Or.inr ⟨_, rfl⟩) (fun t ht hW9 => ⟨⟨_, rfl⟩, S2.F ht⟩) S2.2.2 dJ4_toString_0e30d_8 hk
/-- inside a method that writes a text into a builder of its own -/
def zTn (A : Nat → Prop) (D : va_G) (cB : ClassId) (b v n k : Nat) (s : State) (H : Heap) (locs : List Loc) : Prop := AtB D cB b v n k s H ∧ va_S A s.heap H locs ∧ s.heap.size ≤ b ∧ s.heap.size ≤ v
theorem zTn.sub {A : Nat → Prop} {D : va_G} {cB : ClassId} {b v n k : Nat} {s : State} {H : Heap} {locs : List Loc} (B : zTn A D cB b v n k s H locs) (hA : ∀ q, s.heap.size ≤ q → A q) : ∀ q, zF b v H.size q → A q := by
  intro q h
  rcases h with h | h | h
  · rw [h]; exact hA _ B.2.2.1
  · rw [h]; exact hA _ B.2.2.2
  · exact hA _ (Nat.le_trans B.2.1.1 h)
theorem zTn.nxt {A : Nat → Prop} {D : va_G} {cB : ClassId} {b v n k v2 n2 k2 : Nat} {s : State} {H H1 : Heap} {locs locs1 : List Loc} (B : zTn A D cB b v n k s H locs) (h1 : v2 = v ∨ H.size ≤ v2) (h2 : AtB D cB b v2 n2 k2 s H1) (h3 : va_S A s.heap H1 locs1) : zTn A D cB b v2 n2 k2 s H1 locs1 :=
  ⟨h2, h3, B.2.2.1, h1.elim (fun h => by rw [h]; exact B.2.2.2) (fun h => Nat.le_trans B.2.1.1 h)⟩
/-- a static method that answers a text, and changes nothing -/
def zTS (l : Launch) (y : MethodName) (fr need mc ms : Nat) (D : va_G) (cB : ClassId) (as : List Value) : Prop :=
  ∃ (bytes : ByteArray) (maxL lo : Nat) (ret : Option FieldType), zS y bytes maxL ret ∧ need = 8 + (maxL + 11) + lo ∧
    (y.cls ≠ "java/lang/invoke/MethodHandle" ∧ y.cls ≠ "java/lang/invoke/VarHandle" ∧ (parseMethodDescriptor y.desc).map (fun d => d.parameters.length) = some as.length) ∧
    ∀ sz : Nat, Met l y (Cond.code y bytes maxL ret :: T0) { frames := fr, cells := mc, slots := ms, locals := lo } (fun a U => a = as.toArray ∧ U.heap.size = sz ∧ va_K D vwCl [(cB, .byte)] U ∧ zV (fun _ => False) U U.heap)
      (fun _ st oc t => (∃ q, oc = .returned (some (.ref q))) ∧ va_F (fun z => sz ≤ z) st t) mc ms (fun z => sz ≤ z)
abbrev zT1 (below : List Frame) (av : Array Value) (s : State) (mc ms : Nat) : State → Prop := MQ below (fun _ st oc t => (∃ q, oc = .returned (some (.ref q))) ∧ va_F (fun z => s.heap.size ≤ z) st t) av s mc ms (fun z => s.heap.size ≤ z)
theorem zTS.intro {l : Launch} {y : MethodName} {fr need lo nA mc ms : Nat} {D : va_G} {cB : ClassId} {as : List Value} {cc : ByteArray} {maxL : Nat} {ret : Option FieldType} {own : String} (hz : zS y cc maxL ret) (hy : plainName y.cls = true) (ho : own = y.cls) (hn : need = 8 + (maxL + 11) + lo)
    (hd : y.cls ≠ "java/lang/invoke/MethodHandle" ∧ y.cls ≠ "java/lang/invoke/VarHandle" ∧ (parseMethodDescriptor y.desc).map (fun d => d.parameters.length) = some nA) (hA : as.length = nA) (hle : (lg_sl as).length ≤ maxL)
    (body : ∀ (p : Program) (e : Env) (s : State) (m : MethodId) (below : List Frame) (meth : Method) (c : Code) (ls : Array Slot), CallFix p m c cc maxL s as.toArray T0 own → meth.sig.returnType = ret → meth.locks = false → va_K D vwCl [(cB, .byte)] s → zV (fun z => s.heap.size ≤ z) s s.heap → va_S (fun z => s.heap.size ≤ z) s.heap s.heap [] → lv_has ls maxL (lv_args 0 as) →
      W p l e { frames := fr, cells := mc, slots := ms, locals := lo } s m as.toArray below meth c s.heap [] 0 0 (zT1 below as.toArray s mc ms) (F0 m 0 ls [])) : zTS l y fr need mc ms D cB as := by
  subst hA
  refine ⟨cc, maxL, lo, ret, hz, hn, hd, fun sz => ?_⟩
  refine Met.ofW (ws' := T0) hy rfl ?_
  intro p e s m args below meth c s₁ B hml hv
  obtain ⟨hv, hsz, hK, hV⟩ := hv
  subst hv
  subst hsz
  have hts := atoms_spec (ws := Cond.code y cc maxL ret :: T0) B.pre
  have hown : s.vm.findClass own = some m.cls := by rw [ho]; exact findClass_of_methodNamed B.named
  rw [lg_entry_eq]
  exact body p e s m below meth c _ ⟨B.exec, B.bytes, hml, hown, fun w h => hts w (List.mem_cons_of_mem _ h)⟩ B.returns B.notSynchronized hK (hV.nar (fun q h1 h2 => by omega)) va_S.rf (lv_entry as hle)
/-- a quotient by what isn't ONE or ZERO is less -/
theorem fq_rng {a b : Nat} (ha : a < 512) (h2 : 2 ≤ a) (hb : 2 ≤ b ∧ b ≤ 512) : tp (qo a b) + 1 ≤ tp a ∧ qo a b < 512 := by
  have h3 := tp_2 h2
  have h4 := tp_2 hb.1
  have h5 : tp a ≤ (8 : Nat) := (tp_le (n := a) (k := 8)).mpr (by omega)
  by_cases hq : qo a b = 0
  · rw [hq, tp_0]
    exact ⟨by omega, by omega⟩
  · have h6 := qo_tp (a := a) (b := b) (by omega) (by omega) (by omega) hq
    exact ⟨by omega, (tp_le (n := qo a b) (k := 8)).mp (by omega)⟩
end TA9
section TB9
variable {p : Program} {l : Launch} {e : Env} {R : Room} {s : State} {m : MethodId} {args : Array Value} {below : List Frame} {meth : Method} {c : Code} {H : Heap} {locs : List Loc} {cells slots : Nat} {Qw : State → Prop}
variable {cc : ByteArray} {pc nL : Nat} {ls : Array Slot} {rest st : List Value} {own : String} {lv : List (Nat × Value)} {D : va_G} {cB : ClassId} {A : Nat → Prop} {b v v0 n k sz : Nat}
/-- new StringBuilder() -/
theorem zt_new (C : CallFix p m c cc nL s args T0 own) (K : va_K D vwCl [(cB, .byte)] s) (V : zV A s s.heap) (hS : va_S A s.heap H locs) (hA : ∀ q, s.heap.size ≤ q → A q) {i1 i2 : Nat} (hcl : Cond.classLink own i1 RJ4 ∈ lw_tbl) (hml : Cond.methodLink own i2 yJ4_init_da8c8 ∈ lw_tbl) (hR : 3 ≤ R.frames ∧ 81 ≤ R.locals) (hf : cells + 2 ≤ R.cells ∧ slots + 20 ≤ R.slots) (hl : lv_has ls nL lv) (hcat : (rest.map fun v => v.category).sum ≤ 7)
    (d0 : decode cc pc = .ok (.new i1, 3)) (d3 : decode cc (pc + 3) = .ok (.dup, 1)) (d4 : decode cc (pc + 4) = .ok (.invokespecial i2, 3))
    (kk : ∀ b v H1 locs1, zTn A D cB b v 0 16 s H1 locs1 → (∀ q : Nat, q < H.size → H1[q]? = H[q]?) → W p l e R s m args below meth c H1 locs1 (cells + 2) (slots + 20) Qw (F0 m (pc + 7) ls (.ref b :: rest))) : W p l e R s m args below meth c H locs cells slots Qw (F0 m pc ls rest) := by
  have hss := hS.1
  refine za_new (A := A) (ci := 1) C inJ4 tyJ4 tyJ4_ok hcl it_J4 ini_J4 K hS rfl zdef4 (by omega) (by omega) d0 (fun H1 hP S1 ho hz => ?_)
  refine lv_dup C.1 C.2.1 d3 rfl ?_
  refine zn_call (A := A) (P := zI5 D cB) (Q := zQ5 D cB) (F := zF1) C (⟨hP, K, (V.kept S1.2.1).nar (fun x h1 h2 => by rw [h2]; exact hA _ hss)⟩ : zI5 D cB H.size s H1) S1 (fun x h => h.elim (fun h => by rw [h]; exact hA _ hss) (fun h => hA _ (by omega))) (c_J4_init_da8c8 l D cB) hml ⟨by omega, by omega⟩ ⟨by omega, by omega⟩ hl (by rw [List.map_cons, List.sum_cons]; show 1 + _ ≤ 8; omega) rfl d4 (fun H2 locs2 hQ S2 hq2 hz2 => ?_)
  obtain ⟨v, hB, hv⟩ := hQ
  exact kk H.size v H2 locs2 ⟨hB, S2, hss, by omega⟩ (fun q hq => (hq2 q (by omega) (fun h => h.elim (fun h => by omega) (fun h => by omega))).trans (ho q hq))
theorem zt_call (C : CallFix p m c cc nL s args T0 own) (B : zTn A D cB b v n k s H locs) (V : zV A s s.heap) (hA : ∀ q, s.heap.size ≤ q → A q) {y : MethodName} {fr need mc ms idx : Nat} {as : List Value} {rv : Nat → Nat → Option Value} {n2 : Nat} {post : Nat → Nat → Nat → Prop} (hM : zBM l y fr need mc ms D cB as n k rv n2 post) (hG : Cond.methodLink own idx y ∈ lw_tbl) (hsel : (Cond.selects RJ4 y y).before args s = true)
    (hR : fr + 1 ≤ R.frames ∧ need ≤ R.locals) (hf : cells + mc ≤ R.cells ∧ slots + ms ≤ R.slots) (hl : lv_has ls nL lv) (hcat : (rest.map fun v => v.category).sum ≤ 8) (hst : st = as.reverse ++ .ref b :: rest) (d : decode cc pc = .ok (.invokevirtual idx, 3))
    (kk : ∀ v2 k2 H1 locs1, post v v2 k2 → zTn A D cB b v2 n2 k2 s H1 locs1 → (∀ q : Nat, q < H.size → ¬ (q = b ∨ q = v) → H1[q]? = H[q]?) → W p l e R s m args below meth c H1 locs1 (cells + mc) (slots + ms) Qw (F0 m (pc + 3) ls ((rv b v2).toList ++ rest))) : W p l e R s m args below meth c H locs cells slots Qw (F0 m pc ls st) :=
  zb_callV C B.1 V B.2.1 (B.sub hA) hM hG hsel hR hf hl hcat hst d (fun v2 m2 H1 locs1 hp hv hB hS hq _ => kk v2 m2 H1 locs1 hp (B.nxt hv hB hS) hq)
theorem zt_str (C : CallFix p m c cc nL s args T0 own) (B : zTn A D cB b v n k s H locs) (V : zV A s s.heap) (hA : ∀ q, s.heap.size ≤ q → A q) {fr need mc ms idx : Nat} (hM : zTO l fr need mc ms D cB n k) (hG : Cond.methodLink own idx yJ4_toString_0e30d ∈ lw_tbl)
    (hR : fr + 1 ≤ R.frames ∧ need ≤ R.locals) (hf : cells + mc ≤ R.cells ∧ slots + ms ≤ R.slots) (hl : lv_has ls nL lv) (hcat : (rest.map fun v => v.category).sum ≤ 8) (d : decode cc pc = .ok (.invokevirtual idx, 3))
    (kk : ∀ q H1 locs1, va_S A s.heap H1 locs1 → (∀ q : Nat, q < H.size → ¬ (q = b ∨ q = v) → H1[q]? = H[q]?) → W p l e R s m args below meth c H1 locs1 (cells + mc) (slots + ms) Qw (F0 m (pc + 3) ls (.ref q :: rest))) : W p l e R s m args below meth c H locs cells slots Qw (F0 m pc ls (.ref b :: rest)) := by
  obtain ⟨lo, hn, hM⟩ := hM
  have hM := hM b v H.size
  have hAz := B.sub hA
  have hS := B.2.1
  have cw : CallW R s args own RJ4 idx yJ4_toString_0e30d cJ4_toString_0e30d 1 (some (.object "java/lang/String")) (Cond.code yJ4_toString_0e30d cJ4_toString_0e30d 1 (some (.object "java/lang/String")) :: T0) { frames := fr, cells := mc, slots := ms, locals := lo } mc ms 0 :=
    ⟨callB_of 0 C.2.2.2.2 (zgB zi_J4_toString_0e30d.2.2.2) rfl rfl rfl (C.2.2.2.2 _ (T0_of ini_J4 rfl)) (C.2.2.2.2 _ (T0_of hG rfl)) (by decide +kernel) ⟨hR.1, by rw [hn] at hR; exact hR.2⟩, C.2.2.2.2 _ (T0_of im_J4_toString_0e30d rfl), C.2.2.2.2 _ (T0_of zi_J4_toString_0e30d.2.1 rfl)⟩
  obtain ⟨⟨b1, b2, ml, b3⟩, -⟩ := B
  have hr := va_runV (p := p) (l := l) (e := e) (below := below) (meth := meth) (c := c) (H := H) (locs := locs) (cells := cells) (slots := slots) (g := F0 m pc ls (.ref b :: rest)) (rest := rest) (As := []) C hM cw ⟨fun A U g mk q => ⟨q.1, q.2.1, q.2.2.1.moved (U := U.calling g mk A) (Vm.Alike.refl U.vm), q.2.2.2.warm (State.WarmedH.refl U)⟩, va_recv b1.K b3 (ci := 1) (q0 := 0) rfl rfl, fun U hU hW => ⟨rfl, by rw [hU], by rw [hU]; exact (show AtB D cB b v n k s H from ⟨b1, b2, ml, b3⟩).moved hW.alike, V.at hS hW hU (fun q hq => Or.inl (hAz q (hq.elim Or.inl (fun z => Or.inr (Or.inl z)))))⟩⟩ rfl rfl hl.1 rfl (lv_room hcat) d hf
  intro T9 hT X
  obtain ⟨v9, st₀, t, T', L, h0, X', hL, e1, e2, ⟨⟨q9, hv⟩, hF⟩, st2⟩ := hr T9 hT X
  cases hv
  obtain ⟨hz2, hk2⟩ := hF
  rw [h0] at hz2 hk2
  have hss : s.heap.size ≤ H.size := hS.1
  have hS2 : va_S A s.heap T'.heap (locs ++ L) := by
    refine ⟨Nat.le_trans hss (by rw [e1]; exact hz2), fun q h1 h2 => ?_, fun q hq => ?_⟩
    · rw [e1, hk2 q (Nat.lt_of_lt_of_le h1 hss) (fun z => h2 (hAz q z))]
      exact hS.2.1 q h1 h2
    · rcases List.mem_append.mp hq with h | h
      · exact hS.2.2 q h
      · exact hAz _ (hL q h)
  obtain ⟨t2, a1, b1⟩ := kk q9 T'.heap (locs ++ L) hS2 (fun q h1 h2 => by rw [e1]; exact hk2 q h1 (fun z => by rcases z with z | z | z; exact h2 (Or.inl z); exact h2 (Or.inr z); omega)) T' rfl X'
  exact ⟨t2, st2 t2 a1, b1⟩
theorem zt_ldc (C : CallFix p m c cc nL s args T0 own) {idx : Nat} {tx : String} (hR : ∃ a, vk_R own idx tx a s) (d : decode cc pc = .ok (.ldc idx, 2))
    (kk : ∀ q, W p l e R s m args below meth c H locs cells slots Qw (F0 m (pc + 2) ls (.ref q :: rest))) : W p l e R s m args below meth c H locs cells slots Qw (F0 m pc ls rest) := by
  obtain ⟨q, hq⟩ := hR
  exact va_ldcS C.1 C.2.1 C.2.2.2.1 hq d (kk q)
theorem zt_aret {as : List Value} {mc ms q : Nat} (C : CallFix p m c cc nL s as.toArray T0 own) (hS : va_S (fun z => s.heap.size ≤ z) s.heap H locs) (hr : meth.sig.returnType = some (.object "java/lang/String")) (hk : meth.locks = false) (h1 : cells ≤ mc) (h2 : slots ≤ ms) (d : decode cc pc = .ok (.areturn, 1)) : W p l e R s m as.toArray below meth c H locs cells slots (zT1 below as.toArray s mc ms) (F0 m pc ls [.ref q]) := by
  refine W.widen (k := mc) (n := ms) h1 h2 ?_
  exact W.aret C.1 C.2.1 hr (Or.inl ⟨_, rfl⟩) (Or.inr ⟨q, rfl⟩) (fun t ht hW => ⟨⟨q, rfl⟩, hS.F ht⟩) hS.2.2 d hk
end TB9
