/-! ===== an object's methods that write texts ===== -/
section MA
/-- .. with statics and constants beside the object -/
def zAV (l : Launch) (y : MethodName) (fr need mc ms : Nat) (D : va_G) (cB : ClassId) (ci : Nat) (cJ : ClassId) (o a : Nat) (as : List Value) (c : Nat → Nat) (fs : List Value) (rv : Option Value → Prop) (c2 : Nat → Nat) (fs2 : List Value) : Prop :=
  ∃ (bytes : ByteArray) (maxL lo : Nat) (ret : Option FieldType), zI y bytes maxL ret ∧ need = 8 + (maxL + 11) + lo ∧
    (y.cls = y.cls ∧ y.cls ≠ "java/lang/invoke/MethodHandle" ∧ y.cls ≠ "java/lang/invoke/VarHandle" ∧ (parseMethodDescriptor y.desc).map (fun d => d.parameters.length) = some as.length) ∧
    ∀ sz : Nat, Met l y (Cond.code y bytes maxL ret :: T0) { frames := fr, cells := mc, slots := ms, locals := lo } (fun v U => v = (Value.ref o :: as).toArray ∧ U.heap.size = sz ∧ AtO D ci cJ o a c fs U U.heap ∧ va_K D vwCl [(cB, .byte)] U ∧ zV (zoa o a) U U.heap)
      (fun _ st oc t => (∃ v, oc = .returned v ∧ rv v) ∧ AtO D ci cJ o a c2 fs2 t t.heap ∧ va_F (zF o a sz) st t) mc ms (zF o a sz)
theorem zAV.intro {l : Launch} {y : MethodName} {fr need lo nA mc ms : Nat} {D : va_G} {cB : ClassId} {ci : Nat} {cJ : ClassId} {o a : Nat} {as : List Value} {c : Nat → Nat} {fs : List Value} {rv : Option Value → Prop} {c2 : Nat → Nat} {fs2 : List Value} {cc : ByteArray} {maxL : Nat} {ret : Option FieldType} {own : String} (hz : zI y cc maxL ret) (hy : plainName y.cls = true) (ho : own = y.cls) (hn : need = 8 + (maxL + 11) + lo)
    (hd : y.cls ≠ "java/lang/invoke/MethodHandle" ∧ y.cls ≠ "java/lang/invoke/VarHandle" ∧ (parseMethodDescriptor y.desc).map (fun d => d.parameters.length) = some nA) (hA : as.length = nA) (hle : (lg_sl (.ref o :: as)).length ≤ maxL)
    (body : ∀ (p : Program) (e : Env) (s : State) (m : MethodId) (below : List Frame) (meth : Method) (c0 : Code) (ls : Array Slot), CallFix p m c0 cc maxL s (Value.ref o :: as).toArray T0 own → meth.sig.returnType = ret → meth.locks = false → zIn D ci cJ o a c fs s s.heap [] → va_K D vwCl [(cB, .byte)] s → zV (zF o a s.heap.size) s s.heap → lv_has ls maxL (lv_args 0 (.ref o :: as)) →
      W p l e { frames := fr, cells := mc, slots := ms, locals := lo } s m (Value.ref o :: as).toArray below meth c0 s.heap [] 0 0 (zE1 below D ci cJ o a (Value.ref o :: as).toArray s mc ms rv c2 fs2) (F0 m 0 ls [])) : zAV l y fr need mc ms D cB ci cJ o a as c fs rv c2 fs2 := by
  subst hA
  refine ⟨cc, maxL, lo, ret, hz, hn, ⟨rfl, hd⟩, fun sz => ?_⟩
  refine Met.ofW (ws' := T0) hy rfl ?_
  intro p e s m args below meth c0 s₁ B hml hv
  obtain ⟨hv, hsz, hAt, hK, hV⟩ := hv
  subst hv
  subst hsz
  have hts := atoms_spec (ws := Cond.code y cc maxL ret :: T0) B.pre
  have hown : s.vm.findClass own = some m.cls := by rw [ho]; exact findClass_of_methodNamed B.named
  rw [lg_entry_eq]
  exact body p e s m below meth c0 _ ⟨B.exec, B.bytes, hml, hown, fun w h => hts w (List.mem_cons_of_mem _ h)⟩ B.returns B.notSynchronized ⟨hAt, va_S.rf⟩ hK (hV.nar (fun q h1 h2 => by rcases h2 with h2 | h2 | h2; exact Or.inl h2; exact Or.inr h2; omega)) (lv_entry (.ref o :: as) hle)
/-- a method that only reads -/
def zRO (l : Launch) (y : MethodName) (fr need : Nat) (as : List Value) (G : State → Heap → Prop) (rv : Option Value → Prop) : Prop :=
  ∃ (bytes : ByteArray) (maxL lo : Nat) (ret : Option FieldType) (nA : Nat), (Cond.initialized y.cls ∈ lw_tbl ∧ Cond.code y bytes maxL ret ∈ lw_tbl) ∧ need = 8 + (maxL + 11) + lo ∧
    (y.cls ≠ "java/lang/invoke/MethodHandle" ∧ y.cls ≠ "java/lang/invoke/VarHandle" ∧ (parseMethodDescriptor y.desc).map (fun d => d.parameters.length) = some nA ∧ (as.length = nA ∧ Cond.static y ∈ lw_tbl ∨ as.length = nA + 1 ∧ Cond.instanceMethod y ∈ lw_tbl ∧ Cond.selects y.cls y y ∈ lw_tbl)) ∧
    (∀ (s U : State) H, s.WarmedH U.vm → G s H → G U H) ∧
    Met l y (Cond.code y bytes maxL ret :: T0) { frames := fr, cells := 0, slots := 0, locals := lo } (fun a U => a = as.toArray ∧ G U U.heap) (fun _ st oc t => (∃ v, oc = .returned v ∧ rv v) ∧ t.heap = st.heap) 0 0 (fun _ => False)
theorem zRO.intro {l : Launch} {y : MethodName} {fr need lo nA : Nat} {as : List Value} {G : State → Heap → Prop} {rv : Option Value → Prop} {cc : ByteArray} {maxL : Nat} {ret : Option FieldType} {own : String} (hz : Cond.initialized y.cls ∈ lw_tbl ∧ Cond.code y cc maxL ret ∈ lw_tbl) (hy : plainName y.cls = true) (ho : own = y.cls) (hn : need = 8 + (maxL + 11) + lo)
    (hd : y.cls ≠ "java/lang/invoke/MethodHandle" ∧ y.cls ≠ "java/lang/invoke/VarHandle" ∧ (parseMethodDescriptor y.desc).map (fun d => d.parameters.length) = some nA) (hA : as.length = nA ∧ Cond.static y ∈ lw_tbl ∨ as.length = nA + 1 ∧ Cond.instanceMethod y ∈ lw_tbl ∧ Cond.selects y.cls y y ∈ lw_tbl) (hle : (lg_sl as).length ≤ maxL) (hG : ∀ (s U : State) H, s.WarmedH U.vm → G s H → G U H)
    (body : ∀ (p : Program) (e : Env) (s : State) (m : MethodId) (below : List Frame) (meth : Method) (c : Code) (ls : Array Slot), CallFix p m c cc maxL s as.toArray T0 own → meth.sig.returnType = ret → meth.locks = false → G s s.heap → lv_has ls maxL (lv_args 0 as) →
      W p l e { frames := fr, cells := 0, slots := 0, locals := lo } s m as.toArray below meth c s.heap [] 0 0 (MQ below (fun _ st oc t => (∃ v, oc = .returned v ∧ rv v) ∧ t.heap = st.heap) as.toArray s 0 0 (fun _ => False)) (F0 m 0 ls [])) : zRO l y fr need as G rv := by
  refine ⟨cc, maxL, lo, ret, nA, hz, hn, ⟨hd.1, hd.2.1, hd.2.2, hA⟩, hG, ?_⟩
  refine Met.ofW (ws' := T0) hy rfl ?_
  intro p e s m args below meth c s₁ B hml hv
  obtain ⟨hv, hAt⟩ := hv
  subst hv
  have hts := atoms_spec (ws := Cond.code y cc maxL ret :: T0) B.pre
  have hown : s.vm.findClass own = some m.cls := by rw [ho]; exact findClass_of_methodNamed B.named
  rw [lg_entry_eq]
  exact body p e s m below meth c _ ⟨B.exec, B.bytes, hml, hown, fun w h => hts w (List.mem_cons_of_mem _ h)⟩ B.returns B.notSynchronized hAt (lv_entry as hle)
end MA
section MB
variable {p : Program} {l : Launch} {e : Env} {R : Room} {s : State} {m : MethodId} {args : Array Value} {below : List Frame} {meth : Method} {c : Code} {H : Heap} {locs : List Loc} {cells slots : Nat} {Q : State → Prop}
variable {cc : ByteArray} {pc nL : Nat} {ls : Array Slot} {rest st : List Value} {own : String} {lv : List (Nat × Value)} {D : va_G} {cB : ClassId} {ci : Nat} {cJ : ClassId} {o a : Nat} {ce : Nat → Nat} {fs : List Value} {A : Nat → Prop} {b v n k : Nat}
theorem zro_run {mc ms : Nat} {rv : Option Value → Prop} (hr : va_Run p l e R s m args below meth c H locs cells slots 0 0 (F0 m pc ls st) rest (fun st oc t => (∃ v, oc = .returned v ∧ rv v) ∧ t.heap = st.heap) (fun _ => False))
    (kk : ∀ v, rv v → W p l e R s m args below meth c H locs cells slots Q (F0 m (pc + 3) ls (v.toList ++ rest))) : W p l e R s m args below meth c H locs cells slots Q (F0 m pc ls st) := by
  intro T hT X
  obtain ⟨v2, st₀, t, T', L, h0, X', hL, e1, e2, ⟨⟨v, hv, hrv⟩, hh⟩, st2⟩ := hr T hT X
  cases hv
  have hL0 : L = [] := by
    cases L with
    | nil => rfl
    | cons q L => exact (hL q List.mem_cons_self).elim
  subst hL0
  rw [List.append_nil] at X'
  obtain ⟨t2, a1, b1⟩ := kk v2 hrv T' (by rw [e1, hh, h0]) X'
  exact ⟨t2, st2 t2 a1, b1⟩
theorem zro_callS (C : CallFix p m c cc nL s args T0 own) {y : MethodName} {fr need idx : Nat} {as : List Value} {G : State → Heap → Prop} {rv : Option Value → Prop} (hM : zRO l y fr need as G rv) (hst9 : Cond.static y ∈ lw_tbl) (hlen : (parseMethodDescriptor y.desc).map (fun d => d.parameters.length) = some as.length) (hGs : G s H) (hG : Cond.methodLink own idx y ∈ lw_tbl) (hR : fr + 1 ≤ R.frames ∧ need ≤ R.locals) (hf : cells ≤ R.cells ∧ slots ≤ R.slots) (hl : lv_has ls nL lv) (hcat : (rest.map fun v => v.category).sum ≤ 8) (hst : st = as.reverse ++ rest) (d : decode cc pc = .ok (.invokestatic idx, 3))
    (kk : ∀ v, rv v → W p l e R s m args below meth c H locs cells slots Q (F0 m (pc + 3) ls (v.toList ++ rest))) : W p l e R s m args below meth c H locs cells slots Q (F0 m pc ls st) := by
  obtain ⟨bytes, maxL, lo, ret, nA, hz, hn, hd, hGm, hM⟩ := hM
  have cw := va_cwS (R := R) (bytes := bytes) (maxL := maxL) (ret := ret) (ws' := T0) (rm := { frames := fr, cells := 0, slots := 0, locals := lo }) as.length C.2.2.2.2 (zg hG ⟨hst9, hz.1, hz.2⟩) rfl rfl rfl ⟨hd.1, hd.2.1, hlen⟩ ⟨hR.1, by rw [hn] at hR; exact hR.2⟩
  have hr := va_runS (p := p) (l := l) (e := e) (below := below) (meth := meth) (c := c) (H := H) (locs := locs) (cells := cells) (slots := slots) (g := F0 m pc ls st) (rest := rest) C hM cw ⟨fun A U g mk q => ⟨q.1, hGm U (U.calling g mk A) U.heap (State.WarmedH.refl U) q.2⟩, fun U hU hW => ⟨rfl, by rw [hU]; exact hGm s U H hW hGs⟩⟩ rfl rfl hl.1 hst (lv_room hcat) d ⟨by simpa using hf.1, by simpa using hf.2⟩
  exact zro_run (mc := 0) (ms := 0) hr kk
theorem zro_callV (C : CallFix p m c cc nL s args T0 own) {y : MethodName} {fr need idx : Nat} {as : List Value} {G : State → Heap → Prop} {rv : Option Value → Prop} (hM : zRO l y fr need (.ref b :: as) G rv) (him : Cond.instanceMethod y ∈ lw_tbl) (hsl : Cond.selects y.cls y y ∈ lw_tbl) (hlen : (parseMethodDescriptor y.desc).map (fun d => d.parameters.length) = some as.length) (hO : va_O y.cls b A s H) (hGs : G s H) (hG : Cond.methodLink own idx y ∈ lw_tbl) (hR : fr + 1 ≤ R.frames ∧ need ≤ R.locals) (hf : cells ≤ R.cells ∧ slots ≤ R.slots) (hl : lv_has ls nL lv) (hcat : (rest.map fun v => v.category).sum ≤ 8) (hst : st = as.reverse ++ .ref b :: rest) (d : decode cc pc = .ok (.invokevirtual idx, 3))
    (kk : ∀ v, rv v → W p l e R s m args below meth c H locs cells slots Q (F0 m (pc + 3) ls (v.toList ++ rest))) : W p l e R s m args below meth c H locs cells slots Q (F0 m pc ls st) := by
  obtain ⟨bytes, maxL, lo, ret, nA, hz, hn, hd, hGm, hM⟩ := hM
  have cw : CallW R s args own y.cls idx y bytes maxL ret (Cond.code y bytes maxL ret :: T0) { frames := fr, cells := 0, slots := 0, locals := lo } 0 0 as.length :=
    ⟨callB_of as.length C.2.2.2.2 (zgB hz.2) rfl rfl rfl (C.2.2.2.2 _ (T0_of hz.1 rfl)) (C.2.2.2.2 _ (T0_of hG rfl)) ⟨hd.1, hd.2.1, hlen⟩ ⟨hR.1, by rw [hn] at hR; exact hR.2⟩, C.2.2.2.2 _ (T0_of him rfl), C.2.2.2.2 _ (T0_of hsl rfl)⟩
  obtain ⟨cell, c1, c2, c3, -⟩ := hO
  have hr := va_runV (p := p) (l := l) (e := e) (below := below) (meth := meth) (c := c) (H := H) (locs := locs) (cells := cells) (slots := slots) (g := F0 m pc ls st) (rest := rest) C hM cw ⟨fun A U g mk q => ⟨q.1, hGm U (U.calling g mk A) U.heap (State.WarmedH.refl U) q.2⟩, ⟨cell, c1, c2, c3⟩, fun U hU hW => ⟨rfl, by rw [hU]; exact hGm s U H hW hGs⟩⟩ rfl rfl hl.1 hst (lv_room hcat) d ⟨by simpa using hf.1, by simpa using hf.2⟩
  exact zro_run (mc := 0) (ms := 0) hr kk
theorem zro_iret {as : List Value} {rv : Option Value → Prop} {r : Int32} {ty : FieldType} (C : CallFix p m c cc nL s as.toArray T0 own) (hr : meth.sig.returnType = some ty) (hk : meth.locks = false) (d : decode cc pc = .ok (.ireturn, 1)) (hn : narrow ty (.int r) = .int r) (hv : rv (some (.int r))) : W p l e R s m as.toArray below meth c s.heap [] 0 0 (MQ below (fun _ st oc t => (∃ v, oc = .returned v ∧ rv v) ∧ t.heap = st.heap) as.toArray s 0 0 (fun _ => False)) (F0 m pc ls [.int r]) :=
  W.zret C.1 C.2.1 hr hn (fun t ht _ => ⟨⟨_, rfl, hv⟩, ht⟩) (fun q h => by cases h) d hk
theorem zro_vret {as : List Value} {rv : Option Value → Prop} (C : CallFix p m c cc nL s as.toArray T0 own) (hr : meth.sig.returnType = none) (hk : meth.locks = false) (d : decode cc pc = .ok (.return_, 1)) (hv : rv none) : W p l e R s m as.toArray below meth c s.heap [] 0 0 (MQ below (fun _ st oc t => (∃ v, oc = .returned v ∧ rv v) ∧ t.heap = st.heap) as.toArray s 0 0 (fun _ => False)) (F0 m pc ls []) :=
  W.vret C.1 C.2.1 hr (fun t ht _ => ⟨⟨_, rfl, hv⟩, ht⟩) (fun q h => by cases h) d hk
theorem zo_callT (C : CallFix p m c cc nL s args T0 own) (B : zIn D ci cJ o a ce fs s H locs) (K : va_K D vwCl [(cB, .byte)] s) (V : zV (zF o a s.heap.size) s s.heap) (ho9 : o < s.heap.size ∧ a < s.heap.size) {y : MethodName} {fr need mc ms idx : Nat} {as : List Value} (hM : zTS l y fr need mc ms D cB as) (hG : Cond.methodLink own idx y ∈ lw_tbl) (hR : fr + 1 ≤ R.frames ∧ need ≤ R.locals) (hf : cells + mc ≤ R.cells ∧ slots + ms ≤ R.slots) (hl : lv_has ls nL lv) (hcat : (rest.map fun v => v.category).sum ≤ 8) (hst : st = as.reverse ++ rest) (d : decode cc pc = .ok (.invokestatic idx, 3))
    (kk : ∀ q H1 locs1, zIn D ci cJ o a ce fs s H1 locs1 → W p l e R s m args below meth c H1 locs1 (cells + mc) (slots + ms) Q (F0 m (pc + 3) ls (.ref q :: rest))) : W p l e R s m args below meth c H locs cells slots Q (F0 m pc ls st) := by
  obtain ⟨bytes, maxL, lo, ret, hz, hn, hd, hM⟩ := hM
  have hM := hM H.size
  have cw := va_cwS (R := R) (bytes := bytes) (maxL := maxL) (ret := ret) (ws' := T0) (rm := { frames := fr, cells := mc, slots := ms, locals := lo }) as.length C.2.2.2.2 (zg hG hz) rfl rfl rfl hd ⟨hR.1, by rw [hn] at hR; exact hR.2⟩
  have hr := va_runS (p := p) (l := l) (e := e) (below := below) (meth := meth) (c := c) (H := H) (locs := locs) (cells := cells) (slots := slots) (g := F0 m pc ls st) (rest := rest) C hM cw ⟨fun A U g mk q => ⟨q.1, q.2.1, va_K.moved (Vm.Alike.refl U.vm) q.2.2.1, q.2.2.2.warm (State.WarmedH.refl U)⟩, fun U hU hW => ⟨rfl, by rw [hU], va_K.moved hW.alike K, V.at B.2 hW hU (fun q hq => hq.elim)⟩⟩ rfl rfl hl.1 hst (lv_room hcat) d hf
  intro T9 hT X
  obtain ⟨v9, st₀, t, T', L, h0, X', hL, e1, e2, ⟨⟨q9, hv⟩, hF⟩, st2⟩ := hr T9 hT X
  cases hv
  obtain ⟨hz2, hk2⟩ := hF
  rw [h0] at hz2 hk2
  have hss : s.heap.size ≤ H.size := B.2.1
  have hke : ∀ x : Nat, x < H.size → T'.heap[x]? = H[x]? := fun x hx => by rw [e1]; exact hk2 x hx (by omega)
  have hS2 : va_S (zF o a s.heap.size) s.heap T'.heap (locs ++ L) := by
    refine ⟨Nat.le_trans hss (by rw [e1]; exact hz2), fun q h1 h2 => ?_, fun q hq => ?_⟩
    · rw [hke q (Nat.lt_of_lt_of_le h1 hss)]
      exact B.2.2.1 q h1 h2
    · rcases List.mem_append.mp hq with h | h
      · exact B.2.2.2 q h
      · exact Or.inr (Or.inr (Nat.le_trans hss (hL q h)))
  obtain ⟨t2, a1, b1⟩ := kk q9 T'.heap (locs ++ L) ⟨B.1.kept (hke o B.1.lt.1) (hke a B.1.lt.2), hS2⟩ T' rfl X'
  exact ⟨t2, st2 t2 a1, b1⟩
theorem zo_aret {as : List Value} {mc ms : Nat} {rv : Option Value → Prop} {c2 : Nat → Nat} {fs2 : List Value} {r : Nat} (C : CallFix p m c cc nL s as.toArray T0 own) (B : zIn D ci cJ o a ce fs s H locs) (hr : meth.sig.returnType = some (.object "java/lang/String")) (hk : meth.locks = false) (h1 : cells ≤ mc) (h2 : slots ≤ ms) (d : decode cc pc = .ok (.areturn, 1)) (hv : rv (some (.ref r))) (hc : ce = c2) (hfs : fs = fs2) : W p l e R s m as.toArray below meth c H locs cells slots (zE1 below D ci cJ o a as.toArray s mc ms rv c2 fs2) (F0 m pc ls [.ref r]) := by
  subst hc hfs
  refine W.widen (k := mc) (n := ms) h1 h2 ?_
  exact W.aret C.1 C.2.1 hr (Or.inl ⟨_, rfl⟩) (Or.inr ⟨r, rfl⟩) (fun t ht hW => ⟨⟨_, rfl, hv⟩, by rw [ht]; exact B.1.moved hW.alike, B.2.F ht⟩) B.2.2.2 d hk
end MB
section MC
/-- the text of the model's signs, at q -/
def zSg (q : Nat) (A : Nat → Prop) (U : State) (H : Heap) : Prop := ∃ (t : Nat) (g : Nat → Int32), va_O RJ0 q A U H ∧ va_OF RJ0 "coder" "B" (.int (iZ 0)) q A U H ∧ va_OF RJ0 "value" "[B" (.ref t) q A U H ∧ va_T .byte t 36 (fun j => .int (g j)) A U H
theorem zSg.warm {q : Nat} {A : Nat → Prop} {s U : State} {H : Heap} (hW : s.WarmedH U.vm) (h : zSg q A s H) : zSg q A U H := by
  obtain ⟨t, g, h1, h2, h3, h4⟩ := h
  exact ⟨t, g, h1.moved hW.alike, h2.moved hW.alike, h3.moved hW.alike, h4.moved hW.alike⟩
theorem zSg.kept {q : Nat} {A : Nat → Prop} {U : State} {H H1 : Heap} (h : zSg q A U H) (hq : ∀ a : Nat, a < H.size → ¬ A a → H1[a]? = H[a]?) : zSg q A U H1 := by
  obtain ⟨t, g, h1, h2, h3, h4⟩ := h
  exact ⟨t, g, h1.kept hq, h2.kept hq, h3.kept hq, h4.kept hq⟩
theorem zSg.nar {q : Nat} {A B : Nat → Prop} {U : State} {H : Heap} (h : zSg q A U H) (hq : ∀ q, q < H.size → B q → A q) : zSg q B U H := by
  obtain ⟨t, g, h1, h2, h3, h4⟩ := h
  exact ⟨t, g, va_O_nar h1 hq, va_OF_nar h2 hq, va_OF_nar h3 hq, va_T_nar h4 hq⟩
def zGv (U : State) (H : Heap) : Prop := zV (fun _ => False) U H
def zGt (t : Nat) (U : State) (H : Heap) : Prop := zV (fun _ => False) U H ∧ ∃ g : Nat → Int32, va_T .byte t 36 (fun j => .int (g j)) (fun _ => False) U H
def zGs (q : Nat) (U : State) (H : Heap) : Prop := zV (fun _ => False) U H ∧ zSg q (fun _ => False) U H
theorem zGv.warm (s U : State) (H : Heap) (hW : s.WarmedH U.vm) (h : zGv s H) : zGv U H := zV.warm hW h
theorem zGt.warm (t : Nat) (s U : State) (H : Heap) (hW : s.WarmedH U.vm) (h : zGt t s H) : zGt t U H := ⟨h.1.warm hW, h.2.imp fun _ g => g.moved hW.alike⟩
theorem zGs.warm (q : Nat) (s U : State) (H : Heap) (hW : s.WarmedH U.vm) (h : zGs q s H) : zGs q U H := ⟨h.1.warm hW, h.2.warm hW⟩
set_option maxHeartbeats 4000000 in
theorem c_J3_checkIndex_null (l : Launch) (i n : Int) (h : 0 ≤ i ∧ i < n ∧ n ≤ 100000) : zP l yJ3_checkIndex_8e157 1 22 [.int (iZ i), .int (iZ n), .null] (.int (iZ i)) := by
  refine zP.intro (lo := 0) (nA := 3) (own := RJ3) zs_J3_checkIndex_8e157 (by decide) rfl rfl (by decide +kernel) rfl (Nat.le_of_ble_eq_true rfl) ?_
  intro p e s m below meth c ls C hr hk hl
  have hl : lv_has ls 3 [(0, .int (iZ i)), (1, .int (iZ n)), (2, .null)] := hl
  refine lv_iload_n C.1 C.2.1 dJ3_checkIndex_8e157_0 rfl (lv_at hl 0 rfl) ?_
  refine z_if_lt (tgt := 9) C (by omega) dJ3_checkIndex_8e157_1 (by decide) (fun g => absurd g (by omega)) (fun _ => ?_)
  refine lv_iload_n C.1 C.2.1 dJ3_checkIndex_8e157_4 rfl (lv_at hl 0 rfl) ?_
  refine lv_iload_n C.1 C.2.1 dJ3_checkIndex_8e157_5 rfl (lv_at hl 1 rfl) ?_
  refine z_icmp_lt (tgt := 16) C (by omega) (by omega) dJ3_checkIndex_8e157_6 (by decide) (fun _ => ?_) (fun g => absurd g (by omega))
  refine lv_iload_n C.1 C.2.1 dJ3_checkIndex_8e157_16 rfl (lv_at hl 0 rfl) ?_
  exact z_iret C hr hk dJ3_checkIndex_8e157_17 rfl
set_option maxHeartbeats 4000000 in
theorem c_J3_checkIndex_ref (l : Launch) (i n : Int) (f : Nat) (h : 0 ≤ i ∧ i < n ∧ n ≤ 100000) : zP l yJ3_checkIndex_8e157 1 22 [.int (iZ i), .int (iZ n), .ref f] (.int (iZ i)) := by
  refine zP.intro (lo := 0) (nA := 3) (own := RJ3) zs_J3_checkIndex_8e157 (by decide) rfl rfl (by decide +kernel) rfl (Nat.le_of_ble_eq_true rfl) ?_
  intro p e s m below meth c ls C hr hk hl
  have hl : lv_has ls 3 [(0, .int (iZ i)), (1, .int (iZ n)), (2, .ref f)] := hl
  refine lv_iload_n C.1 C.2.1 dJ3_checkIndex_8e157_0 rfl (lv_at hl 0 rfl) ?_
  refine z_if_lt (tgt := 9) C (by omega) dJ3_checkIndex_8e157_1 (by decide) (fun g => absurd g (by omega)) (fun _ => ?_)
  refine lv_iload_n C.1 C.2.1 dJ3_checkIndex_8e157_4 rfl (lv_at hl 0 rfl) ?_
  refine lv_iload_n C.1 C.2.1 dJ3_checkIndex_8e157_5 rfl (lv_at hl 1 rfl) ?_
  refine z_icmp_lt (tgt := 16) C (by omega) (by omega) dJ3_checkIndex_8e157_6 (by decide) (fun _ => ?_) (fun g => absurd g (by omega))
  refine lv_iload_n C.1 C.2.1 dJ3_checkIndex_8e157_16 rfl (lv_at hl 0 rfl) ?_
  exact z_iret C hr hk dJ3_checkIndex_8e157_17 rfl
set_option maxHeartbeats 4000000 in
theorem c_J0_checkIndex (l : Launch) (i n : Int) (h : 0 ≤ i ∧ i < n ∧ n ≤ 100000) : zRO l yJ0_checkIndex_df160 2 43 [.int (iZ i), .int (iZ n)] zGv (fun v => v = none) := by
  refine zRO.intro (lo := 22) (nA := 2) (own := RJ0) ⟨ini_J0, zs_J0_checkIndex_df160.2.2⟩ (by decide) rfl rfl (by decide +kernel) (Or.inl ⟨rfl, zs_J0_checkIndex_df160.1⟩) (Nat.le_of_ble_eq_true rfl) zGv.warm ?_
  intro p e s m below meth c ls C hr hk V hl
  have hl : lv_has ls 2 [(0, .int (iZ i)), (1, .int (iZ n))] := hl
  refine lv_iload_n C.1 C.2.1 dJ0_checkIndex_df160_0 rfl (lv_at hl 0 rfl) ?_
  refine lv_iload_n C.1 C.2.1 dJ0_checkIndex_df160_1 rfl (lv_at hl 1 rfl) ?_
  rcases V.2.1 with g | ⟨f, g⟩
  · refine zv_gets (A := fun _ => False) C g va_S.rf fl_J0_1053 dJ0_checkIndex_df160_2 ?_
    refine z_call C (c_J3_checkIndex_null l i n h) ml_J0_1059 ⟨by decide, by decide⟩ ⟨Nat.le_of_ble_eq_true rfl, Nat.le_of_ble_eq_true rfl⟩ hl (Nat.le_of_ble_eq_true rfl) rfl dJ0_checkIndex_df160_5 ?_
    refine lv_pop C.1 C.2.1 dJ0_checkIndex_df160_8 rfl ?_
    exact zro_vret C hr hk dJ0_checkIndex_df160_9 rfl
  · refine zv_gets (A := fun _ => False) C g va_S.rf fl_J0_1053 dJ0_checkIndex_df160_2 ?_
    refine z_call C (c_J3_checkIndex_ref l i n f h) ml_J0_1059 ⟨by decide, by decide⟩ ⟨Nat.le_of_ble_eq_true rfl, Nat.le_of_ble_eq_true rfl⟩ hl (Nat.le_of_ble_eq_true rfl) rfl dJ0_checkIndex_df160_5 ?_
    refine lv_pop C.1 C.2.1 dJ0_checkIndex_df160_8 rfl ?_
    exact zro_vret C hr hk dJ0_checkIndex_df160_9 rfl
/-- a sign's number -/
def zch (v : Option Value) : Prop := ∃ x : Int, v = some (.int (iZ x)) ∧ 0 ≤ x ∧ x ≤ 255
theorem iZ_and255 (x : Int32) : ∃ z : Int, x &&& iZ 255 = iZ z ∧ 0 ≤ z ∧ z ≤ 255 := by
  obtain ⟨j, h1, h2⟩ := pk_andE x (m := iZ 255) 8 (by decide)
  exact ⟨(j : Int), by rw [h2, iZ_nI], by omega, by omega⟩
set_option maxHeartbeats 4000000 in
theorem c_J1_charAt (l : Launch) (t : Nat) (i : Int) (h : 0 ≤ i ∧ i < 36) : zRO l yJ1_charAt_3b067 3 64 [.ref t, .int (iZ i)] (zGt t) zch := by
  refine zRO.intro (lo := 43) (nA := 2) (own := RJ1) ⟨ini_J1, zs_J1_charAt_3b067.2.2⟩ (by decide) rfl rfl (by decide +kernel) (Or.inl ⟨rfl, zs_J1_charAt_3b067.1⟩) (Nat.le_of_ble_eq_true rfl) (zGt.warm t) ?_
  intro p e s m below meth c ls C hr hk V hl
  obtain ⟨V, g, hT⟩ := V
  have hl : lv_has ls 2 [(0, .ref t), (1, .int (iZ i))] := hl
  refine lv_iload_n C.1 C.2.1 dJ1_charAt_3b067_0 rfl (lv_at hl 1 rfl) ?_
  refine lv_aload_n C.1 C.2.1 dJ1_charAt_3b067_1 rfl (lv_at hl 0 rfl) ?_
  refine va_tlen (v := iZ 36) C.1 C.2.1 hT va_S.rf rfl dJ1_charAt_3b067_2 ?_
  refine zro_callS C (c_J0_checkIndex l i 36 (by omega)) zs_J0_checkIndex_df160.1 (show _ = some 2 from by decide +kernel) V ml_J1_9 ⟨Nat.le_of_ble_eq_true rfl, Nat.le_of_ble_eq_true rfl⟩ ⟨Nat.le_of_ble_eq_true rfl, Nat.le_of_ble_eq_true rfl⟩ hl (Nat.le_of_ble_eq_true rfl) rfl dJ1_charAt_3b067_3 (fun v hv => ?_)
  subst hv
  refine lv_aload_n C.1 C.2.1 dJ1_charAt_3b067_6 rfl (lv_at hl 0 rfl) ?_
  refine lv_iload_n C.1 C.2.1 dJ1_charAt_3b067_7 rfl (lv_at hl 1 rfl) ?_
  refine zv_tb C hT va_S.rf i.toNat (by omega) (by omega) (by decide) dJ1_charAt_3b067_8 (fun x => ?_)
  refine z_sipush C dJ1_charAt_3b067_9 (by decide) ?_
  refine lv_iand C.1 C.2.1 dJ1_charAt_3b067_12 ?_
  obtain ⟨z, hz, hz2⟩ := iZ_and255 x
  rw [hz]
  refine z_i2c C (by omega) dJ1_charAt_3b067_13 ?_
  exact zro_iret C hr hk dJ1_charAt_3b067_14 (zn_char (by omega)) ⟨z, rfl, hz2⟩
set_option maxHeartbeats 4000000 in
theorem c_J0_isLatin1 (l : Launch) (q : Nat) : zRO l yJ0_isLatin1_aae02 1 20 [.ref q] (zGs q) (fun v => v = some (.int (iZ 1))) := by
  refine zRO.intro (lo := 0) (nA := 0) (own := RJ0) ⟨ini_J0, zi_J0_isLatin1_aae02.2.2.2⟩ (by decide) rfl rfl (by decide +kernel) (Or.inr ⟨rfl, zi_J0_isLatin1_aae02.1, zi_J0_isLatin1_aae02.2.1⟩) (Nat.le_of_ble_eq_true rfl) (zGs.warm q) ?_
  intro p e s m below meth c ls C hr hk V hl
  obtain ⟨V, t, g, g1, g2, g3, g4⟩ := V
  have hl : lv_has ls 1 [(0, .ref q)] := hl
  refine zv_cs (A := fun _ => False) C V va_S.rf fl_J0_38 dJ0_isLatin1_aae02_0 ?_
  refine z_if_eq (tgt := 17) C (by omega) dJ0_isLatin1_aae02_3 (by decide) (fun h => absurd h (by decide)) (fun _ => ?_)
  refine lv_aload_n C.1 C.2.1 dJ0_isLatin1_aae02_6 rfl (lv_at hl 0 rfl) ?_
  refine vk_getf C.1 C.2.1 g2 va_S.rf C.2.2.2.1 (C.2.2.2.2 _ (T0_of fl_J0_15 rfl)) (fun x h => h) dJ0_isLatin1_aae02_7 ?_
  refine z_if_ne (tgt := 17) C (by omega) dJ0_isLatin1_aae02_10 (by decide) (fun h => absurd rfl h) (fun _ => ?_)
  refine z_iconst C dJ0_isLatin1_aae02_13 ?_
  refine lv_goto (tgt := 18) C.1 C.2.1 dJ0_isLatin1_aae02_14 (by decide) ?_
  exact zro_iret C hr hk dJ0_isLatin1_aae02_18 (by decide) rfl
set_option maxHeartbeats 4000000 in
theorem c_J0_charAt (l : Launch) (q : Nat) (i : Int) (h : 0 ≤ i ∧ i < 36) : zRO l yJ0_charAt_5068e 4 85 [.ref q, .int (iZ i)] (zGs q) zch := by
  refine zRO.intro (lo := 64) (nA := 1) (own := RJ0) ⟨ini_J0, zi_J0_charAt_5068e.2.2.2⟩ (by decide) rfl rfl (by decide +kernel) (Or.inr ⟨rfl, zi_J0_charAt_5068e.1, zi_J0_charAt_5068e.2.1⟩) (Nat.le_of_ble_eq_true rfl) (zGs.warm q) ?_
  intro p e s m below meth c ls C hr hk V hl
  have V9 := V
  obtain ⟨V, t, g, g1, g2, g3, g4⟩ := V
  have hl : lv_has ls 2 [(0, .ref q), (1, .int (iZ i))] := hl
  refine lv_aload_n C.1 C.2.1 dJ0_charAt_5068e_0 rfl (lv_at hl 0 rfl) ?_
  refine zro_callV (as := []) C (c_J0_isLatin1 l q) zi_J0_isLatin1_aae02.1 zi_J0_isLatin1_aae02.2.1 (by decide +kernel) g1 V9 ml_J0_492 ⟨Nat.le_of_ble_eq_true rfl, Nat.le_of_ble_eq_true rfl⟩ ⟨Nat.le_of_ble_eq_true rfl, Nat.le_of_ble_eq_true rfl⟩ hl (Nat.le_of_ble_eq_true rfl) rfl dJ0_charAt_5068e_1 (fun v hv => ?_)
  subst hv
  refine z_if_eq (tgt := 16) C (by omega) dJ0_charAt_5068e_4 (by decide) (fun h => absurd h (by decide)) (fun _ => ?_)
  refine lv_aload_n C.1 C.2.1 dJ0_charAt_5068e_7 rfl (lv_at hl 0 rfl) ?_
  refine vk_getf C.1 C.2.1 g3 va_S.rf C.2.2.2.1 (C.2.2.2.2 _ (T0_of fl_J0_9 rfl)) (fun x h => h) dJ0_charAt_5068e_8 ?_
  refine lv_iload_n C.1 C.2.1 dJ0_charAt_5068e_11 rfl (lv_at hl 1 rfl) ?_
  refine zro_callS C (c_J1_charAt l t i h) zs_J1_charAt_3b067.1 (show _ = some 2 from by decide +kernel) ⟨V, g, g4⟩ ml_J0_495 ⟨Nat.le_of_ble_eq_true rfl, Nat.le_of_ble_eq_true rfl⟩ ⟨Nat.le_of_ble_eq_true rfl, Nat.le_of_ble_eq_true rfl⟩ hl (Nat.le_of_ble_eq_true rfl) rfl dJ0_charAt_5068e_12 (fun v hv => ?_)
  obtain ⟨z, rfl, hz⟩ := hv
  exact zro_iret C hr hk dJ0_charAt_5068e_15 (zn_char (by omega)) ⟨z, rfl, hz⟩
end MC
