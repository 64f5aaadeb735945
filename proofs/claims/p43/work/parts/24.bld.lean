/-! ===== builders: contracts of their methods, rows ===== -/
section BA
/-- inside a builder's method: v0 is its array at the method's start -/
def zJn (D : va_G) (cB : ClassId) (b v0 v n m : Nat) (s : State) (H : Heap) (locs : List Loc) : Prop :=
  AtB D cB b v n m s H ∧ va_S (zF b v0 s.heap.size) s.heap H locs ∧ (v = v0 ∨ s.heap.size ≤ v)
/-- a builder's method: of n signs in m bytes it makes n2 signs in some m2 bytes -/
def zBM (l : Launch) (y : MethodName) (fr need mc ms : Nat) (D : va_G) (cB : ClassId) (as : List Value) (n m : Nat) (rv : Nat → Nat → Option Value) (n2 : Nat) (post : Nat → Nat → Nat → Prop) : Prop :=
  ∃ (bytes : ByteArray) (maxL lo : Nat) (ret : Option FieldType), (Cond.instanceMethod y ∈ lw_tbl ∧ Cond.initialized y.cls ∈ lw_tbl ∧ Cond.code y bytes maxL ret ∈ lw_tbl) ∧ need = 8 + (maxL + 11) + lo ∧
    (y.cls ≠ "java/lang/invoke/MethodHandle" ∧ y.cls ≠ "java/lang/invoke/VarHandle" ∧ (parseMethodDescriptor y.desc).map (fun d => d.parameters.length) = some as.length) ∧
    ∀ b v sz : Nat, Met l y (Cond.code y bytes maxL ret :: T0) { frames := fr, cells := mc, slots := ms, locals := lo } (fun a U => a = (Value.ref b :: as).toArray ∧ U.heap.size = sz ∧ AtB D cB b v n m U U.heap ∧ zV (fun q => q = b ∨ q = v) U U.heap)
      (fun _ st oc t => ∃ v2 m2, oc = .returned (rv b v2) ∧ AtB D cB b v2 n2 m2 t t.heap ∧ post v v2 m2 ∧ (v2 = v ∨ sz ≤ v2) ∧ va_F (zF b v sz) st t) mc ms (zF b v sz)
abbrev zB1 (below : List Frame) (D : va_G) (cB : ClassId) (b v : Nat) (av : Array Value) (s : State) (mc ms : Nat) (rv : Nat → Nat → Option Value) (n2 : Nat) (post : Nat → Nat → Nat → Prop) : State → Prop :=
  MQ below (fun _ st oc t => ∃ v2 m2, oc = .returned (rv b v2) ∧ AtB D cB b v2 n2 m2 t t.heap ∧ post v v2 m2 ∧ (v2 = v ∨ s.heap.size ≤ v2) ∧ va_F (zF b v s.heap.size) st t) av s mc ms (zF b v s.heap.size)
theorem zBM.intro {l : Launch} {y : MethodName} {fr need lo nA mc ms : Nat} {D : va_G} {cB : ClassId} {as : List Value} {n m : Nat} {rv : Nat → Nat → Option Value} {n2 : Nat} {post : Nat → Nat → Nat → Prop} {cc : ByteArray} {maxL : Nat} {ret : Option FieldType} {own : String}
    (hz : Cond.instanceMethod y ∈ lw_tbl ∧ Cond.initialized y.cls ∈ lw_tbl ∧ Cond.code y cc maxL ret ∈ lw_tbl) (hy : plainName y.cls = true) (ho : own = y.cls) (hn : need = 8 + (maxL + 11) + lo)
    (hd : y.cls ≠ "java/lang/invoke/MethodHandle" ∧ y.cls ≠ "java/lang/invoke/VarHandle" ∧ (parseMethodDescriptor y.desc).map (fun d => d.parameters.length) = some nA) (hA : as.length = nA) (hle : ∀ b, (lg_sl (.ref b :: as)).length ≤ maxL)
    (body : ∀ (b v : Nat) (p : Program) (e : Env) (s : State) (m0 : MethodId) (below : List Frame) (meth : Method) (c0 : Code) (ls : Array Slot), CallFix p m0 c0 cc maxL s (Value.ref b :: as).toArray T0 own → meth.sig.returnType = ret → meth.locks = false → zJn D cB b v v n m s s.heap [] → zV (zF b v s.heap.size) s s.heap → lv_has ls maxL (lv_args 0 (.ref b :: as)) →
      W p l e { frames := fr, cells := mc, slots := ms, locals := lo } s m0 (Value.ref b :: as).toArray below meth c0 s.heap [] 0 0 (zB1 below D cB b v (Value.ref b :: as).toArray s mc ms rv n2 post) (F0 m0 0 ls [])) : zBM l y fr need mc ms D cB as n m rv n2 post := by
  subst hA
  refine ⟨cc, maxL, lo, ret, hz, hn, hd, fun b v sz => ?_⟩
  refine Met.ofW (ws' := T0) hy rfl ?_
  intro p e s m0 args below meth c0 s₁ B hml hv
  obtain ⟨hv, hsz, hAt, hV⟩ := hv
  subst hv
  subst hsz
  have hts := atoms_spec (ws := Cond.code y cc maxL ret :: T0) B.pre
  have hown : s.vm.findClass own = some m0.cls := by rw [ho]; exact findClass_of_methodNamed B.named
  rw [lg_entry_eq]
  exact body b v p e s m0 below meth c0 _ ⟨B.exec, B.bytes, hml, hown, fun w h => hts w (List.mem_cons_of_mem _ h)⟩ B.returns B.notSynchronized ⟨hAt, va_S.rf, Or.inl rfl⟩ (hV.nar (fun q h1 h2 => by rcases h2 with h2 | h2 | h2; exact Or.inl h2; exact Or.inr h2; omega)) (lv_entry (.ref b :: as) (hle b))
theorem zgB {y : MethodName} {bytes : ByteArray} {maxL : Nat} {ret : Option FieldType} (h : Cond.code y bytes maxL ret ∈ lw_tbl) : GoodIn T0 (Cond.code y bytes maxL ret :: T0) := by
  intro w hw
  have hm : w ∈ T0 := by
    rcases List.mem_cons.mp hw with rfl | hw
    · exact T0_of h rfl
    · exact hw
  exact ⟨hm, T0_good hm⟩
end BA
section BB
variable {p : Program} {l : Launch} {e : Env} {R : Room} {s : State} {m0 : MethodId} {args : Array Value} {below : List Frame} {meth : Method} {c : Code} {H : Heap} {locs : List Loc} {cells slots : Nat} {Q : State → Prop}
variable {cc : ByteArray} {pc nL : Nat} {ls : Array Slot} {rest st : List Value} {own : String} {lv : List (Nat × Value)} {D : va_G} {cB : ClassId} {A : Nat → Prop} {b v v0 n m sz : Nat}
-- fields
theorem zj_getV (C : CallFix p m0 c cc nL s args T0 own) (B : AtB D cB b v n m s H) {idx : Nat} (hlink : Cond.fieldLink own idx RJ5 "value" "[B" ∈ lw_tbl) (d : decode cc pc = .ok (.getfield idx, 3))
    (kk : W p l e R s m0 args below meth c H locs cells slots Q (F0 m0 (pc + 3) ls (.ref v :: rest))) : W p l e R s m0 args below meth c H locs cells slots Q (F0 m0 pc ls (.ref b :: rest)) := by
  obtain ⟨h1, -, ml, h2⟩ := B
  exact va_get (D := D) (cl := vwCl) (tys := [(cB, .byte)]) C.1 C.2.1 C.2.2.2.2 inJ4 C.2.2.2.1 h1.K h2 0 rfl rfl 0 (by decide) (C.2.2.2.2 _ (T0_of hlink rfl)) (fun x h => h) rfl d kk
theorem zj_getC (C : CallFix p m0 c cc nL s args T0 own) (B : AtB D cB b v n m s H) {idx : Nat} (hlink : Cond.fieldLink own idx RJ5 "coder" "B" ∈ lw_tbl) (d : decode cc pc = .ok (.getfield idx, 3))
    (kk : W p l e R s m0 args below meth c H locs cells slots Q (F0 m0 (pc + 3) ls (.int (iZ 0) :: rest))) : W p l e R s m0 args below meth c H locs cells slots Q (F0 m0 pc ls (.ref b :: rest)) := by
  obtain ⟨h1, -, ml, h2⟩ := B
  exact va_get (D := D) (cl := vwCl) (tys := [(cB, .byte)]) C.1 C.2.1 C.2.2.2.2 inJ4 C.2.2.2.1 h1.K h2 0 rfl rfl 1 (by decide) (C.2.2.2.2 _ (T0_of hlink rfl)) (fun x h => h) rfl d kk
theorem zj_getN (C : CallFix p m0 c cc nL s args T0 own) (B : AtB D cB b v n m s H) {idx : Nat} (hlink : Cond.fieldLink own idx RJ5 "count" "I" ∈ lw_tbl) (d : decode cc pc = .ok (.getfield idx, 3))
    (kk : W p l e R s m0 args below meth c H locs cells slots Q (F0 m0 (pc + 3) ls (.int (iZ (n : Int)) :: rest))) : W p l e R s m0 args below meth c H locs cells slots Q (F0 m0 pc ls (.ref b :: rest)) := by
  obtain ⟨h1, -, ml, h2⟩ := B
  exact va_get (D := D) (cl := vwCl) (tys := [(cB, .byte)]) C.1 C.2.1 C.2.2.2.2 inJ4 C.2.2.2.1 h1.K h2 0 rfl rfl 3 (by decide) (C.2.2.2.2 _ (T0_of hlink rfl)) (fun x h => h) rfl d kk
end BB
section BC
variable {p : Program} {l : Launch} {e : Env} {R : Room} {s : State} {m0 : MethodId} {args : Array Value} {below : List Frame} {meth : Method} {c : Code} {H : Heap} {locs : List Loc} {cells slots : Nat} {Q : State → Prop}
variable {cc : ByteArray} {pc nL : Nat} {ls : Array Slot} {rest st : List Value} {own : String} {lv : List (Nat × Value)} {D : va_G} {cB : ClassId} {A : Nat → Prop} {b v v0 n m sz : Nat}
/-- a field is written: what becomes of the heap -/
theorem za_put (C : CallFix p m0 c cc nL s args T0 own) {Cn : String} {T : u_T} {N ci idx : Nat} (hin : ∀ w ∈ u_ws Cn T N, w ∈ T0) (ty0 : Nat → FieldType) (hty : ∀ k, k < N → parseFieldDescriptor (T k).2.2.1 = some (ty0 k)) (hnm : ∀ a, a < N → ∀ b, b < N → a ≠ b → (T a).2.1 ≠ (T b).2.1)
    {tys : List (ClassId × FieldType)} (hK : va_K D vwCl tys s) {a : Nat} {fs : List Value} (hP : va_P D vwCl [(a, .inr (ci, fs))] H) (hS : va_S A s.heap H locs) (hA : A a) (hc : vwCl[ci]? = some (Cn, T, N)) (k : Nat) (hk : k < N) {ref : String} (hlink : Cond.fieldLink own idx ref (T k).2.1 (T k).2.2.1 ∈ lw_tbl) (href : (T k).1 = ref) (hfin : (T k).2.2.2 = false) {ty : FieldType} {v : Value} (hd : parseFieldDescriptor (T k).2.2.1 = some ty) (hn : narrow ty v = v) (hfit : fits ty v = true) (hl : k < fs.length) (d : decode cc pc = .ok (.putfield idx, 3))
    (kk : ∀ H1 locs1, va_P D vwCl [(a, .inr (ci, fs.set k v))] H1 → va_S A s.heap H1 locs1 → (∀ q : Nat, q ≠ a → H1[q]? = H[q]?) → H1.size = H.size → W p l e R s m0 args below meth c H1 locs1 cells slots Q (F0 m0 (pc + 3) ls rest)) : W p l e R s m0 args below meth c H locs cells slots Q (F0 m0 pc ls (v :: .ref a :: rest)) := by
  subst href
  have hts : ∀ y ∈ T0, y.before args s = true := C.2.2.2.2
  have hap := va_apart (own := own) (cl := vwCl) (ci := ci) hts hin ty0 hty hnm hK hc
  obtain ⟨r, h1, cell, q1, q2, q3, q4⟩ := hP 0 _ rfl
  have hr : r = (Cn, T, N) := Option.some.inj (h1.symm.trans hc)
  subst hr
  obtain ⟨hSl, hfc, kC, hkC, hkind⟩ := hK.1 ci _ hc
  obtain ⟨cf, kf, fi, f, hi, hsl⟩ := hSl k hk
  have hlay := hts _ (hin _ (u_in_lay hk))
  unfold u_lay at hlay
  rw [if_neg (by rw [hfin]; decide)] at hlay
  have hst := (u_facts hfc hkC (u_lays hts hin hk) hi).1
  have h6 := u_store hfc hkC hkind hlay hi hd hn hfit
  refine W.putK C.1 C.2.1 (f := f) ⟨C.2.2.2.1, hts _ (T0_of hlink rfl), ⟨_, _, _, hi⟩, hst⟩ (by rw [q2]; exact h6) q1 q3 (by rw [hsl]; exact k2_hasslot (q4 k hk)) rfl rfl d fun H' e1 e2 e3 => ?_
  rw [hsl] at e1 ⊢
  have hat : va_at D vwCl (a, .inr (ci, fs.set k v)) H' := ⟨_, hc, t_OB.to (V := updV (vp_V fs) k v) ⟨_, e1, q2, q3, t_set q4 hap hk v⟩ (fun j _ => vp_updV_set hl v j)⟩
  exact kk H' _ (wP1 hat) (hS.put e2 e3 hA) e3 e2
/-- .. a final one, in a constructor of its class -/
theorem za_putF (C : CallFix p m0 c cc nL s args T0 own) (hin2 : meth.name = "<init>") {Cn : String} {T : u_T} {N ci idx : Nat} (hin : ∀ w ∈ u_ws Cn T N, w ∈ T0) (ty0 : Nat → FieldType) (hty : ∀ k, k < N → parseFieldDescriptor (T k).2.2.1 = some (ty0 k)) (hnm : ∀ a, a < N → ∀ b, b < N → a ≠ b → (T a).2.1 ≠ (T b).2.1)
    {tys : List (ClassId × FieldType)} (hK : va_K D vwCl tys s) {a : Nat} {fs : List Value} (hP : va_P D vwCl [(a, .inr (ci, fs))] H) (hS : va_S A s.heap H locs) (hA : A a) (hc : vwCl[ci]? = some (Cn, T, N)) (k : Nat) (hk : k < N) {ref : String} (hlink : Cond.fieldLink own idx ref (T k).2.1 (T k).2.2.1 ∈ lw_tbl) (href : (T k).1 = ref) (hown : ref = own) (hfin : (T k).2.2.2 = true) {ty : FieldType} {v : Value} (hd : parseFieldDescriptor (T k).2.2.1 = some ty) (hn : narrow ty v = v) (hfit : fits ty v = true) (hl : k < fs.length) (d : decode cc pc = .ok (.putfield idx, 3))
    (kk : ∀ H1 locs1, va_P D vwCl [(a, .inr (ci, fs.set k v))] H1 → va_S A s.heap H1 locs1 → (∀ q : Nat, q ≠ a → H1[q]? = H[q]?) → H1.size = H.size → W p l e R s m0 args below meth c H1 locs1 cells slots Q (F0 m0 (pc + 3) ls rest)) : W p l e R s m0 args below meth c H locs cells slots Q (F0 m0 pc ls (v :: .ref a :: rest)) := by
  subst href
  have hts : ∀ y ∈ T0, y.before args s = true := C.2.2.2.2
  have hap := va_apart (own := own) (cl := vwCl) (ci := ci) hts hin ty0 hty hnm hK hc
  obtain ⟨r, h1, cell, q1, q2, q3, q4⟩ := hP 0 _ rfl
  have hr : r = (Cn, T, N) := Option.some.inj (h1.symm.trans hc)
  subst hr
  obtain ⟨hSl, hfc, kC, hkC, hkind⟩ := hK.1 ci _ hc
  obtain ⟨cf, kf, fi, f, hi, hsl⟩ := hSl k hk
  have hlay := hts _ (hin _ (u_in_lay hk))
  unfold u_lay at hlay
  rw [if_pos hfin] at hlay
  have hst := (u_facts hfc hkC (u_lays hts hin hk) hi).1
  have hcf : m0.cls = cf := by
    obtain ⟨_, _, c', _, _, _, -, -, hf', -, -, -, hown2, -⟩ := Cond.laysFinal_spec hlay
    have e1 : c' = cf := by have := hi.symm.trans hf'; simp at this; exact this.1.symm
    rw [hown] at hown2
    rw [← e1]; exact Option.some.inj (C.2.2.2.1.symm.trans hown2)
  have h6 := u_fits hfc hkC hkind (Or.inr hlay) hi hd hn hfit
  refine W.putFinK C.1 C.2.1 C.2.2.2.1 (hts _ (T0_of hlink rfl)) hi hst hcf hin2 (by rw [q2]; exact h6) q1 q3 (by rw [hsl]; exact k2_hasslot (q4 k hk)) rfl rfl d fun H' e1 e2 e3 => ?_
  rw [hsl] at e1 ⊢
  have hat : va_at D vwCl (a, .inr (ci, fs.set k v)) H' := ⟨_, hc, t_OB.to (V := updV (vp_V fs) k v) ⟨_, e1, q2, q3, t_set q4 hap hk v⟩ (fun j _ => vp_updV_set hl v j)⟩
  exact kk H' _ (wP1 hat) (hS.put e2 e3 hA) e3 e2
theorem zj_putN (C : CallFix p m0 c cc nL s args T0 own) (B : AtB D cB b v n m s H) (hS : va_S A s.heap H locs) (hA : A b) {idx : Nat} (hlink : Cond.fieldLink own idx RJ5 "count" "I" ∈ lw_tbl) {z : Int} (j : Nat) (hz : z = (j : Int)) (d : decode cc pc = .ok (.putfield idx, 3))
    (kk : ∀ H1 locs1, AtB D cB b v j m s H1 → va_S A s.heap H1 locs1 → W p l e R s m0 args below meth c H1 locs1 cells slots Q (F0 m0 (pc + 3) ls rest)) : W p l e R s m0 args below meth c H locs cells slots Q (F0 m0 pc ls (.int (iZ z) :: .ref b :: rest)) := by
  subst hz
  obtain ⟨h1, hne, ml, h2⟩ := B
  exact za_put C inJ4 tyJ4 tyJ4_ok nmJ4 h1.K h2 hS hA rfl 3 (by decide) hlink rfl rfl (ty := .int) rfl rfl rfl (Nat.le_of_ble_eq_true rfl) d (fun H1 locs1 hP hS1 hq _ => kk H1 locs1 ⟨h1.kept (hq v (Ne.symm hne)), hne, ml, hP⟩ hS1)
theorem zj_putV (C : CallFix p m0 c cc nL s args T0 own) (B : AtB D cB b v n m s H) (hS : va_S A s.heap H locs) (hA : A b) {w m2 : Nat} (hw : AtR D cB w m2 s H) (hne2 : b ≠ w) {idx : Nat} (hlink : Cond.fieldLink own idx RJ5 "value" "[B" ∈ lw_tbl) (d : decode cc pc = .ok (.putfield idx, 3))
    (kk : ∀ H1 locs1, AtB D cB b w n m2 s H1 → va_S A s.heap H1 locs1 → W p l e R s m0 args below meth c H1 locs1 cells slots Q (F0 m0 (pc + 3) ls rest)) : W p l e R s m0 args below meth c H locs cells slots Q (F0 m0 pc ls (.ref w :: .ref b :: rest)) := by
  obtain ⟨h1, hne, ml, h2⟩ := B
  exact za_put C inJ4 tyJ4 tyJ4_ok nmJ4 h1.K h2 hS hA rfl 0 (by decide) hlink rfl rfl (ty := .array .byte) rfl rfl rfl (Nat.le_of_ble_eq_true rfl) d (fun H1 locs1 hP hS1 hq _ => kk H1 locs1 ⟨hw.kept (hq w (Ne.symm hne2)), hne2, ml, hP⟩ hS1)
-- calls of a builder's methods
theorem zb_after {mc ms : Nat} {y : MethodName} {rv : Nat → Nat → Option Value} {n2 : Nat} {post : Nat → Nat → Nat → Prop} (hS : va_S A s.heap H locs) (hA : ∀ q, zF b v H.size q → A q)
    (hr : va_Run p l e R s m0 args below meth c H locs cells slots mc ms (F0 m0 pc ls st) rest (fun st oc t => ∃ v2 m2, oc = .returned (rv b v2) ∧ AtB D cB b v2 n2 m2 t t.heap ∧ post v v2 m2 ∧ (v2 = v ∨ H.size ≤ v2) ∧ va_F (zF b v H.size) st t) (zF b v H.size))
    (k : ∀ v2 m2 H1 locs1, post v v2 m2 → (v2 = v ∨ H.size ≤ v2) → AtB D cB b v2 n2 m2 s H1 → va_S A s.heap H1 locs1 → (∀ q : Nat, q < H.size → ¬ (q = b ∨ q = v) → H1[q]? = H[q]?) → H.size ≤ H1.size → W p l e R s m0 args below meth c H1 locs1 (cells + mc) (slots + ms) Q (F0 m0 (pc + 3) ls ((rv b v2).toList ++ rest))) : W p l e R s m0 args below meth c H locs cells slots Q (F0 m0 pc ls st) := by
  intro T9 hT X
  obtain ⟨v9, st₀, t, T', L, h0, X', hL, e1, e2, ⟨v2, m2, hv, hAt, hp, hv2, hF⟩, st2⟩ := hr T9 hT X
  cases hv
  obtain ⟨hz2, hk2⟩ := hF
  rw [h0] at hz2 hk2
  have hss : s.heap.size ≤ H.size := hS.1
  have hS2 : va_S A s.heap T'.heap (locs ++ L) := by
    refine ⟨Nat.le_trans hss (by rw [e1]; exact hz2), fun q h1 h2 => ?_, fun q hq => ?_⟩
    · rw [e1, hk2 q (Nat.lt_of_lt_of_le h1 hss) (fun z => h2 (hA q z))]
      exact hS.2.1 q h1 h2
    · rcases List.mem_append.mp hq with h | h
      · exact hS.2.2 q h
      · exact hA _ (hL q h)
  obtain ⟨t2, a1, b1⟩ := k v2 m2 T'.heap (locs ++ L) hp hv2 (by rw [e1]; exact hAt.moved (by rw [← e2]; exact X'.warmed.alike.symm)) hS2 (fun q h1 h2 => by rw [e1]; exact hk2 q h1 (fun z => by rcases z with z | z | z; exact h2 (Or.inl z); exact h2 (Or.inr z); omega)) (by rw [e1]; exact hz2) T' rfl X'
  exact ⟨t2, st2 t2 a1, b1⟩
/-- by invokevirtual: hsel says that it is this method that is run -/
theorem zb_callV (C : CallFix p m0 c cc nL s args T0 own) (B : AtB D cB b v n m s H) (V : zV A s s.heap) (hS : va_S A s.heap H locs) (hA : ∀ q, zF b v H.size q → A q) {y : MethodName} {fr need mc ms idx : Nat} {as : List Value} {rv : Nat → Nat → Option Value} {n2 : Nat} {post : Nat → Nat → Nat → Prop} (hM : zBM l y fr need mc ms D cB as n m rv n2 post) (hG : Cond.methodLink own idx y ∈ lw_tbl) (hsel : (Cond.selects RJ4 y y).before args s = true)
    (hR : fr + 1 ≤ R.frames ∧ need ≤ R.locals) (hf : cells + mc ≤ R.cells ∧ slots + ms ≤ R.slots) (hl : lv_has ls nL lv) (hcat : (rest.map fun v => v.category).sum ≤ 8) (hst : st = as.reverse ++ .ref b :: rest) (d : decode cc pc = .ok (.invokevirtual idx, 3))
    (k : ∀ v2 m2 H1 locs1, post v v2 m2 → (v2 = v ∨ H.size ≤ v2) → AtB D cB b v2 n2 m2 s H1 → va_S A s.heap H1 locs1 → (∀ q : Nat, q < H.size → ¬ (q = b ∨ q = v) → H1[q]? = H[q]?) → H.size ≤ H1.size → W p l e R s m0 args below meth c H1 locs1 (cells + mc) (slots + ms) Q (F0 m0 (pc + 3) ls ((rv b v2).toList ++ rest))) : W p l e R s m0 args below meth c H locs cells slots Q (F0 m0 pc ls st) := by
  obtain ⟨bytes, maxL, lo, ret, hz, hn, hd, hM⟩ := hM
  have hM := hM b v H.size
  have cw : CallW R s args own RJ4 idx y bytes maxL ret (Cond.code y bytes maxL ret :: T0) { frames := fr, cells := mc, slots := ms, locals := lo } mc ms as.length :=
    ⟨callB_of as.length C.2.2.2.2 (zgB hz.2.2) rfl rfl rfl (C.2.2.2.2 _ (T0_of hz.2.1 rfl)) (C.2.2.2.2 _ (T0_of hG rfl)) hd ⟨hR.1, by rw [hn] at hR; exact hR.2⟩, C.2.2.2.2 _ (T0_of hz.1 rfl), hsel⟩
  obtain ⟨b1, b2, ml, b3⟩ := B
  have hr := va_runV (p := p) (l := l) (e := e) (below := below) (meth := meth) (c := c) (H := H) (locs := locs) (cells := cells) (slots := slots) (g := F0 m0 pc ls st) (rest := rest) C hM cw ⟨fun A U g mk q => ⟨q.1, q.2.1, q.2.2.1.moved (U := U.calling g mk A) (Vm.Alike.refl U.vm), q.2.2.2.warm (State.WarmedH.refl U)⟩, va_recv b1.K b3 (ci := 1) (q0 := 0) rfl rfl, fun U hU hW => ⟨rfl, by rw [hU], by rw [hU]; exact (show AtB D cB b v n m s H from ⟨b1, b2, ml, b3⟩).moved hW.alike, V.at hS hW hU (fun q hq => Or.inl (hA q (hq.elim Or.inl (fun z => Or.inr (Or.inl z)))))⟩⟩ rfl rfl hl.1 hst (lv_room hcat) d hf
  exact zb_after (y := y) (n2 := n2) (post := post) hS hA hr k
/-- by invokespecial: the superclass's -/
theorem zb_callS (C : CallFix p m0 c cc nL s args T0 own) (B : AtB D cB b v n m s H) (V : zV A s s.heap) (hS : va_S A s.heap H locs) (hA : ∀ q, zF b v H.size q → A q) {y : MethodName} {fr need mc ms idx : Nat} {as : List Value} {rv : Nat → Nat → Option Value} {n2 : Nat} {post : Nat → Nat → Nat → Prop} (hM : zBM l y fr need mc ms D cB as n m rv n2 post) (hG : Cond.methodLink own idx y ∈ lw_tbl) (hsm : Cond.sameMethod y.cls y.cls y.name y.desc ∈ lw_tbl) (hsup : Cond.superclass own y.cls ∈ lw_tbl) (hno : y.name ≠ "<init>")
    (hR : fr + 1 ≤ R.frames ∧ need ≤ R.locals) (hf : cells + mc ≤ R.cells ∧ slots + ms ≤ R.slots) (hl : lv_has ls nL lv) (hcat : (rest.map fun v => v.category).sum ≤ 8) (hst : st = as.reverse ++ .ref b :: rest) (d : decode cc pc = .ok (.invokespecial idx, 3))
    (k : ∀ v2 m2 H1 locs1, post v v2 m2 → (v2 = v ∨ H.size ≤ v2) → AtB D cB b v2 n2 m2 s H1 → va_S A s.heap H1 locs1 → (∀ q : Nat, q < H.size → ¬ (q = b ∨ q = v) → H1[q]? = H[q]?) → H.size ≤ H1.size → W p l e R s m0 args below meth c H1 locs1 (cells + mc) (slots + ms) Q (F0 m0 (pc + 3) ls ((rv b v2).toList ++ rest))) : W p l e R s m0 args below meth c H locs cells slots Q (F0 m0 pc ls st) := by
  obtain ⟨bytes, maxL, lo, ret, hz, hn, hd, hM⟩ := hM
  have hM := hM b v H.size
  have hG9 : GoodIn T0 (va_wsSU own idx y (Cond.code y bytes maxL ret :: T0)) := by
    intro w hw
    have hm : w ∈ T0 := by
      rcases List.mem_append.mp hw with hw | hw
      · simp only [List.mem_cons, List.not_mem_nil, or_false] at hw
        rcases hw with rfl | rfl | rfl | rfl | rfl
        · exact T0_of hG rfl
        · exact T0_of hsm rfl
        · exact T0_of hsup rfl
        · exact T0_of hz.1 rfl
        · exact T0_of hz.2.1 rfl
      · exact (zgB hz.2.2 w hw).1
    exact ⟨hm, T0_good hm⟩
  have cw := va_cwSU (R := R) (s := s) (args := args) (own := own) (index := idx) (y := y) (bytes := bytes) (maxL := maxL) (ret := ret) (ws := Cond.code y bytes maxL ret :: T0) (ws' := T0) (rm := { frames := fr, cells := mc, slots := ms, locals := lo }) (mc := mc) (ms := ms) as.length C.2.2.2.2 hG9 rfl rfl rfl ⟨hno, hd.2.2⟩ ⟨hR.1, by rw [hn] at hR; exact hR.2⟩
  obtain ⟨b1, b2, ml, b3⟩ := B
  have hr := va_runSU (p := p) (l := l) (e := e) (below := below) (meth := meth) (c := c) (H := H) (locs := locs) (cells := cells) (slots := slots) (g := F0 m0 pc ls st) (rest := rest) (b1.K.1 1 _ rfl).2 C hM cw ⟨fun A U g mk q => ⟨q.1, q.2.1, q.2.2.1.moved (U := U.calling g mk A) (Vm.Alike.refl U.vm), q.2.2.2.warm (State.WarmedH.refl U)⟩, va_recv b1.K b3 (ci := 1) (q0 := 0) rfl rfl, fun U hU hW => ⟨rfl, by rw [hU], by rw [hU]; exact (show AtB D cB b v n m s H from ⟨b1, b2, ml, b3⟩).moved hW.alike, V.at hS hW hU (fun q hq => Or.inl (hA q (hq.elim Or.inl (fun z => Or.inr (Or.inl z)))))⟩⟩ rfl rfl hl.1 hst (lv_room hcat) d hf
  exact zb_after (y := y) (n2 := n2) (post := post) hS hA hr k
/-- by invokevirtual of what another method overrides -/
theorem zb_callO (C : CallFix p m0 c cc nL s args T0 own) (B : AtB D cB b v n m s H) (V : zV A s s.heap) (hS : va_S A s.heap H locs) (hA : ∀ q, zF b v H.size q → A q) {x y : MethodName} {fr need mc ms idx : Nat} {as : List Value} {rv : Nat → Nat → Option Value} {n2 : Nat} {post : Nat → Nat → Nat → Prop} (hM : zBM l y fr need mc ms D cB as n m rv n2 post) (hG : Cond.methodLink own idx x ∈ lw_tbl) (hsm : Cond.sameMethod x.cls x.cls x.name x.desc ∈ lw_tbl) (him : Cond.instanceMethod x ∈ lw_tbl) {b0 : ByteArray} {l0 : Nat} {r0 : Option FieldType} (hc0 : Cond.code x b0 l0 r0 ∈ lw_tbl) (hsel : Cond.selects RJ4 x y ∈ lw_tbl)
    (hdx : x.cls ≠ "java/lang/invoke/MethodHandle" ∧ x.cls ≠ "java/lang/invoke/VarHandle" ∧ (parseMethodDescriptor x.desc).map (fun d => d.parameters.length) = some as.length)
    (hR : fr + 1 ≤ R.frames ∧ need ≤ R.locals) (hf : cells + mc ≤ R.cells ∧ slots + ms ≤ R.slots) (hl : lv_has ls nL lv) (hcat : (rest.map fun v => v.category).sum ≤ 8) (hst : st = as.reverse ++ .ref b :: rest) (d : decode cc pc = .ok (.invokevirtual idx, 3))
    (k : ∀ v2 m2 H1 locs1, post v v2 m2 → (v2 = v ∨ H.size ≤ v2) → AtB D cB b v2 n2 m2 s H1 → va_S A s.heap H1 locs1 → (∀ q : Nat, q < H.size → ¬ (q = b ∨ q = v) → H1[q]? = H[q]?) → H.size ≤ H1.size → W p l e R s m0 args below meth c H1 locs1 (cells + mc) (slots + ms) Q (F0 m0 (pc + 3) ls ((rv b v2).toList ++ rest))) : W p l e R s m0 args below meth c H locs cells slots Q (F0 m0 pc ls st) := by
  obtain ⟨bytes, maxL, lo, ret, hz, hn, hd, hM⟩ := hM
  have hM := hM b v H.size
  have hG9 : GoodIn T0 (va_wsO own idx RJ4 x.cls x y (Cond.code y bytes maxL ret :: T0)) := by
    intro w hw
    have hm : w ∈ T0 := by
      rcases List.mem_append.mp hw with hw | hw
      · simp only [List.mem_cons, List.not_mem_nil, or_false] at hw
        rcases hw with rfl | rfl | rfl | rfl | rfl | rfl
        · exact T0_of hG rfl
        · exact T0_of hsm rfl
        · exact T0_of him rfl
        · exact T0_of hsel rfl
        · exact T0_of hz.1 rfl
        · exact T0_of hz.2.1 rfl
      · exact (zgB hz.2.2 w hw).1
    exact ⟨hm, T0_good hm⟩
  have cw := va_cwO (R := R) (s := s) (args := args) (own := own) (C := RJ4) (owner := x.cls) (index := idx) (x := x) (y := y) (bytes := bytes) (maxL := maxL) (ret := ret) (ws := Cond.code y bytes maxL ret :: T0) (ws' := T0) (rm := { frames := fr, cells := mc, slots := ms, locals := lo }) (mc := mc) (ms := ms) as.length C.2.2.2.2 hG9 rfl rfl rfl (b0 := b0) (m0 := l0) (r0 := r0) (T0_of hc0 rfl) hdx ⟨hR.1, by rw [hn] at hR; exact hR.2⟩
  obtain ⟨b1, b2, ml, b3⟩ := B
  have hr := va_runU (p := p) (l := l) (e := e) (below := below) (meth := meth) (c := c) (H := H) (locs := locs) (cells := cells) (slots := slots) (g := F0 m0 pc ls st) (rest := rest) C hM cw ⟨fun A U g mk q => ⟨q.1, q.2.1, q.2.2.1.moved (U := U.calling g mk A) (Vm.Alike.refl U.vm), q.2.2.2.warm (State.WarmedH.refl U)⟩, va_recv b1.K b3 (ci := 1) (q0 := 0) rfl rfl, fun U hU hW => ⟨rfl, by rw [hU], by rw [hU]; exact (show AtB D cB b v n m s H from ⟨b1, b2, ml, b3⟩).moved hW.alike, V.at hS hW hU (fun q hq => Or.inl (hA q (hq.elim Or.inl (fun z => Or.inr (Or.inl z)))))⟩⟩ rfl rfl hl.1 hst (lv_room hcat) d hf
  exact zb_after (y := y) (n2 := n2) (post := post) hS hA hr k
end BC
section BD0
def mxi (b c : Int) : Int := if b < c then c else b
theorem mxi_rng (b c : Int) : b ≤ mxi b c ∧ c ≤ mxi b c ∧ (mxi b c = b ∨ mxi b c = c) := by
  unfold mxi
  split
  · exact ⟨by omega, by omega, Or.inr rfl⟩
  · exact ⟨by omega, by omega, Or.inl rfl⟩
def mni (b c : Int) : Int := if c < b then c else b
theorem mni_rng (b c : Int) : mni b c ≤ b ∧ mni b c ≤ c ∧ (mni b c = b ∨ mni b c = c) := by
  unfold mni
  split
  · exact ⟨by omega, by omega, Or.inr rfl⟩
  · exact ⟨by omega, by omega, Or.inl rfl⟩
end BD0
section BD
variable {p : Program} {l : Launch} {e : Env} {R : Room} {s : State} {m : MethodId} {args : Array Value} {below : List Frame} {meth : Method} {c : Code} {H : Heap} {locs : List Loc} {cells slots : Nat} {Q : State → Prop}
variable {cc : ByteArray} {pc nL : Nat} {ls : Array Slot} {rest st : List Value} {own : String} {lv : List (Nat × Value)} {D : va_G} {cB : ClassId} {A : Nat → Prop} {b v v0 n k sz : Nat}
theorem z_ishr0 (C : CallFix p m c cc nL s args T0 own) {x : Int32} (d : decode cc pc = .ok (.ishr, 1)) (kk : W p l e R s m args below meth c H locs cells slots Q (F0 m (pc + 1) ls (.int x :: rest))) : W p l e R s m args below meth c H locs cells slots Q (F0 m pc ls (.int (iZ 0) :: .int x :: rest)) :=
  lv_ishr C.1 C.2.1 d (by rw [show iZ 0 = (0 : Int32) from rfl, sb_shr0]; exact kk)
theorem z_ishl0 (C : CallFix p m c cc nL s args T0 own) {x : Int32} (d : decode cc pc = .ok (.ishl, 1)) (kk : W p l e R s m args below meth c H locs cells slots Q (F0 m (pc + 1) ls (.int x :: rest))) : W p l e R s m args below meth c H locs cells slots Q (F0 m pc ls (.int (iZ 0) :: .int x :: rest)) :=
  lv_ishl C.1 C.2.1 d (by rw [show iZ 0 = (0 : Int32) from rfl, sb_shl0]; exact kk)
theorem z_ldc (C : CallFix p m c cc nL s args T0 own) {idx : Nat} {w : Int32} (n : Int) (hm : Cond.constant own idx w ∈ lw_tbl) (hn : w = iZ n) (d : decode cc pc = .ok (.ldc idx, 2)) (kk : W p l e R s m args below meth c H locs cells slots Q (F0 m (pc + 2) ls (.int (iZ n) :: rest))) : W p l e R s m args below meth c H locs cells slots Q (F0 m pc ls rest) :=
  lv_ldc C.1 C.2.1 C.2.2.2.1 (C.2.2.2.2 _ (T0_of hm rfl)) d (by rw [hn]; exact kk)
theorem z_mxI (C : CallFix p m c cc nL s args T0 own) {x y : Int} {idx : Nat} (hx : -2147483648 ≤ x ∧ x ≤ 2147483647) (hy : -2147483648 ≤ y ∧ y ≤ 2147483647) (hG : Cond.methodLink own idx Lib.Math.max.name ∈ lw_tbl) (hl : lv_has ls nL lv) (hR : 1 ≤ R.frames ∧ 31 ≤ R.locals) (hf : cells ≤ R.cells ∧ slots ≤ R.slots) (hcat : (rest.map fun v => v.category).sum ≤ 16) (d : decode cc pc = .ok (.invokestatic idx, 3))
    (kk : W p l e R s m args below meth c H locs cells slots Q (F0 m (pc + 3) ls (.int (iZ (mxi x y)) :: rest))) : W p l e R s m args below meth c H locs cells slots Q (F0 m pc ls (.int (iZ y) :: .int (iZ x) :: rest)) := by
  refine va_mmax C.1 C.2.1 (C.2.2.1.trans hl.1.symm) C.2.2.2.1 (C.2.2.2.2 _ (T0_of hG rfl)) (C.2.2.2.2 _ (T0_of sc_J9_max_I rfl)) (C.2.2.2.2 _ (T0_of ini_J9 rfl)) (C.2.2.2.2 _ (T0_of cd_mxI rfl)) hR.1 (by omega) hf.1 hf.2 d ?_
  have e1 : (if iZ x < iZ y then iZ y else iZ x) = iZ (mxi x y) := by
    unfold mxi
    by_cases h : x < y
    · rw [if_pos h, if_pos ((iZ_lt hx hy).mpr h)]
    · rw [if_neg h, if_neg (fun g => h ((iZ_lt hx hy).mp g))]
  rw [e1]
  exact kk
theorem z_mnI (C : CallFix p m c cc nL s args T0 own) {x y : Int} {idx : Nat} (hx : -2147483648 ≤ x ∧ x ≤ 2147483647) (hy : -2147483648 ≤ y ∧ y ≤ 2147483647) (hG : Cond.methodLink own idx Lib.Math.min.name ∈ lw_tbl) (hl : lv_has ls nL lv) (hR : 1 ≤ R.frames ∧ 31 ≤ R.locals) (hf : cells ≤ R.cells ∧ slots ≤ R.slots) (hcat : (rest.map fun v => v.category).sum ≤ 16) (d : decode cc pc = .ok (.invokestatic idx, 3))
    (kk : W p l e R s m args below meth c H locs cells slots Q (F0 m (pc + 3) ls (.int (iZ (mni x y)) :: rest))) : W p l e R s m args below meth c H locs cells slots Q (F0 m pc ls (.int (iZ y) :: .int (iZ x) :: rest)) := by
  refine va_mmin C.1 C.2.1 (C.2.2.1.trans hl.1.symm) C.2.2.2.1 (C.2.2.2.2 _ (T0_of hG rfl)) (C.2.2.2.2 _ (T0_of sc_J9_min_I rfl)) (C.2.2.2.2 _ (T0_of ini_J9 rfl)) (C.2.2.2.2 _ (T0_of cd_mnI rfl)) hR.1 (by omega) hf.1 hf.2 d ?_
  have e1 : (if iZ y < iZ x then iZ y else iZ x) = iZ (mni x y) := by
    unfold mni
    by_cases h : y < x
    · rw [if_pos h, if_pos ((iZ_lt hy hx).mpr h)]
    · rw [if_neg h, if_neg (fun g => h ((iZ_lt hy hx).mp g))]
  rw [e1]
  exact kk
/-- a division of what isn't positive -/
theorem z_idivN (C : CallFix p m c cc nL s args T0 own) {z : Int} (w : Nat) (hz : z = -(w : Int)) (hw : w < 2147483648) (d : decode cc pc = .ok (.idiv, 1)) (kk : W p l e R s m args below meth c H locs cells slots Q (F0 m (pc + 1) ls (.int (iZ (-((w / 100 : Nat) : Int))) :: rest))) : W p l e R s m args below meth c H locs cells slots Q (F0 m pc ls (.int (iZ 100) :: .int (iZ z) :: rest)) := by
  subst hz
  refine lv_idiv C.1 C.2.1 d (by decide) ?_
  have e1 : iZ (-(w : Int)) / iZ 100 = iZ (-((w / 100 : Nat) : Int)) := by
    have h := sb_ndiv (w := w) (by omega)
    rw [← iZ_neg, ← iZ_neg, iZ_nI, iZ_nI]
    exact h
  rw [e1]
  exact kk
theorem z_ishr1 (C : CallFix p m c cc nL s args T0 own) {z : Int} (hz : -2147483648 ≤ z ∧ z ≤ 2147483647) (d : decode cc pc = .ok (.ishr, 1)) (kk : W p l e R s m args below meth c H locs cells slots Q (F0 m (pc + 1) ls (.int (iZ (z / 2)) :: rest))) : W p l e R s m args below meth c H locs cells slots Q (F0 m pc ls (.int (iZ 1) :: .int (iZ z) :: rest)) := by
  refine lv_ishr C.1 C.2.1 d ?_
  have e1 : iZ z >>> (iZ 1 &&& 31) = iZ (z / 2) := by
    apply Int32.toInt_inj.mp
    rw [pk_shr (iZ z) (iZ 1 &&& 31) 1 (by decide +kernel), iZ_toInt hz, iZ_toInt (by omega), Int.shiftRight_eq_div_pow]
    rfl
  rw [e1]
  exact kk
theorem z_i2c (C : CallFix p m c cc nL s args T0 own) {z : Int} (hz : 0 ≤ z ∧ z ≤ 65535) (d : decode cc pc = .ok (.i2c, 1)) (kk : W p l e R s m args below meth c H locs cells slots Q (F0 m (pc + 1) ls (.int (iZ z) :: rest))) : W p l e R s m args below meth c H locs cells slots Q (F0 m pc ls (.int (iZ z) :: rest)) :=
  lv_i2c C.1 C.2.1 d (by
    obtain ⟨n, rfl⟩ := Int.eq_ofNat_of_zero_le hz.1
    rw [iZ_nI, pk_char, pk_tn (by omega), Nat.mod_eq_of_lt (by omega)]) kk
theorem zn_char {z : Int} (hz : 0 ≤ z ∧ z ≤ 65535) : narrow .char (.int (iZ z)) = .int (iZ z) := by
  obtain ⟨n, rfl⟩ := Int.eq_ofNat_of_zero_le hz.1
  rw [iZ_nI]
  exact (pk_charN (by omega)).1
theorem zv_cs (C : CallFix p m c cc nL s args T0 own) (V : zV A s s.heap) (hS : va_S A s.heap H locs) {idx : Nat} (hlink : Cond.fieldLink own idx RJ0 "COMPACT_STRINGS" "Z" ∈ lw_tbl) (d : decode cc pc = .ok (.getstatic idx, 3))
    (kk : W p l e R s m args below meth c H locs cells slots Q (F0 m (pc + 3) ls (.int (iZ 1) :: rest))) : W p l e R s m args below meth c H locs cells slots Q (F0 m pc ls rest) :=
  va_gets C.1 C.2.1 V.1 hS C.2.2.2.1 (C.2.2.2.2 _ (T0_of hlink rfl)) (fun x h => h) d kk
theorem zv_gets (C : CallFix p m c cc nL s args T0 own) {Cn fn fd : String} {v : Value} (hZ : va_Z Cn fn fd v A s s.heap) (hS : va_S A s.heap H locs) {idx : Nat} (hlink : Cond.fieldLink own idx Cn fn fd ∈ lw_tbl) (d : decode cc pc = .ok (.getstatic idx, 3))
    (kk : W p l e R s m args below meth c H locs cells slots Q (F0 m (pc + 3) ls (v :: rest))) : W p l e R s m args below meth c H locs cells slots Q (F0 m pc ls rest) :=
  va_gets C.1 C.2.1 hZ hS C.2.2.2.1 (C.2.2.2.2 _ (T0_of hlink rfl)) (fun x h => h) d kk
theorem zv_tb (C : CallFix p m c cc nL s args T0 own) {t N : Nat} {g : Nat → Int32} (hT : va_T .byte t N (fun j => .int (g j)) A s s.heap) (hS : va_S A s.heap H locs) {z : Int} (j : Nat) (hz : z = (j : Int)) (hj : j < N) (hN : N < 2147483648) (d : decode cc pc = .ok (.baload, 1))
    (kk : ∀ x : Int32, W p l e R s m args below meth c H locs cells slots Q (F0 m (pc + 1) ls (.int x :: rest))) : W p l e R s m args below meth c H locs cells slots Q (F0 m pc ls (.int (iZ z) :: .ref t :: rest)) :=
  va_tb C.1 C.2.1 hT hS (iZ_in (n := N) (by omega) hN) rfl d (kk _)
theorem zJn.Av {D : va_G} {cB : ClassId} {b v0 v n k : Nat} {s : State} {H : Heap} {locs : List Loc} (B : zJn D cB b v0 v n k s H locs) : zF b v0 s.heap.size v := B.2.2.elim (fun h => Or.inr (Or.inl h)) (fun h => Or.inr (Or.inr h))
theorem zJn.sub {D : va_G} {cB : ClassId} {b v0 v n k : Nat} {s : State} {H : Heap} {locs : List Loc} (B : zJn D cB b v0 v n k s H locs) : ∀ q, zF b v H.size q → zF b v0 s.heap.size q := by
  intro q h
  rcases h with h | h | h
  · exact Or.inl h
  · rw [h]; exact B.Av
  · exact Or.inr (Or.inr (Nat.le_trans B.2.1.1 h))
theorem zJn.nxt {D : va_G} {cB : ClassId} {b v0 v n k v2 n2 k2 : Nat} {s : State} {H H1 : Heap} {locs locs1 : List Loc} (B : zJn D cB b v0 v n k s H locs) (h1 : v2 = v ∨ H.size ≤ v2) (h2 : AtB D cB b v2 n2 k2 s H1) (h3 : va_S (zF b v0 s.heap.size) s.heap H1 locs1) : zJn D cB b v0 v2 n2 k2 s H1 locs1 :=
  ⟨h2, h3, h1.elim (fun h => by rw [h]; exact B.2.2) (fun h => Or.inr (Nat.le_trans B.2.1.1 h))⟩
theorem zj_callV (C : CallFix p m c cc nL s args T0 own) (B : zJn D cB b v0 v n k s H locs) (V : zV (zF b v0 s.heap.size) s s.heap) {y : MethodName} {fr need mc ms idx : Nat} {as : List Value} {rv : Nat → Nat → Option Value} {n2 : Nat} {post : Nat → Nat → Nat → Prop} (hM : zBM l y fr need mc ms D cB as n k rv n2 post) (hG : Cond.methodLink own idx y ∈ lw_tbl) (hsel : (Cond.selects RJ4 y y).before args s = true)
    (hR : fr + 1 ≤ R.frames ∧ need ≤ R.locals) (hf : cells + mc ≤ R.cells ∧ slots + ms ≤ R.slots) (hl : lv_has ls nL lv) (hcat : (rest.map fun v => v.category).sum ≤ 8) (hst : st = as.reverse ++ .ref b :: rest) (d : decode cc pc = .ok (.invokevirtual idx, 3))
    (kk : ∀ v2 k2 H1 locs1, post v v2 k2 → zJn D cB b v0 v2 n2 k2 s H1 locs1 → W p l e R s m args below meth c H1 locs1 (cells + mc) (slots + ms) Q (F0 m (pc + 3) ls ((rv b v2).toList ++ rest))) : W p l e R s m args below meth c H locs cells slots Q (F0 m pc ls st) :=
  zb_callV C B.1 V B.2.1 B.sub hM hG hsel hR hf hl hcat hst d (fun v2 m2 H1 locs1 hp hv hB hS _ _ => kk v2 m2 H1 locs1 hp (B.nxt hv hB hS))
theorem zj_callS (C : CallFix p m c cc nL s args T0 own) (B : zJn D cB b v0 v n k s H locs) (V : zV (zF b v0 s.heap.size) s s.heap) {y : MethodName} {fr need mc ms idx : Nat} {as : List Value} {rv : Nat → Nat → Option Value} {n2 : Nat} {post : Nat → Nat → Nat → Prop} (hM : zBM l y fr need mc ms D cB as n k rv n2 post) (hG : Cond.methodLink own idx y ∈ lw_tbl) (hsm : Cond.sameMethod y.cls y.cls y.name y.desc ∈ lw_tbl) (hsup : Cond.superclass own y.cls ∈ lw_tbl) (hno : y.name ≠ "<init>")
    (hR : fr + 1 ≤ R.frames ∧ need ≤ R.locals) (hf : cells + mc ≤ R.cells ∧ slots + ms ≤ R.slots) (hl : lv_has ls nL lv) (hcat : (rest.map fun v => v.category).sum ≤ 8) (hst : st = as.reverse ++ .ref b :: rest) (d : decode cc pc = .ok (.invokespecial idx, 3))
    (kk : ∀ v2 k2 H1 locs1, post v v2 k2 → zJn D cB b v0 v2 n2 k2 s H1 locs1 → W p l e R s m args below meth c H1 locs1 (cells + mc) (slots + ms) Q (F0 m (pc + 3) ls ((rv b v2).toList ++ rest))) : W p l e R s m args below meth c H locs cells slots Q (F0 m pc ls st) :=
  zb_callS C B.1 V B.2.1 B.sub hM hG hsm hsup hno hR hf hl hcat hst d (fun v2 m2 H1 locs1 hp hv hB hS _ _ => kk v2 m2 H1 locs1 hp (B.nxt hv hB hS))
-- ends
theorem zj_iret {as : List Value} {mc ms : Nat} {rv : Nat → Nat → Option Value} {n2 : Nat} {post : Nat → Nat → Nat → Prop} {r : Int32} (C : CallFix p m c cc nL s as.toArray T0 own) (B : zJn D cB b v0 v n k s H locs) (hr : meth.sig.returnType = some .int) (hk : meth.locks = false) (h1 : cells ≤ mc) (h2 : slots ≤ ms) (d : decode cc pc = .ok (.ireturn, 1)) (hv : some (.int r) = rv b v) (hn : n = n2) (hp : post v0 v k) : W p l e R s m as.toArray below meth c H locs cells slots (zB1 below D cB b v0 as.toArray s mc ms rv n2 post) (F0 m pc ls [.int r]) := by
  subst hn
  refine W.widen (k := mc) (n := ms) h1 h2 ?_
  exact W.iret C.1 C.2.1 hr (fun t ht hW => ⟨v, k, by rw [← hv], by rw [ht]; exact B.1.moved hW.alike, hp, B.2.2, B.2.1.F ht⟩) B.2.1.2.2 d hk
theorem zj_zret {as : List Value} {mc ms : Nat} {rv : Nat → Nat → Option Value} {n2 : Nat} {post : Nat → Nat → Nat → Prop} {r : Int32} {ty : FieldType} (C : CallFix p m c cc nL s as.toArray T0 own) (B : zJn D cB b v0 v n k s H locs) (hr : meth.sig.returnType = some ty) (hk : meth.locks = false) (h1 : cells ≤ mc) (h2 : slots ≤ ms) (d : decode cc pc = .ok (.ireturn, 1)) (hnw : narrow ty (.int r) = .int r) (hv : some (.int r) = rv b v) (hn : n = n2) (hp : post v0 v k) : W p l e R s m as.toArray below meth c H locs cells slots (zB1 below D cB b v0 as.toArray s mc ms rv n2 post) (F0 m pc ls [.int r]) := by
  subst hn
  refine W.widen (k := mc) (n := ms) h1 h2 ?_
  exact W.zret C.1 C.2.1 hr hnw (fun t ht hW => ⟨v, k, by rw [← hv], by rw [ht]; exact B.1.moved hW.alike, hp, B.2.2, B.2.1.F ht⟩) B.2.1.2.2 d hk
theorem zj_aret {as : List Value} {mc ms : Nat} {rv : Nat → Nat → Option Value} {n2 : Nat} {post : Nat → Nat → Nat → Prop} {r : Nat} {rt : FieldType} (C : CallFix p m c cc nL s as.toArray T0 own) (B : zJn D cB b v0 v n k s H locs) (hr : meth.sig.returnType = some rt) (hrt : (∃ n, rt = .object n) ∨ ∃ t, rt = .array t) (hk : meth.locks = false) (h1 : cells ≤ mc) (h2 : slots ≤ ms) (d : decode cc pc = .ok (.areturn, 1)) (hv : some (.ref r) = rv b v) (hn : n = n2) (hp : post v0 v k) : W p l e R s m as.toArray below meth c H locs cells slots (zB1 below D cB b v0 as.toArray s mc ms rv n2 post) (F0 m pc ls [.ref r]) := by
  subst hn
  refine W.widen (k := mc) (n := ms) h1 h2 ?_
  exact W.aret C.1 C.2.1 hr hrt (Or.inr ⟨r, rfl⟩) (fun t ht hW => ⟨v, k, by rw [← hv], by rw [ht]; exact B.1.moved hW.alike, hp, B.2.2, B.2.1.F ht⟩) B.2.1.2.2 d hk
theorem zj_vret {as : List Value} {mc ms : Nat} {rv : Nat → Nat → Option Value} {n2 : Nat} {post : Nat → Nat → Nat → Prop} (C : CallFix p m c cc nL s as.toArray T0 own) (B : zJn D cB b v0 v n k s H locs) (hr : meth.sig.returnType = none) (hk : meth.locks = false) (h1 : cells ≤ mc) (h2 : slots ≤ ms) (d : decode cc pc = .ok (.return_, 1)) (hv : none = rv b v) (hn : n = n2) (hp : post v0 v k) : W p l e R s m as.toArray below meth c H locs cells slots (zB1 below D cB b v0 as.toArray s mc ms rv n2 post) (F0 m pc ls []) := by
  subst hn
  refine W.widen (k := mc) (n := ms) h1 h2 ?_
  exact W.vret C.1 C.2.1 hr (fun t ht hW => ⟨v, k, by rw [← hv], by rw [ht]; exact B.1.moved hW.alike, hp, B.2.2, B.2.1.F ht⟩) B.2.1.2.2 d hk
end BD
section BE
/-- a static method that makes a new array of q bytes out of one of k bytes -/
def zRM (l : Launch) (y : MethodName) (fr need mc ms : Nat) (D : va_G) (cB : ClassId) (as : Nat → List Value) (nA k q : Nat) : Prop :=
  ∃ (bytes : ByteArray) (maxL lo : Nat) (ret : Option FieldType), zS y bytes maxL ret ∧ need = 8 + (maxL + 11) + lo ∧
    (y.cls ≠ "java/lang/invoke/MethodHandle" ∧ y.cls ≠ "java/lang/invoke/VarHandle" ∧ (parseMethodDescriptor y.desc).map (fun d => d.parameters.length) = some nA ∧ ∀ v, (as v).length = nA) ∧
    ∀ v sz : Nat, Met l y (Cond.code y bytes maxL ret :: T0) { frames := fr, cells := mc, slots := ms, locals := lo } (fun a U => a = (as v).toArray ∧ U.heap.size = sz ∧ AtR D cB v k U U.heap ∧ zVt U)
      (fun _ st oc t => ∃ w, oc = .returned (some (.ref w)) ∧ sz ≤ w ∧ AtR D cB w q t t.heap ∧ va_F (fun z => sz ≤ z) st t) mc ms (fun z => sz ≤ z)
theorem zRM.intro {l : Launch} {y : MethodName} {fr need lo nA mc ms : Nat} {D : va_G} {cB : ClassId} {as : Nat → List Value} {k q : Nat} {cc : ByteArray} {maxL : Nat} {ret : Option FieldType} {own : String}
    (hz : zS y cc maxL ret) (hy : plainName y.cls = true) (ho : own = y.cls) (hn : need = 8 + (maxL + 11) + lo)
    (hd : y.cls ≠ "java/lang/invoke/MethodHandle" ∧ y.cls ≠ "java/lang/invoke/VarHandle" ∧ (parseMethodDescriptor y.desc).map (fun d => d.parameters.length) = some nA) (hA : ∀ v, (as v).length = nA) (hle : ∀ v, (lg_sl (as v)).length ≤ maxL)
    (body : ∀ (v : Nat) (p : Program) (e : Env) (s : State) (m : MethodId) (below : List Frame) (meth : Method) (c : Code) (ls : Array Slot), CallFix p m c cc maxL s (as v).toArray T0 own → meth.sig.returnType = ret → meth.locks = false → AtR D cB v k s s.heap → zVt s → lv_has ls maxL (lv_args 0 (as v)) →
      W p l e { frames := fr, cells := mc, slots := ms, locals := lo } s m (as v).toArray below meth c s.heap [] 0 0 (MQ below (fun _ st oc t => ∃ w, oc = .returned (some (.ref w)) ∧ s.heap.size ≤ w ∧ AtR D cB w q t t.heap ∧ va_F (fun z => s.heap.size ≤ z) st t) (as v).toArray s mc ms (fun z => s.heap.size ≤ z)) (F0 m 0 ls [])) : zRM l y fr need mc ms D cB as nA k q := by
  refine ⟨cc, maxL, lo, ret, hz, hn, ⟨hd.1, hd.2.1, hd.2.2, hA⟩, fun v sz => ?_⟩
  refine Met.ofW (ws' := T0) hy rfl ?_
  intro p e s m args below meth c s₁ B hml hv
  obtain ⟨hv, hsz, hAt, hV⟩ := hv
  subst hv
  subst hsz
  have hts := atoms_spec (ws := Cond.code y cc maxL ret :: T0) B.pre
  have hown : s.vm.findClass own = some m.cls := by rw [ho]; exact findClass_of_methodNamed B.named
  rw [lg_entry_eq]
  exact body v p e s m below meth c _ ⟨B.exec, B.bytes, hml, hown, fun w h => hts w (List.mem_cons_of_mem _ h)⟩ B.returns B.notSynchronized hAt hV (lv_entry (as v) (hle v))
/-- the writing of a number's signs into an array -/
def zGC (l : Launch) (fr need : Nat) (D : va_G) (cB : ClassId) (z q : Int) (k : Nat) : Prop :=
  ∃ lo : Nat, need = 8 + (7 + 11) + lo ∧ ∀ v sz : Nat, Met l yJ6_getChars_ba4f3 (Cond.code yJ6_getChars_ba4f3 cJ6_getChars_ba4f3 7 (some .int) :: T0) { frames := fr, cells := 0, slots := 0, locals := lo } (fun a U => a = ([.int (iZ z), .int (iZ q), .ref v] : List Value).toArray ∧ U.heap.size = sz ∧ AtR D cB v k U U.heap ∧ zV (fun x => x = v) U U.heap)
      (fun _ st oc t => (∃ x : Int32, oc = .returned (some (.int x))) ∧ AtR D cB v k t t.heap ∧ va_F (fun x => x = v) st t) 0 0 (fun x => x = v)
end BE
section BF
variable {p : Program} {l : Launch} {e : Env} {R : Room} {s : State} {m : MethodId} {args : Array Value} {below : List Frame} {meth : Method} {c : Code} {H : Heap} {locs : List Loc} {cells slots : Nat} {Q : State → Prop}
variable {cc : ByteArray} {pc nL : Nat} {ls : Array Slot} {rest st : List Value} {own : String} {lv : List (Nat × Value)} {D : va_G} {cB : ClassId} {A : Nat → Prop} {b v v0 n k sz : Nat}
theorem zr_callN (C : CallFix p m c cc nL s args T0 own) (hB : AtR D cB v k s H) (V : zVt s) (hS : va_S A s.heap H locs) (hA : ∀ q, H.size ≤ q → A q) {y : MethodName} {fr need mc ms idx nA q : Nat} {as : Nat → List Value} (hM : zRM l y fr need mc ms D cB as nA k q) (hG : Cond.methodLink own idx y ∈ lw_tbl)
    (hR : fr + 1 ≤ R.frames ∧ need ≤ R.locals) (hf : cells + mc ≤ R.cells ∧ slots + ms ≤ R.slots) (hl : lv_has ls nL lv) (hcat : (rest.map fun v => v.category).sum ≤ 8) (hst : st = (as v).reverse ++ rest) (d : decode cc pc = .ok (.invokestatic idx, 3))
    (kk : ∀ w H1 locs1, H.size ≤ w → AtR D cB w q s H1 → va_S A s.heap H1 locs1 → (∀ x : Nat, x < H.size → H1[x]? = H[x]?) → H.size ≤ H1.size → W p l e R s m args below meth c H1 locs1 (cells + mc) (slots + ms) Q (F0 m (pc + 3) ls (.ref w :: rest))) : W p l e R s m args below meth c H locs cells slots Q (F0 m pc ls st) := by
  obtain ⟨bytes, maxL, lo, ret, hz, hn, hd, hM⟩ := hM
  have hM := hM v H.size
  have cw := va_cwS (R := R) (own := own) (index := idx) (y := y) (bytes := bytes) (maxL := maxL) (ret := ret) (ws := Cond.code y bytes maxL ret :: T0) (ws' := T0) (rm := { frames := fr, cells := mc, slots := ms, locals := lo }) (mc := mc) (ms := ms) nA C.2.2.2.2 (zg hG hz) rfl rfl rfl ⟨hd.1, hd.2.1, hd.2.2.1⟩ ⟨hR.1, by rw [hn] at hR; exact hR.2⟩
  have hr := va_runS (p := p) (l := l) (e := e) (below := below) (meth := meth) (c := c) (H := H) (locs := locs) (cells := cells) (slots := slots) (g := F0 m pc ls st) (rest := rest) C hM cw ⟨fun A U g mk q => ⟨q.1, q.2.1, q.2.2.1.moved (U := U.calling g mk A) (Vm.Alike.refl U.vm), q.2.2.2.warm (State.WarmedH.refl U)⟩, fun U hU hW => ⟨rfl, by rw [hU], by rw [hU]; exact hB.moved hW.alike, V.warm hW⟩⟩ rfl (hd.2.2.2 v) hl.1 hst (lv_room hcat) d hf
  intro T9 hT X
  obtain ⟨v9, st₀, t, T', L, h0, X', hL, e1, e2, ⟨w, hv, hw, hAt, hF⟩, st2⟩ := hr T9 hT X
  cases hv
  obtain ⟨hz2, hk2⟩ := hF
  rw [h0] at hz2 hk2
  have hss : s.heap.size ≤ H.size := hS.1
  have hke : ∀ x : Nat, x < H.size → T'.heap[x]? = H[x]? := fun x hx => by rw [e1]; exact hk2 x hx (by omega)
  have hS2 : va_S A s.heap T'.heap (locs ++ L) := by
    refine ⟨Nat.le_trans hss (by rw [e1]; exact hz2), fun q h1 h2 => ?_, fun q hq => ?_⟩
    · rw [hke q (Nat.lt_of_lt_of_le h1 hss)]
      exact hS.2.1 q h1 h2
    · rcases List.mem_append.mp hq with h | h
      · exact hS.2.2 q h
      · exact hA _ (hL q h)
  obtain ⟨t2, a1, b1⟩ := kk w T'.heap (locs ++ L) hw (by rw [e1]; exact hAt.moved (by rw [← e2]; exact X'.warmed.alike.symm)) hS2 hke (by rw [e1]; exact hz2) T' rfl X'
  exact ⟨t2, st2 t2 a1, b1⟩
theorem zr_callG (C : CallFix p m c cc nL s args T0 own) (hB : AtR D cB v k s H) (V : zV A s s.heap) (hS : va_S A s.heap H locs) (hA : A v) {fr need idx : Nat} {z q : Int} (hM : zGC l fr need D cB z q k) (hG : Cond.methodLink own idx yJ6_getChars_ba4f3 ∈ lw_tbl)
    (hR : fr + 1 ≤ R.frames ∧ need ≤ R.locals) (hf : cells ≤ R.cells ∧ slots ≤ R.slots) (hl : lv_has ls nL lv) (hcat : (rest.map fun v => v.category).sum ≤ 8) (hst : st = .ref v :: .int (iZ q) :: .int (iZ z) :: rest) (d : decode cc pc = .ok (.invokestatic idx, 3))
    (kk : ∀ (x : Int32) H1 locs1, AtR D cB v k s H1 → va_S A s.heap H1 locs1 → (∀ q : Nat, q ≠ v → q < H.size → H1[q]? = H[q]?) → W p l e R s m args below meth c H1 locs1 cells slots Q (F0 m (pc + 3) ls (.int x :: rest))) : W p l e R s m args below meth c H locs cells slots Q (F0 m pc ls st) := by
  obtain ⟨lo, hn, hM⟩ := hM
  have hM := hM v H.size
  have cw := va_cwS (R := R) (own := own) (index := idx) (y := yJ6_getChars_ba4f3) (bytes := cJ6_getChars_ba4f3) (maxL := 7) (ret := some .int) (ws := Cond.code yJ6_getChars_ba4f3 cJ6_getChars_ba4f3 7 (some .int) :: T0) (ws' := T0) (rm := { frames := fr, cells := 0, slots := 0, locals := lo }) (mc := 0) (ms := 0) 3 C.2.2.2.2 (zg hG zs_J6_getChars_ba4f3) rfl rfl rfl (by decide +kernel) ⟨hR.1, by rw [hn] at hR; exact hR.2⟩
  have hr := va_runS (p := p) (l := l) (e := e) (below := below) (meth := meth) (c := c) (H := H) (locs := locs) (cells := cells) (slots := slots) (g := F0 m pc ls st) (rest := rest) (As := [.int (iZ z), .int (iZ q), .ref v]) C hM cw ⟨fun A U g mk q => ⟨q.1, q.2.1, q.2.2.1.moved (U := U.calling g mk A) (Vm.Alike.refl U.vm), q.2.2.2.warm (State.WarmedH.refl U)⟩, fun U hU hW => ⟨rfl, by rw [hU], by rw [hU]; exact hB.moved hW.alike, V.at hS hW hU (fun x hx => Or.inl (by rw [hx]; exact hA))⟩⟩ rfl rfl hl.1 hst (lv_room hcat) d (by simpa using hf)
  intro T9 hT X
  obtain ⟨v9, st₀, t, T', L, h0, X', hL, e1, e2, ⟨⟨x, hv⟩, hAt, hF⟩, st2⟩ := hr T9 hT X
  cases hv
  obtain ⟨hz2, hk2⟩ := hF
  rw [h0] at hz2 hk2
  have hss : s.heap.size ≤ H.size := hS.1
  have hS2 : va_S A s.heap T'.heap (locs ++ L) := by
    refine ⟨Nat.le_trans hss (by rw [e1]; exact hz2), fun q h1 h2 => ?_, fun q hq => ?_⟩
    · rw [e1, hk2 q (Nat.lt_of_lt_of_le h1 hss) (fun g => h2 (by rw [g]; exact hA))]
      exact hS.2.1 q h1 h2
    · rcases List.mem_append.mp hq with h | h
      · exact hS.2.2 q h
      · rw [hL q h]; exact hA
  obtain ⟨t2, a1, b1⟩ := kk x T'.heap (locs ++ L) (by rw [e1]; exact hAt.moved (by rw [← e2]; exact X'.warmed.alike.symm)) hS2 (fun q h1 h2 => by rw [e1]; exact hk2 q h2 h1) T' rfl X'
  exact ⟨t2, st2 t2 a1, b1⟩
end BF
section BG
/-- how many signs a number below 1000 takes -/
def ssz (z : Int) : Int := if z < 10 then 1 else if z < 100 then 2 else 3
theorem ssz_rng (z : Int) : 1 ≤ ssz z ∧ ssz z ≤ 3 := by
  unfold ssz
  split
  · omega
  · split <;> omega
theorem ssz_eq (z x : Int) (h : (x = 1 ∧ z < 10) ∨ (x = 2 ∧ 10 ≤ z ∧ z < 100) ∨ (x = 3 ∧ 100 ≤ z)) : ssz z = x := by
  unfold ssz
  split
  · omega
  · split <;> omega
theorem ssz_100 {w : Nat} (h : 100 ≤ w) (h2 : w ≤ 999) : ssz (w : Int) = 3 ∧ ssz ((w / 100 : Nat) : Int) = 1 :=
  ⟨ssz_eq _ _ (by omega), ssz_eq _ _ (by omega)⟩
theorem ssz_10 {w : Nat} (h : 10 ≤ w) : 2 ≤ ssz (w : Int) := by
  unfold ssz
  split
  · omega
  · split <;> omega
/-- a builder's next capacity -/
def ncp (q : Int) (k : Nat) : Nat := ((k : Int) + mxi (q - (k : Int)) ((k : Int) + 2)).toNat
theorem ncp_rng {q : Int} {k : Nat} (h : (k : Int) < q) : q ≤ ((ncp q k : Nat) : Int) ∧ ((ncp q k : Nat) : Int) ≤ 2 * q := by
  have h1 := mxi_rng (q - (k : Int)) ((k : Int) + 2)
  unfold ncp
  omega
theorem ncpE (q : Int) (k : Nat) (h : (k : Int) < q) : q ≤ ((ncp q k : Nat) : Int) ∧ ((ncp q k : Nat) : Int) ≤ 2 * q := ncp_rng h
def sgn (z : Int) : Int := if z < 10 then 48 + z else 97 + (z - 10)
theorem sgn_rng (z : Int) (h : 0 ≤ z ∧ z ≤ 35) : 0 ≤ sgn z ∧ sgn z ≤ 255 := by
  unfold sgn
  split <;> omega
end BG
