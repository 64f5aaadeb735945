/-! ===== an object with six longs: Carryfree (kind 2 of vwCl), CarryfreeModel (kind 4) ===== -/
section OA
/-- the world of one object: its row of longs at a, its other fields -/
def wO (ci : Nat) (cJ : ClassId) (o a : Nat) (c : Nat → Nat) (fs : List Value) : va_W := [(o, .inr (ci, .ref a :: fs)), (a, .inl (cJ, 6, .inr (.inl (fun k => lN (c k)))))]
def zu (c : Nat → Nat) (k x : Nat) : Nat → Nat := fun j => if j = k then x else c j
theorem zu_s {c : Nat → Nat} {k x : Nat} : zu c k x k = x := if_pos rfl
theorem zu_lt {c : Nat → Nat} {k x B : Nat} (h : ∀ j, c j < B) (hx : x < B) : ∀ j, zu c k x j < B := by
  intro j
  unfold zu
  split
  · exact hx
  · exact h j
theorem zu_L (c : Nat → Nat) (k x : Nat) : vp_updL (fun j => lN (c j)) k (lN x) = fun j => lN (zu c k x j) := by
  funext j
  simp only [vp_updL, zu]
  split <;> rfl
/-- the object in a heap; its numbers are below 2 ^ 64 -/
def AtO (D : va_G) (ci : Nat) (cJ : ClassId) (o a : Nat) (c : Nat → Nat) (fs : List Value) (U : State) (H : Heap) : Prop :=
  va_P D vwCl (wO ci cJ o a c fs) H ∧ va_K D vwCl [(cJ, .long)] U ∧ o ≠ a ∧ ∀ k, c k < 8589934592
/-- what its methods may change -/
def zF (o a sz : Nat) : Nat → Prop := fun q => q = o ∨ q = a ∨ sz ≤ q
theorem AtO.D {D : va_G} {ci : Nat} {cJ : ClassId} {o a sz : Nat} {c : Nat → Nat} {fs : List Value} {U : State} {H : Heap} (h : AtO D ci cJ o a c fs U H) : va_D (zF o a sz) (wO ci cJ o a c fs) := by
  refine ⟨fun i j p q hp hq hpq => ?_, fun k q hk => ?_⟩
  · match i, j, hp, hq with
    | 0, 0, _, _ => rfl
    | 1, 1, _, _ => rfl
    | 0, 1, hp, hq => cases hp; cases hq; exact absurd hpq h.2.2.1
    | 1, 0, hp, hq => cases hp; cases hq; exact absurd hpq.symm h.2.2.1
    | i + 2, _, hp, _ => simp [wO] at hp
    | 0, j + 2, _, hq => simp [wO] at hq
    | 1, j + 2, _, hq => simp [wO] at hq
  · match k, hk with
    | 0, hk => cases hk; exact Or.inl rfl
    | 1, hk => cases hk; exact Or.inr (Or.inl rfl)
    | k + 2, hk => simp [wO] at hk
theorem AtO.moved {D : va_G} {ci : Nat} {cJ : ClassId} {o a : Nat} {c : Nat → Nat} {fs : List Value} {u U : State} {H : Heap} (hvm : u.vm.Alike U.vm) (h : AtO D ci cJ o a c fs u H) : AtO D ci cJ o a c fs U H := ⟨h.1, va_K.moved hvm h.2.1, h.2.2.1, h.2.2.2⟩
theorem AtO.lt {D : va_G} {ci : Nat} {cJ : ClassId} {o a : Nat} {c : Nat → Nat} {fs : List Value} {U : State} {H : Heap} (h : AtO D ci cJ o a c fs U H) : o < H.size ∧ a < H.size := ⟨(h.1 0 _ rfl).lt, (h.1 1 _ rfl).lt⟩
theorem AtO.kept {D : va_G} {ci : Nat} {cJ : ClassId} {o a : Nat} {c : Nat → Nat} {fs : List Value} {U : State} {H H1 : Heap} (h : AtO D ci cJ o a c fs U H) (ho : H1[o]? = H[o]?) (ha : H1[a]? = H[a]?) : AtO D ci cJ o a c fs U H1 := by
  refine ⟨h.1.kept (fun k q hk => ?_), h.2⟩
  match k, hk with
  | 0, hk => cases hk; exact ho
  | 1, hk => cases hk; exact ha
  | k + 2, hk => simp [wO] at hk
/-- inside one of its methods: s is the state at the method's start -/
def zIn (D : va_G) (ci : Nat) (cJ : ClassId) (o a : Nat) (c : Nat → Nat) (fs : List Value) (s : State) (H : Heap) (locs : List Loc) : Prop :=
  AtO D ci cJ o a c fs s H ∧ va_S (zF o a s.heap.size) s.heap H locs
/-- a method of the object, that returns: rv says what, c2 and fs2 are what is held then -/
def zA (l : Launch) (y : MethodName) (fr need mc ms : Nat) (D : va_G) (ci : Nat) (cJ : ClassId) (o a : Nat) (as : List Value) (c : Nat → Nat) (fs : List Value) (rv : Option Value → Prop) (c2 : Nat → Nat) (fs2 : List Value) : Prop :=
  ∃ (bytes : ByteArray) (maxL lo : Nat) (ret : Option FieldType), zI y bytes maxL ret ∧ need = 8 + (maxL + 11) + lo ∧
    (y.cls = y.cls ∧ y.cls ≠ "java/lang/invoke/MethodHandle" ∧ y.cls ≠ "java/lang/invoke/VarHandle" ∧ (parseMethodDescriptor y.desc).map (fun d => d.parameters.length) = some as.length) ∧
    ∀ sz : Nat, Met l y (Cond.code y bytes maxL ret :: T0) { frames := fr, cells := mc, slots := ms, locals := lo } (fun v U => v = (Value.ref o :: as).toArray ∧ U.heap.size = sz ∧ AtO D ci cJ o a c fs U U.heap)
      (fun _ st oc t => (∃ v, oc = .returned v ∧ rv v) ∧ AtO D ci cJ o a c2 fs2 t t.heap ∧ va_F (zF o a sz) st t) mc ms (zF o a sz)
/-- what such a method owes at its end -/
abbrev zE1 (below : List Frame) (D : va_G) (ci : Nat) (cJ : ClassId) (o a : Nat) (av : Array Value) (s : State) (mc ms : Nat) (rv : Option Value → Prop) (c2 : Nat → Nat) (fs2 : List Value) : State → Prop :=
  MQ below (fun _ st oc t => (∃ v, oc = .returned v ∧ rv v) ∧ AtO D ci cJ o a c2 fs2 t t.heap ∧ va_F (zF o a s.heap.size) st t) av s mc ms (zF o a s.heap.size)
theorem zA.intro {l : Launch} {y : MethodName} {fr need lo nA mc ms : Nat} {D : va_G} {ci : Nat} {cJ : ClassId} {o a : Nat} {as : List Value} {c : Nat → Nat} {fs : List Value} {rv : Option Value → Prop} {c2 : Nat → Nat} {fs2 : List Value} {cc : ByteArray} {maxL : Nat} {ret : Option FieldType} {own : String} (hz : zI y cc maxL ret) (hy : plainName y.cls = true) (ho : own = y.cls) (hn : need = 8 + (maxL + 11) + lo)
    (hd : y.cls ≠ "java/lang/invoke/MethodHandle" ∧ y.cls ≠ "java/lang/invoke/VarHandle" ∧ (parseMethodDescriptor y.desc).map (fun d => d.parameters.length) = some nA) (hA : as.length = nA) (hle : (lg_sl (.ref o :: as)).length ≤ maxL)
    (body : ∀ (p : Program) (e : Env) (s : State) (m : MethodId) (below : List Frame) (meth : Method) (c0 : Code) (ls : Array Slot), CallFix p m c0 cc maxL s (Value.ref o :: as).toArray T0 own → meth.sig.returnType = ret → meth.locks = false → zIn D ci cJ o a c fs s s.heap [] → lv_has ls maxL (lv_args 0 (.ref o :: as)) →
      W p l e { frames := fr, cells := mc, slots := ms, locals := lo } s m (Value.ref o :: as).toArray below meth c0 s.heap [] 0 0 (zE1 below D ci cJ o a (Value.ref o :: as).toArray s mc ms rv c2 fs2) (F0 m 0 ls [])) : zA l y fr need mc ms D ci cJ o a as c fs rv c2 fs2 := by
  subst hA
  refine ⟨cc, maxL, lo, ret, hz, hn, ⟨rfl, hd⟩, fun sz => ?_⟩
  refine Met.ofW (ws' := T0) hy rfl ?_
  intro p e s m args below meth c0 s₁ B hml hv
  obtain ⟨hv, hsz, hAt⟩ := hv
  subst hv
  subst hsz
  have hts := atoms_spec (ws := Cond.code y cc maxL ret :: T0) B.pre
  have hown : s.vm.findClass own = some m.cls := by rw [ho]; exact findClass_of_methodNamed B.named
  rw [lg_entry_eq]
  exact body p e s m below meth c0 _ ⟨B.exec, B.bytes, hml, hown, fun w h => hts w (List.mem_cons_of_mem _ h)⟩ B.returns B.notSynchronized ⟨hAt, va_S.rf⟩ (lv_entry (.ref o :: as) hle)
theorem zgV {own : String} {idx : Nat} {y : MethodName} {bytes : ByteArray} {maxL : Nat} {ret : Option FieldType} (h1 : Cond.methodLink own idx y ∈ lw_tbl) (h : zI y bytes maxL ret) : GoodIn T0 (wsV own idx y.cls y (Cond.code y bytes maxL ret :: T0)) := by
  intro w hw
  have hm : w ∈ T0 := by
    rcases List.mem_append.mp hw with hw | hw
    · simp only [List.mem_cons, List.not_mem_nil, or_false] at hw
      rcases hw with rfl | rfl | rfl | rfl
      · exact T0_of h1 rfl
      · exact T0_of h.1 rfl
      · exact T0_of h.2.1 rfl
      · exact T0_of h.2.2.1 rfl
    · rcases List.mem_cons.mp hw with rfl | hw
      · exact T0_of h.2.2.2 rfl
      · exact hw
  exact ⟨hm, T0_good hm⟩
end OA
section OB
variable {p : Program} {l : Launch} {e : Env} {R : Room} {s : State} {m : MethodId} {args : Array Value} {below : List Frame} {meth : Method} {c : Code} {H : Heap} {locs : List Loc} {cells slots : Nat} {Q : State → Prop}
variable {cc : ByteArray} {pc nL : Nat} {ls : Array Slot} {rest st : List Value} {own : String} {lv : List (Nat × Value)} {D : va_G} {ci : Nat} {cJ : ClassId} {o a : Nat} {ce : Nat → Nat} {fs : List Value}
theorem zo_get (C : CallFix p m c cc nL s args T0 own) (B : zIn D ci cJ o a ce fs s H locs) {Cn : String} {T : u_T} {N idx : Nat} (hc : vwCl[ci]? = some (Cn, T, N)) (hin : ∀ w ∈ u_ws Cn T N, w ∈ T0) (k : Nat) (hk : k < N) {ref : String} (hlink : Cond.fieldLink own idx ref (T k).2.1 (T k).2.2.1 ∈ lw_tbl) (href : (T k).1 = ref) {v : Value} (hv : (Value.ref a :: fs)[k]? = some v) (d : decode cc pc = .ok (.getfield idx, 3))
    (kk : W p l e R s m args below meth c H locs cells slots Q (F0 m (pc + 3) ls (v :: rest))) : W p l e R s m args below meth c H locs cells slots Q (F0 m pc ls (.ref o :: rest)) :=
  va_get (D := D) (cl := vwCl) (ws := wO ci cJ o a ce fs) (tys := [(cJ, .long)]) C.1 C.2.1 C.2.2.2.2 hin C.2.2.2.1 B.1.2.1 B.1.1 0 rfl hc k hk (C.2.2.2.2 _ (T0_of hlink rfl)) (fun x h => by rw [← href]; exact h) hv d kk
theorem zo_put (C : CallFix p m c cc nL s args T0 own) (B : zIn D ci cJ o a ce fs s H locs) {Cn : String} {T : u_T} {N idx : Nat} (hc : vwCl[ci]? = some (Cn, T, N)) (hin : ∀ w ∈ u_ws Cn T N, w ∈ T0) (ty0 : Nat → FieldType) (hty : ∀ k, k < N → parseFieldDescriptor (T k).2.2.1 = some (ty0 k)) (hnm : ∀ a, a < N → ∀ b, b < N → a ≠ b → (T a).2.1 ≠ (T b).2.1)
    (k : Nat) (hk : k + 1 < N) {ref : String} (hlink : Cond.fieldLink own idx ref (T (k + 1)).2.1 (T (k + 1)).2.2.1 ∈ lw_tbl) (href : (T (k + 1)).1 = ref) (hfin : (T (k + 1)).2.2.2 = false) (hd : parseFieldDescriptor (T (k + 1)).2.2.1 = some .int) {x : Int32} {fs2 : List Value} (hl : k < fs.length) (hfs : fs.set k (.int x) = fs2) (d : decode cc pc = .ok (.putfield idx, 3))
    (kk : ∀ H1 locs1, zIn D ci cJ o a ce fs2 s H1 locs1 → W p l e R s m args below meth c H1 locs1 cells slots Q (F0 m (pc + 3) ls rest)) : W p l e R s m args below meth c H locs cells slots Q (F0 m pc ls (.int x :: .ref o :: rest)) := by
  subst hfs
  refine va_put (D := D) (cl := vwCl) (ws := wO ci cJ o a ce fs) (tys := [(cJ, .long)]) (v := .int x) (ty := .int) C.1 C.2.1 C.2.2.2.2 hin ty0 hty hnm C.2.2.2.1 B.1.2.1 B.1.1 (B.1.D (sz := s.heap.size)) B.2 0 rfl hc (k + 1) hk (C.2.2.2.2 _ (T0_of hlink rfl)) (fun y h => by rw [← href]; exact h) hfin hd rfl rfl (by show k + 1 < fs.length + 1; omega) d (fun H1 locs1 hP hD hS => ?_)
  exact kk H1 locs1 ⟨⟨hP, B.1.2⟩, hS⟩
theorem zo_lald (C : CallFix p m c cc nL s args T0 own) (B : zIn D ci cJ o a ce fs s H locs) {z : Int} (j : Nat) (hz : z = (j : Int)) (hj : j < 6) (d : decode cc pc = .ok (.laload, 1))
    (kk : W p l e R s m args below meth c H locs cells slots Q (F0 m (pc + 1) ls (.long (lN (ce j)) :: rest))) : W p l e R s m args below meth c H locs cells slots Q (F0 m pc ls (.int (iZ z) :: .ref a :: rest)) := by
  subst hz
  refine va_lald (D := D) (cl := vwCl) (ws := wO ci cJ o a ce fs) (tys := [(cJ, .long)]) (n := 6) (f := fun k => lN (ce k)) C.1 C.2.1 B.1.2.1 B.1.1 1 0 rfl rfl (iZ_in (by omega) (by omega)) d ?_
  have e1 : (iZ (j : Int)).toNatClampNeg = j := by rw [iZ_clamp (by omega)]; rfl
  rw [e1]
  exact kk
theorem zo_last (C : CallFix p m c cc nL s args T0 own) (B : zIn D ci cJ o a ce fs s H locs) {z : Int} {x : Nat} (j : Nat) (hz : z = (j : Int)) (hj : j < 6) (hx : x < 8589934592) (d : decode cc pc = .ok (.lastore, 1))
    (kk : ∀ H1 locs1, zIn D ci cJ o a (zu ce j x) fs s H1 locs1 → W p l e R s m args below meth c H1 locs1 cells slots Q (F0 m (pc + 1) ls rest)) : W p l e R s m args below meth c H locs cells slots Q (F0 m pc ls (.long (lN x) :: .int (iZ z) :: .ref a :: rest)) := by
  subst hz
  refine va_last (D := D) (cl := vwCl) (ws := wO ci cJ o a ce fs) (tys := [(cJ, .long)]) (n := 6) (f := fun k => lN (ce k)) (A := zF o a s.heap.size) C.1 C.2.1 B.1.2.1 B.1.1 (B.1.D (sz := s.heap.size)) B.2 1 0 rfl rfl (iZ_in (by omega) (by omega)) d (fun H1 locs1 hP hD hS => ?_)
  have e1 : (iZ (j : Int)).toNatClampNeg = j := by rw [iZ_clamp (by omega)]; rfl
  rw [e1, zu_L] at hP
  exact kk H1 locs1 ⟨⟨hP, B.1.2.1, B.1.2.2.1, zu_lt B.1.2.2.2 hx⟩, hS⟩
theorem zo_alen (C : CallFix p m c cc nL s args T0 own) (B : zIn D ci cJ o a ce fs s H locs) (d : decode cc pc = .ok (.arraylength, 1))
    (kk : W p l e R s m args below meth c H locs cells slots Q (F0 m (pc + 1) ls (.int (iZ 6) :: rest))) : W p l e R s m args below meth c H locs cells slots Q (F0 m pc ls (.ref a :: rest)) :=
  va_alen (D := D) (cl := vwCl) (ws := wO ci cJ o a ce fs) (tys := [(cJ, .long)]) C.1 C.2.1 B.1.2.1 B.1.1 1 0 rfl rfl rfl d kk
/-- a call of one of the object's own methods -/
theorem zo_call (C : CallFix p m c cc nL s args T0 own) (B : zIn D ci cJ o a ce fs s H locs) {y : MethodName} {fr need mc ms idx : Nat} {as : List Value} {rv : Option Value → Prop} {c2 : Nat → Nat} {fs2 : List Value} {T : u_T} {N : Nat} (hM : zA l y fr need mc ms D ci cJ o a as ce fs rv c2 fs2) (hG : Cond.methodLink own idx y ∈ lw_tbl) (hcl : vwCl[ci]? = some (y.cls, T, N))
    (hR : fr + 1 ≤ R.frames ∧ need ≤ R.locals) (hf : cells + mc ≤ R.cells ∧ slots + ms ≤ R.slots) (hl : lv_has ls nL lv) (hcat : (rest.map fun v => v.category).sum ≤ 8) (hst : st = as.reverse ++ .ref o :: rest) (d : decode cc pc = .ok (.invokevirtual idx, 3))
    (k : ∀ v H1 locs1, rv v → zIn D ci cJ o a c2 fs2 s H1 locs1 → W p l e R s m args below meth c H1 locs1 (cells + mc) (slots + ms) Q (F0 m (pc + 3) ls (v.toList ++ rest))) : W p l e R s m args below meth c H locs cells slots Q (F0 m pc ls st) := by
  obtain ⟨bytes, maxL, lo, ret, hz, hn, hd, hM⟩ := hM
  have hM := hM H.size
  have cw := cwV (R := R) (own := own) (index := idx) (C := y.cls) (y := y) (bytes := bytes) (maxL := maxL) (ret := ret) (ws := Cond.code y bytes maxL ret :: T0) (ws' := T0) (rm := { frames := fr, cells := mc, slots := ms, locals := lo }) (mc := mc) (ms := ms) as.length C.2.2.2.2 (zgV hG hz) rfl rfl rfl hd ⟨hR.1, by rw [hn] at hR; exact hR.2⟩
  have hr := va_runV (p := p) (l := l) (e := e) (below := below) (meth := meth) (c := c) (H := H) (locs := locs) (cells := cells) (slots := slots) (g := F0 m pc ls st) (rest := rest) C hM cw ⟨fun A U g mk q => ⟨q.1, q.2.1, q.2.2.moved (U := U.calling g mk A) (Vm.Alike.refl U.vm)⟩, va_recv B.1.2.1 B.1.1 (ci := ci) (q0 := 0) hcl rfl, fun U hU hW => ⟨rfl, by rw [hU], by rw [hU]; exact B.1.moved hW.alike⟩⟩ rfl rfl hl.1 hst (lv_room hcat) d hf
  intro T9 hT X
  obtain ⟨v2, st₀, t, T', L, h0, X', hL, e1, e2, ⟨⟨v3, hv, hrv⟩, hAt, hF⟩, st2⟩ := hr T9 hT X
  cases hv
  obtain ⟨hz2, hk2⟩ := hF
  rw [h0] at hz2 hk2
  have hss : s.heap.size ≤ H.size := B.2.1
  have hsub : ∀ q, zF o a H.size q → zF o a s.heap.size q := by
    intro q hq
    rcases hq with h | h | h
    · exact Or.inl h
    · exact Or.inr (Or.inl h)
    · exact Or.inr (Or.inr (Nat.le_trans hss h))
  have hS : va_S (zF o a s.heap.size) s.heap T'.heap (locs ++ L) := by
    refine ⟨Nat.le_trans hss (by rw [e1]; exact hz2), fun q h1 h2 => ?_, fun q hq => ?_⟩
    · rw [e1, hk2 q (Nat.lt_of_lt_of_le h1 hss) (fun z => h2 (hsub q z))]
      exact B.2.2.1 q h1 h2
    · rcases List.mem_append.mp hq with h | h
      · exact B.2.2.2 q h
      · exact hsub _ (hL q h)
  have hB : zIn D ci cJ o a c2 fs2 s T'.heap (locs ++ L) := by
    refine ⟨?_, hS⟩
    rw [e1]
    exact hAt.moved (by rw [← e2]; exact X'.warmed.alike.symm)
  obtain ⟨t2, a1, b1⟩ := k v2 T'.heap (locs ++ L) hrv hB T' rfl X'
  exact ⟨t2, st2 t2 a1, b1⟩
-- ends of such methods
theorem zo_iret {as : List Value} {mc ms : Nat} {rv : Option Value → Prop} {c2 : Nat → Nat} {fs2 : List Value} {r : Int32} (C : CallFix p m c cc nL s as.toArray T0 own) (B : zIn D ci cJ o a ce fs s H locs) (hr : meth.sig.returnType = some .int) (hk : meth.locks = false) (h1 : cells ≤ mc) (h2 : slots ≤ ms) (d : decode cc pc = .ok (.ireturn, 1)) (hv : rv (some (.int r))) (hc : ce = c2) (hfs : fs = fs2) : W p l e R s m as.toArray below meth c H locs cells slots (zE1 below D ci cJ o a as.toArray s mc ms rv c2 fs2) (F0 m pc ls [.int r]) := by
  subst hc hfs
  refine W.widen (k := mc) (n := ms) h1 h2 ?_
  exact W.iret C.1 C.2.1 hr (fun t ht hW => ⟨⟨_, rfl, hv⟩, by rw [ht]; exact B.1.moved hW.alike, B.2.F ht⟩) B.2.2.2 d hk
theorem zo_zret {as : List Value} {mc ms : Nat} {rv : Option Value → Prop} {c2 : Nat → Nat} {fs2 : List Value} {r : Int32} {ty : FieldType} (C : CallFix p m c cc nL s as.toArray T0 own) (B : zIn D ci cJ o a ce fs s H locs) (hr : meth.sig.returnType = some ty) (hk : meth.locks = false) (h1 : cells ≤ mc) (h2 : slots ≤ ms) (d : decode cc pc = .ok (.ireturn, 1)) (hn : narrow ty (.int r) = .int r) (hv : rv (some (.int r))) (hc : ce = c2) (hfs : fs = fs2) : W p l e R s m as.toArray below meth c H locs cells slots (zE1 below D ci cJ o a as.toArray s mc ms rv c2 fs2) (F0 m pc ls [.int r]) := by
  subst hc hfs
  refine W.widen (k := mc) (n := ms) h1 h2 ?_
  exact W.zret C.1 C.2.1 hr hn (fun t ht hW => ⟨⟨_, rfl, hv⟩, by rw [ht]; exact B.1.moved hW.alike, B.2.F ht⟩) B.2.2.2 d hk
theorem zo_lret {as : List Value} {mc ms : Nat} {rv : Option Value → Prop} {c2 : Nat → Nat} {fs2 : List Value} {r : Int64} (C : CallFix p m c cc nL s as.toArray T0 own) (B : zIn D ci cJ o a ce fs s H locs) (hr : meth.sig.returnType = some .long) (hk : meth.locks = false) (h1 : cells ≤ mc) (h2 : slots ≤ ms) (d : decode cc pc = .ok (.lreturn, 1)) (hv : rv (some (.long r))) (hc : ce = c2) (hfs : fs = fs2) : W p l e R s m as.toArray below meth c H locs cells slots (zE1 below D ci cJ o a as.toArray s mc ms rv c2 fs2) (F0 m pc ls [.long r]) := by
  subst hc hfs
  refine W.widen (k := mc) (n := ms) h1 h2 ?_
  exact W.lret C.1 C.2.1 hr (fun t ht hW => ⟨⟨_, rfl, hv⟩, by rw [ht]; exact B.1.moved hW.alike, B.2.F ht⟩) B.2.2.2 d hk
theorem zo_vret {as : List Value} {mc ms : Nat} {rv : Option Value → Prop} {c2 : Nat → Nat} {fs2 : List Value} (C : CallFix p m c cc nL s as.toArray T0 own) (B : zIn D ci cJ o a ce fs s H locs) (hr : meth.sig.returnType = none) (hk : meth.locks = false) (h1 : cells ≤ mc) (h2 : slots ≤ ms) (d : decode cc pc = .ok (.return_, 1)) (hv : rv none) (hc : ce = c2) (hfs : fs = fs2) : W p l e R s m as.toArray below meth c H locs cells slots (zE1 below D ci cJ o a as.toArray s mc ms rv c2 fs2) (F0 m pc ls []) := by
  subst hc hfs
  refine W.widen (k := mc) (n := ms) h1 h2 ?_
  exact W.vret C.1 C.2.1 hr (fun t ht hW => ⟨⟨_, rfl, hv⟩, by rw [ht]; exact B.1.moved hW.alike, B.2.F ht⟩) B.2.2.2 d hk
end OB
section OC
/-- an act: some x is laid into the cell k; none: it is refused. What is answered, and what is held then -/
def aR (c : Nat → Nat) (k : Nat) : Option Nat → Int
  | some x => if c k = x then 0 else 1
  | none => -9
def aC (c : Nat → Nat) (k : Nat) : Option Nat → Nat → Nat
  | some x => zu c k x
  | none => c
def aA (ac : Int32) : Option Nat → Int32
  | some _ => ac + iZ 1
  | none => ac
def aF (re : Int32) : Option Nat → Int32
  | some _ => re
  | none => re + iZ 1
theorem aR_rng (c : Nat → Nat) (k : Nat) (w : Option Nat) : -9 ≤ aR c k w ∧ aR c k w ≤ 1 := by
  cases w with
  | none => exact ⟨Int.le_refl _, show (-9 : Int) ≤ 1 by decide⟩
  | some x =>
    show -9 ≤ (if c k = x then (0 : Int) else 1) ∧ (if c k = x then (0 : Int) else 1) ≤ 1
    split <;> omega
variable {p : Program} {l : Launch} {e : Env} {R : Room} {s : State} {m : MethodId} {args : Array Value} {below : List Frame} {meth : Method} {c : Code} {H : Heap} {locs : List Loc} {cells slots : Nat} {Q : State → Prop}
variable {cc : ByteArray} {pc nL : Nat} {ls : Array Slot} {rest st : List Value} {own : String} {lv : List (Nat × Value)} {D : va_G} {ci : Nat} {cJ : ClassId} {o a : Nat} {ce : Nat → Nat} {fs : List Value}
/-- .. whose answer is known -/
theorem zo_callD (C : CallFix p m c cc nL s args T0 own) (B : zIn D ci cJ o a ce fs s H locs) {y : MethodName} {fr need mc ms idx : Nat} {as : List Value} {r : Option Value} {c2 : Nat → Nat} {fs2 : List Value} {T : u_T} {N : Nat} (hM : zA l y fr need mc ms D ci cJ o a as ce fs (fun v => v = r) c2 fs2) (hG : Cond.methodLink own idx y ∈ lw_tbl) (hcl : vwCl[ci]? = some (y.cls, T, N))
    (hR : fr + 1 ≤ R.frames ∧ need ≤ R.locals) (hf : cells + mc ≤ R.cells ∧ slots + ms ≤ R.slots) (hl : lv_has ls nL lv) (hcat : (rest.map fun v => v.category).sum ≤ 8) (hst : st = as.reverse ++ .ref o :: rest) (d : decode cc pc = .ok (.invokevirtual idx, 3))
    (k : ∀ H1 locs1, zIn D ci cJ o a c2 fs2 s H1 locs1 → W p l e R s m args below meth c H1 locs1 (cells + mc) (slots + ms) Q (F0 m (pc + 3) ls (r.toList ++ rest))) : W p l e R s m args below meth c H locs cells slots Q (F0 m pc ls st) :=
  zo_call C B hM hG hcl hR hf hl hcat hst d (fun v H1 locs1 hv hB => by subst hv; exact k H1 locs1 hB)
theorem z_lsub (C : CallFix p m c cc nL s args T0 own) {x y : Nat} (h : y ≤ x) (d : decode cc pc = .ok (.lsub, 1)) (k : W p l e R s m args below meth c H locs cells slots Q (F0 m (pc + 1) ls (.long (lN (x - y)) :: rest))) : W p l e R s m args below meth c H locs cells slots Q (F0 m pc ls (.long (lN y) :: .long (lN x) :: rest)) := lv_lsub C.1 C.2.1 d (by rw [lN_sub h]; exact k)
theorem z_iand127 (C : CallFix p m c cc nL s args T0 own) {z : Int} (n : Nat) (hz : z = (n : Int)) (hn : n < 18446744073709551616) (d : decode cc pc = .ok (.iand, 1)) (k : W p l e R s m args below meth c H locs cells slots Q (F0 m (pc + 1) ls (.int (iZ ((n % 128 : Nat) : Int)) :: rest))) : W p l e R s m args below meth c H locs cells slots Q (F0 m pc ls (.int (iZ 127) :: .int (iZ z) :: rest)) := by
  subst hz
  refine lv_iand C.1 C.2.1 d ?_
  have e1 : iZ (n : Int) &&& iZ 127 = nI (n % 128) := by
    rw [iZ_nI, pk_and (nI n) 7 (by decide)]
    congr 1
    show (BitVec.ofNat 32 n).toNat % 2 ^ 7 = n % 128
    rw [BitVec.toNat_ofNat]
    omega
  rw [e1, ← iZ_nI]
  exact k
end OC
