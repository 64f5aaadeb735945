/-! ===== the law's own layer: its notebook (Out), calls in a wider world, methods with a table ===== -/
section WA
/-- the notebook: its number and its text -/
def wOut (w : Nat) (n : Int64) (sv : Value) : va_W := [(w, .inr (3, [.long n, sv]))]
def AtW (D : va_G) (w : Nat) (n : Int64) (sv : Value) (U : State) (H : Heap) : Prop := va_P D vwCl (wOut w n sv) H ∧ va_K D vwCl [] U ∧ (sv = .null ∨ ∃ q, sv = .ref q)
theorem AtW.D {D : va_G} {w : Nat} {n : Int64} {sv : Value} {U : State} {H : Heap} {A : Nat → Prop} (_ : AtW D w n sv U H) (hw : A w) : va_D A (wOut w n sv) := by
  refine ⟨fun i j p q hp hq _ => ?_, fun k q hk => ?_⟩
  · match i, j, hp, hq with
    | 0, 0, _, _ => rfl
    | i + 1, _, hp, _ => simp [wOut] at hp
    | 0, j + 1, _, hq => simp [wOut] at hq
  · match k, hk with
    | 0, hk => cases hk; exact hw
    | k + 1, hk => simp [wOut] at hk
theorem AtW.moved {D : va_G} {w : Nat} {n : Int64} {sv : Value} {u U : State} {H : Heap} (hvm : u.vm.Alike U.vm) (h : AtW D w n sv u H) : AtW D w n sv U H := ⟨h.1, va_K.moved hvm h.2.1, h.2.2⟩
theorem AtW.lt {D : va_G} {w : Nat} {n : Int64} {sv : Value} {U : State} {H : Heap} (h : AtW D w n sv U H) : w < H.size := (h.1 0 _ rfl).lt
theorem AtW.kept {D : va_G} {w : Nat} {n : Int64} {sv : Value} {U : State} {H H1 : Heap} (h : AtW D w n sv U H) (hw : H1[w]? = H[w]?) : AtW D w n sv U H1 := by
  refine ⟨h.1.kept (fun k q hk => ?_), h.2⟩
  match k, hk with
  | 0, hk => cases hk; exact hw
  | k + 1, hk => simp [wOut] at hk
end WA
section WB
variable {p : Program} {l : Launch} {e : Env} {R : Room} {s : State} {m : MethodId} {args : Array Value} {below : List Frame} {meth : Method} {c : Code} {H : Heap} {locs : List Loc} {cells slots : Nat} {Q : State → Prop}
variable {cc : ByteArray} {pc nL : Nat} {ls : Array Slot} {rest st : List Value} {own : String} {lv : List (Nat × Value)} {D : va_G} {ci : Nat} {cJ : ClassId} {o a : Nat} {ce : Nat → Nat} {fs : List Value} {A : Nat → Prop} {E : String}
/-- a call of an object's method, from any world: what isn't the object's stays -/
theorem zg_call (C : CallFix p m c cc nL s args T0 own) (hAt : AtO D ci cJ o a ce fs s H) (hS : va_S A s.heap H locs) (hA : ∀ q, zF o a H.size q → A q) {y : MethodName} {fr need mc ms idx : Nat} {as : List Value} {rv : Option Value → Prop} {c2 : Nat → Nat} {fs2 : List Value} {T : u_T} {N : Nat} (hM : zA l y fr need mc ms D ci cJ o a as ce fs rv c2 fs2) (hG : Cond.methodLink own idx y ∈ lw_tbl) (hcl : vwCl[ci]? = some (y.cls, T, N))
    (hR : fr + 1 ≤ R.frames ∧ need ≤ R.locals) (hf : cells + mc ≤ R.cells ∧ slots + ms ≤ R.slots) (hl : lv_has ls nL lv) (hcat : (rest.map fun v => v.category).sum ≤ 8) (hst : st = as.reverse ++ .ref o :: rest) (d : decode cc pc = .ok (.invokevirtual idx, 3))
    (k : ∀ v H1 locs1, rv v → AtO D ci cJ o a c2 fs2 s H1 → va_S A s.heap H1 locs1 → (∀ q : Nat, q < H.size → ¬ (q = o ∨ q = a) → H1[q]? = H[q]?) → H.size ≤ H1.size → W p l e R s m args below meth c H1 locs1 (cells + mc) (slots + ms) Q (F0 m (pc + 3) ls (v.toList ++ rest))) : W p l e R s m args below meth c H locs cells slots Q (F0 m pc ls st) := by
  obtain ⟨bytes, maxL, lo, ret, hz, hn, hd, hM⟩ := hM
  have hM := hM H.size
  have cw := cwV (R := R) (own := own) (index := idx) (C := y.cls) (y := y) (bytes := bytes) (maxL := maxL) (ret := ret) (ws := Cond.code y bytes maxL ret :: T0) (ws' := T0) (rm := { frames := fr, cells := mc, slots := ms, locals := lo }) (mc := mc) (ms := ms) as.length C.2.2.2.2 (zgV hG hz) rfl rfl rfl hd ⟨hR.1, by rw [hn] at hR; exact hR.2⟩
  have hr := va_runV (p := p) (l := l) (e := e) (below := below) (meth := meth) (c := c) (H := H) (locs := locs) (cells := cells) (slots := slots) (g := F0 m pc ls st) (rest := rest) C hM cw ⟨fun A U g mk q => ⟨q.1, q.2.1, q.2.2.moved (U := U.calling g mk A) (Vm.Alike.refl U.vm)⟩, va_recv hAt.2.1 hAt.1 (ci := ci) (q0 := 0) hcl rfl, fun U hU hW => ⟨rfl, by rw [hU], by rw [hU]; exact hAt.moved hW.alike⟩⟩ rfl rfl hl.1 hst (lv_room hcat) d hf
  intro T9 hT X
  obtain ⟨v2, st₀, t, T', L, h0, X', hL, e1, e2, ⟨⟨v3, hv, hrv⟩, hAt2, hF⟩, st2⟩ := hr T9 hT X
  cases hv
  obtain ⟨hz2, hk2⟩ := hF
  rw [h0] at hz2 hk2
  have hss : s.heap.size ≤ H.size := hS.1
  have hS2 : va_S A s.heap T'.heap (locs ++ L) := by
    refine ⟨Nat.le_trans hss (by rw [e1]; exact hz2), fun q h1 h2 => ?_, fun q hq => ?_⟩
    · rw [e1, hk2 q (Nat.lt_of_lt_of_le h1 hss) (fun z => h2 (hA q z))]
      exact hS.2.1 q h1 h2
    · rcases List.mem_append.mp hq with h | h
      · exact hS.2.2 q h
      · exact hA _ (hL q h)
  obtain ⟨t2, a1, b1⟩ := k v2 T'.heap (locs ++ L) hrv (by rw [e1]; exact hAt2.moved (by rw [← e2]; exact X'.warmed.alike.symm)) hS2 (fun q h1 h2 => by rw [e1]; exact hk2 q h1 (fun z => by rcases z with z | z | z; exact h2 (Or.inl z); exact h2 (Or.inr z); omega)) (by rw [e1]; exact hz2) T' rfl X'
  exact ⟨t2, st2 t2 a1, b1⟩
/-- .. that throws: what comes then is the caller's business (vx_W) -/
theorem zg_callX (C : CallFix p m c cc nL s args T0 own) (hAt : AtO D 2 cJ o a ce fs s H) (hE : zE (zoa o a) s H) (hS : va_S A s.heap H locs) (hA : ∀ q, zF o a H.size q → A q) {y : MethodName} {fr need idx : Nat} {as : List Value} {T : u_T} {N : Nat} (hM : zXI l y fr need D cJ o a as ce fs E) (hG : Cond.methodLink own idx y ∈ lw_tbl) (hcl : vwCl[2]? = some (y.cls, T, N))
    (hR : fr + 1 ≤ R.frames ∧ need ≤ R.locals) (hf : cells + 1 ≤ R.cells ∧ slots + 6 ≤ R.slots) (hl : lv_has ls nL lv) (hcat : (rest.map fun v => v.category).sum ≤ 8) (hst : st = as.reverse ++ .ref o :: rest) (d : decode cc pc = .ok (.invokevirtual idx, 3))
    (k : ∀ H1 locs1 ce1 q1, AtO D 2 cJ o a ce fs s H1 → va_S A s.heap H1 locs1 → (∀ q : Nat, q < H.size → ¬ (q = o ∨ q = a) → H1[q]? = H[q]?) → H.size ≤ H1.size → H1[q1]? = some ce1 → ce1.vm = .none → s.vm.findClass E = some ce1.cls → vx_W p l e R s m args below meth c H1 locs1 (cells + 1) (slots + 6) Q (F0 m pc ls rest) q1) : W p l e R s m args below meth c H locs cells slots Q (F0 m pc ls st) := by
  obtain ⟨bytes, maxL, lo, ret, hz, hn, hd, hM⟩ := hM
  have hM := hM H.size
  have cw := cwV (R := R) (own := own) (index := idx) (C := y.cls) (y := y) (bytes := bytes) (maxL := maxL) (ret := ret) (ws := Cond.code y bytes maxL ret :: T0) (ws' := T0) (rm := { frames := fr, cells := 1, slots := 6, locals := lo }) (mc := 1) (ms := 6) as.length C.2.2.2.2 (zgV hG hz) rfl rfl rfl hd ⟨hR.1, by rw [hn] at hR; exact hR.2⟩
  have hr := vx_runV (p := p) (l := l) (e := e) (below := below) (meth := meth) (c := c) (H := H) (locs := locs) (cells := cells) (slots := slots) (g := F0 m pc ls st) (rest := rest) C hM cw ⟨fun A U g mk q => ⟨q.1, q.2.1, q.2.2.1.moved (U := U.calling g mk A) (Vm.Alike.refl U.vm), q.2.2.2.warm (State.WarmedH.refl U)⟩, va_recv hAt.2.1 hAt.1 (ci := 2) (q0 := 0) hcl rfl, fun U hU hW => ⟨rfl, by rw [hU], by rw [hU]; exact hAt.moved hW.alike, by rw [hU]; exact hE.warm hW⟩⟩ rfl rfl hl.1 hst (lv_room hcat) d hf
  intro T9 hT X
  rcases hr T9 hT X with ⟨v, st₀, t, T', L, h0, X', hL, e1, e2, hq, st2⟩ | ⟨q, st₀, t, T', L, E', ce', h0, X', hL, e1, e2, hq, hce, hcv, hcl, st2⟩
  · exact hq.elim
  · obtain ⟨hE', hAt0, hz2, hk2⟩ := hq
    subst hE'
    rw [h0] at hz2 hk2
    have hss : s.heap.size ≤ H.size := hS.1
    have hS2 : va_S A s.heap T'.heap (locs ++ L) := by
      refine ⟨Nat.le_trans hss (by rw [e1]; exact hz2), fun q h1 h2 => ?_, fun q hq => ?_⟩
      · rw [e1, hk2 q (Nat.lt_of_lt_of_le h1 hss) (fun z => h2 (hA q z))]
        exact hS.2.1 q h1 h2
      · rcases List.mem_append.mp hq with h | h
        · exact hS.2.2 q h
        · exact hA _ (hL q h)
    obtain ⟨t2, a1, b1⟩ := k T'.heap (locs ++ L) ce' q (by rw [e1]; exact hAt0.moved (by rw [← e2]; exact X'.warmed.alike.symm)) hS2 (fun q h1 h2 => by rw [e1]; exact hk2 q h1 (fun z => by rcases z with z | z | z; exact h2 (Or.inl z); exact h2 (Or.inr z); omega)) (by rw [e1]; exact hz2) (by rw [e1]; exact hce) hcv hcl T' rfl X'
    exact ⟨t2, st2.trans a1, b1⟩
/-- a field of the notebook is written -/
theorem zw_put (C : CallFix p m c cc nL s args T0 RL) {w : Nat} {n : Int64} {sv v : Value} {n2 : Int64} {sv2 : Value} (hW : AtW D w n sv s H) (hS : va_S A s.heap H locs) (hA : A w) (k : Nat) (hk : k < 2) (h2 : [.long n, sv].set k v = [.long n2, sv2]) (hs2 : sv2 = .null ∨ ∃ q, sv2 = .ref q) {ty : FieldType} (hd : parseFieldDescriptor (TX4 k).2.2.1 = some ty) (hn : narrow ty v = v) (hfit : fits ty v = true) {idx : Nat} {host : String} (hlink : va_Nw (Cond.fieldLinkNest RL idx "CarryfreeLaw$Out" (TX4 k).2.1 (TX4 k).2.2.1 host) s) (d : decode cc pc = .ok (.putfield idx, 3))
    (kk : ∀ H1 locs1, AtW D w n2 sv2 s H1 → va_S A s.heap H1 locs1 → (∀ q : Nat, q ≠ w → H1[q]? = H[q]?) → H1.size = H.size → W p l e R s m args below meth c H1 locs1 cells slots Q (F0 m (pc + 3) ls rest)) : W p l e R s m args below meth c H locs cells slots Q (F0 m pc ls (v :: .ref w :: rest)) := by
  have hts : ∀ y ∈ T0, y.before args s = true := C.2.2.2.2
  have hap := va_apart (own := RL) (cl := vwCl) (ci := 3) (C := RX4) (T := TX4) (N := 2) hts inX4 tyX4 tyX4_ok nmX4 hW.2.1 rfl
  obtain ⟨r, h1, cell, q1, q2, q3, q4⟩ := hW.1 0 _ rfl
  have hr : r = (RX4, TX4, 2) := Option.some.inj h1.symm
  subst hr
  obtain ⟨hSl, hfc, kC, hkC, hkind⟩ := hW.2.1.1 3 _ rfl
  obtain ⟨cf, kf, fi, f, hi, hsl⟩ := hSl k hk
  have hlay := hts _ (inX4 _ (u_in_lay hk))
  have hfin : (TX4 k).2.2.2 = false := by match k, hk with | 0, _ => rfl | 1, _ => rfl
  have hsame : (TX4 k).1 = "CarryfreeLaw$Out" := by match k, hk with | 0, _ => rfl | 1, _ => rfl
  unfold u_lay at hlay
  rw [if_neg (by rw [hfin]; decide)] at hlay
  have hst := (u_facts hfc hkC (u_lays hts inX4 hk) hi).1
  have h6 := u_store hfc hkC hkind hlay hi hd hn hfit
  refine va_WputK C.1 C.2.1 (f := f) C.2.2.2.1 (hlink.use rfl) (by rw [← hsame]; exact hi) hst (by rw [q2]; exact h6) q1 q3 (by rw [hsl]; exact k2_hasslot (q4 k hk)) rfl rfl d fun H' e1 e2 e3 => ?_
  rw [hsl] at e1 ⊢
  have hl : k < ([.long n, sv] : List Value).length := hk
  have hat : va_at D vwCl (w, .inr (3, [Value.long n, sv].set k v)) H' := ⟨_, rfl, t_OB.to (V := updV (vp_V [Value.long n, sv]) k v) ⟨_, e1, q2, q3, t_set q4 hap hk v⟩ (fun j _ => vp_updV_set hl v j)⟩
  have hP := hW.1.set (hW.D (A := A) hA) (p := 0) rfl hat e3
  rw [h2] at hP
  exact kk H' _ ⟨hP, hW.2.1, hs2⟩ (hS.put e2 e3 hA) e3 e2
/-- the notebook's number is written -/
theorem zw_putN (C : CallFix p m c cc nL s args T0 RL) {w : Nat} {n x : Int64} {sv : Value} (hW : AtW D w n sv s H) (hS : va_S A s.heap H locs) (hA : A w) {idx : Nat} {host : String} (hlink : va_Nw (Cond.fieldLinkNest RL idx "CarryfreeLaw$Out" "n" "J" host) s) (d : decode cc pc = .ok (.putfield idx, 3))
    (kk : ∀ H1 locs1, AtW D w x sv s H1 → va_S A s.heap H1 locs1 → (∀ q : Nat, q ≠ w → H1[q]? = H[q]?) → H1.size = H.size → W p l e R s m args below meth c H1 locs1 cells slots Q (F0 m (pc + 3) ls rest)) : W p l e R s m args below meth c H locs cells slots Q (F0 m pc ls (.long x :: .ref w :: rest)) :=
  zw_put C hW hS hA 0 (by decide) rfl hW.2.2 (ty := .long) rfl rfl rfl hlink d kk
end WB
section WC
/-- a method with a table that always answers -/
theorem zMet_ofWH {l : Launch} {y : MethodName} {ws ws' : List Cond} {rm : Room} {Pc : Array Value → State → Prop} {Qc : Array Value → State → Outcome → State → Prop} {mc ms : Nat} {free : Addr → Prop} {cc : ByteArray} {maxL : Nat} {ret : Option FieldType} {hh : List (Nat × Nat × Nat × Nat)}
    (hy : plainName y.cls = true) (hw : ws = Cond.codeWith y cc maxL ret hh :: ws')
    (body : ∀ p e s m args below meth c s₁, BodyLoose p l y (headSpec ws rm) cc maxL ret e s m args below meth c s₁ → c.maxLocals = maxL → Pc args s →
      W p l e (headSpec ws rm).room s m args below meth c s.heap [] 0 0 (MQ below Qc args s mc ms free) (entryFrame m args maxL)) : Met l y ws rm Pc Qc mc ms free := by
  refine MetFree.of_bodyS (code := cc) (maxLocals := maxL) (ret := ret) hy ?_ ?_
  · intro args s m h hn
    obtain ⟨m9, meth, c, hn9, h1, h2, h3, h4, -, h5, h6, -⟩ := Cond.codeWith_spec (atoms_spec (ws := ws) h _ (by rw [hw]; exact List.mem_cons_self))
    cases hn.symm.trans hn9
    exact ⟨meth, c, h1, h2, h3, h4, h5, h6⟩
  · intro p e s m args below meth c s₁ B hml hP _
    have hh0 : s₁.heap = s.heap := by rw [B.state]; rfl
    obtain ⟨t, a1, o, b1, b2, b3⟩ := body p e s m args below meth c s₁ B hml hP s₁ hh0 (Stand.of_body B)
    exact ⟨t, o, a1, b1, b2, ⟨b3.1, b3.2⟩⟩
def zNI : String := "java/lang/IndexOutOfBoundsException"
def zNA : String := "java/lang/IllegalArgumentException"
/-- what catching wants of the tables -/
def zCt (U : State) : Prop := (Cond.castable zNI zNI).before #[] U = true ∧ (Cond.castable zNA zNA).before #[] U = true ∧ va_Nc zNA zNI U ∧ va_Nw (Cond.fieldLinkNest RL 13 "CarryfreeLaw$Out" "n" "J" RL) U ∧ va_Nw (Cond.fieldLinkNest RL 117 "CarryfreeLaw$Out" "s" "Ljava/lang/String;" RL) U
theorem zCt.warm {s U : State} (hW : s.WarmedH U.vm) (h : zCt s) : zCt U := ⟨zW_move hW rfl h.1, zW_move hW rfl h.2.1, h.2.2.1.moved hW.alike, h.2.2.2.1.warmF hW, h.2.2.2.2.warmF hW⟩
def zFw (o a w sz : Nat) : Nat → Prop := fun q => q = w ∨ zF o a sz q
/-- the law's world in a wrapper: the object, the notebook, what throws and what catches -/
def zLi (D : va_G) (cJ : ClassId) (o a w : Nat) (ce : Nat → Nat) (fs : List Value) (n : Int64) (sv : Value) (U : State) (H : Heap) : Prop :=
  AtO D 2 cJ o a ce fs U H ∧ AtW D w n sv U H ∧ (w ≠ o ∧ w ≠ a) ∧ zE (fun q => q = w ∨ zoa o a q) U H ∧ zCt U
theorem zLi.moved {D : va_G} {cJ : ClassId} {o a w : Nat} {ce : Nat → Nat} {fs : List Value} {n : Int64} {sv : Value} {s U : State} {H : Heap} (hW : s.WarmedH U.vm) (h : zLi D cJ o a w ce fs n sv s H) : zLi D cJ o a w ce fs n sv U H :=
  ⟨h.1.moved hW.alike, h.2.1.moved hW.alike, h.2.2.1, h.2.2.2.1.warm hW, h.2.2.2.2.warm hW⟩
abbrev zL1 (below : List Frame) (D : va_G) (cJ : ClassId) (o a w : Nat) (av : Array Value) (s : State) (mc ms : Nat) (r : Int) (c2 : Nat → Nat) (fs2 : List Value) (n2 : Int64) (sv2 : Value) : State → Prop :=
  MQ below (fun _ st oc t => oc = .returned (some (.int (iZ r))) ∧ AtO D 2 cJ o a c2 fs2 t t.heap ∧ AtW D w n2 sv2 t t.heap ∧ va_F (zFw o a w s.heap.size) st t) av s mc ms (zFw o a w s.heap.size)
/-- a wrapper of the law: it answers r, the object and the notebook are then so -/
def zL (l : Launch) (y : MethodName) (fr need mc ms : Nat) (D : va_G) (cJ : ClassId) (o a w : Nat) (as : List Value) (ce : Nat → Nat) (fs : List Value) (n : Int64) (sv : Value) (r : Int) (c2 : Nat → Nat) (fs2 : List Value) (n2 : Int64) (sv2 : Value) : Prop :=
  ∃ (bytes : ByteArray) (maxL lo : Nat) (hh : List (Nat × Nat × Nat × Nat)), zSW y bytes maxL (some .int) hh ∧ need = 8 + (maxL + 11) + lo ∧
    (y.cls = y.cls ∧ y.cls ≠ "java/lang/invoke/MethodHandle" ∧ y.cls ≠ "java/lang/invoke/VarHandle" ∧ (parseMethodDescriptor y.desc).map (fun d => d.parameters.length) = some as.length) ∧
    ∀ sz : Nat, Met l y (Cond.codeWith y bytes maxL (some .int) hh :: T0) { frames := fr, cells := mc, slots := ms, locals := lo } (fun v U => v = as.toArray ∧ U.heap.size = sz ∧ zLi D cJ o a w ce fs n sv U U.heap)
      (fun _ st oc t => oc = .returned (some (.int (iZ r))) ∧ AtO D 2 cJ o a c2 fs2 t t.heap ∧ AtW D w n2 sv2 t t.heap ∧ va_F (zFw o a w sz) st t) mc ms (zFw o a w sz)
theorem zL.intro {l : Launch} {y : MethodName} {fr need lo nA mc ms : Nat} {D : va_G} {cJ : ClassId} {o a w : Nat} {as : List Value} {ce : Nat → Nat} {fs : List Value} {n : Int64} {sv : Value} {r : Int} {c2 : Nat → Nat} {fs2 : List Value} {n2 : Int64} {sv2 : Value} {cc : ByteArray} {maxL : Nat} {hh : List (Nat × Nat × Nat × Nat)} (hz : zSW y cc maxL (some .int) hh) (hy : plainName y.cls = true) (ho : RL = y.cls) (hn : need = 8 + (maxL + 11) + lo)
    (hd : y.cls ≠ "java/lang/invoke/MethodHandle" ∧ y.cls ≠ "java/lang/invoke/VarHandle" ∧ (parseMethodDescriptor y.desc).map (fun d => d.parameters.length) = some nA) (hA : as.length = nA) (hle : (lg_sl as).length ≤ maxL)
    (body : ∀ (p : Program) (e : Env) (s : State) (m : MethodId) (below : List Frame) (meth : Method) (c0 : Code) (ls : Array Slot), CallFix p m c0 cc maxL s as.toArray T0 RL → meth.sig.returnType = some .int → meth.locks = false → c0.exceptionTable.toList = tableOf hh → zLi D cJ o a w ce fs n sv s s.heap → va_S (zFw o a w s.heap.size) s.heap s.heap [] → lv_has ls maxL (lv_args 0 as) →
      W p l e { frames := fr, cells := mc, slots := ms, locals := lo } s m as.toArray below meth c0 s.heap [] 0 0 (zL1 below D cJ o a w as.toArray s mc ms r c2 fs2 n2 sv2) (F0 m 0 ls [])) : zL l y fr need mc ms D cJ o a w as ce fs n sv r c2 fs2 n2 sv2 := by
  subst hA
  refine ⟨cc, maxL, lo, hh, hz, hn, ⟨rfl, hd⟩, fun sz => ?_⟩
  refine zMet_ofWH (ws' := T0) hy rfl ?_
  intro p e s m args below meth c0 s₁ B hml hv
  obtain ⟨hv, hsz, hLi⟩ := hv
  subst hv
  subst hsz
  have hts := atoms_spec (ws := Cond.codeWith y cc maxL (some .int) hh :: T0) B.pre
  have hown : s.vm.findClass RL = some m.cls := by rw [ho]; exact findClass_of_methodNamed B.named
  have htab := vx_table (x := y) B (hts _ List.mem_cons_self)
  rw [lg_entry_eq]
  exact body p e s m below meth c0 _ ⟨B.exec, B.bytes, hml, hown, fun w h => hts w (List.mem_cons_of_mem _ h)⟩ B.returns B.notSynchronized htab hLi va_S.rf (lv_entry as hle)
end WC
section WD
variable {p : Program} {l : Launch} {e : Env} {R : Room} {s : State} {m : MethodId} {below : List Frame} {meth : Method} {c : Code} {H : Heap} {locs : List Loc} {cells slots : Nat} {Q : State → Prop}
variable {cc : ByteArray} {pc nL : Nat} {ls : Array Slot} {rest st : List Value} {own : String} {D : va_G} {cJ : ClassId} {o a w : Nat} {ce : Nat → Nat} {fs : List Value}
/-- a wrapper's end -/
theorem zl_ret {as : List Value} {mc ms : Nat} {r : Int} {v : Int32} {n2 : Int64} {sv2 : Value} (C : CallFix p m c cc nL s as.toArray T0 own) (hAt : AtO D 2 cJ o a ce fs s H) (hW : AtW D w n2 sv2 s H) (hS : va_S (zFw o a w s.heap.size) s.heap H locs) (hr : meth.sig.returnType = some .int) (hk : meth.locks = false) (h1 : cells ≤ mc) (h2 : slots ≤ ms) (d : decode cc pc = .ok (.ireturn, 1)) (hv : v = iZ r) :
    W p l e R s m as.toArray below meth c H locs cells slots (zL1 below D cJ o a w as.toArray s mc ms r ce fs n2 sv2) (F0 m pc ls [.int v]) := by
  subst hv
  refine W.widen (k := mc) (n := ms) h1 h2 ?_
  exact W.iret C.1 C.2.1 hr (fun t ht hW9 => ⟨rfl, by rw [ht]; exact hAt.moved hW9.alike, by rw [ht]; exact hW.moved hW9.alike, hS.F ht⟩) hS.2.2 d hk
/-- a truth value, made a long -/
theorem zl_bool {args : Array Value} (C : CallFix p m c cc nL s args T0 own) {b : Bool} (d1 : decode cc pc = .ok (.ifCond .eq 7, 3)) (d2 : decode cc (pc + 3) = .ok (.lconst 1, 1)) (d3 : decode cc (pc + 4) = .ok (.goto 4, 3)) (d4 : decode cc (pc + 7) = .ok (.lconst 0, 1))
    (k : W p l e R s m args below meth c H locs cells slots Q (F0 m (pc + 8) ls (.long (iZ (zB b)).toInt64 :: rest))) : W p l e R s m args below meth c H locs cells slots Q (F0 m pc ls (.int (iZ (zB b)) :: rest)) := by
  cases b
  · exact z_if_eq (tgt := pc + 7) (z := zB false) C (by decide) d1 (by omega) (fun _ => z_lconst C d4 rfl k) (fun h => absurd rfl h)
  · exact z_if_eq (tgt := pc + 7) (z := zB true) C (by decide) d1 (by omega) (fun h => absurd h (by decide)) (fun _ => z_lconst C d2 rfl (lv_goto (tgt := pc + 8) C.1 C.2.1 d3 (by omega) k))
/-- caught by the first handler -/
theorem zl_catch1 {args : Array Value} (C : CallFix p m c cc nL s args T0 RL) {E : String} {x : ExceptionTableEntry} {suf : List ExceptionTableEntry} {ce1 : Cell} {q : Addr} (ht : c.exceptionTable.toList = [] ++ x :: suf) (hx : covers x pc = true) (h0 : x.catchType ≠ 0) (hlink : Cond.classLink RL x.catchType E ∈ lw_tbl) (hcast : (Cond.castable E E).before #[] s = true) (hcell : H[q]? = some ce1) (hv : ce1.vm = .none) (hcl : s.vm.findClass E = some ce1.cls)
    (kk : W p l e R s m args below meth c H locs cells slots Q (F0 m x.handlerPc ls [.ref q])) : vx_W p l e R s m args below meth c H locs cells slots Q (F0 m pc ls rest) q :=
  vx_catch C.2.2.2.1 [] x suf ht (fun z hz => absurd hz List.not_mem_nil) hx h0 (C.2.2.2.2 _ (T0_of hlink rfl)) (va_Nw.use rfl hcast) hcell hv hcl kk
/-- caught by the second handler, past the first one -/
theorem zl_catch2 {args : Array Value} (C : CallFix p m c cc nL s args T0 RL) {E N : String} {x0 x : ExceptionTableEntry} {suf : List ExceptionTableEntry} {ce1 : Cell} {q : Addr} (ht : c.exceptionTable.toList = [x0] ++ x :: suf) (hz0 : x0.catchType ≠ 0) (hl0 : Cond.classLink RL x0.catchType N ∈ lw_tbl) (hn : va_Nc E N s) (hx : covers x pc = true) (h0 : x.catchType ≠ 0) (hlink : Cond.classLink RL x.catchType E ∈ lw_tbl) (hcast : (Cond.castable E E).before #[] s = true) (hcell : H[q]? = some ce1) (hv : ce1.vm = .none) (hcl : s.vm.findClass E = some ce1.cls)
    (kk : W p l e R s m args below meth c H locs cells slots Q (F0 m x.handlerPc ls [.ref q])) : vx_W p l e R s m args below meth c H locs cells slots Q (F0 m pc ls rest) q :=
  vx_catch C.2.2.2.1 [x0] x suf ht (fun z hz => by cases List.mem_singleton.mp hz; exact Or.inr ⟨hz0, N, C.2.2.2.2 _ (T0_of hl0 rfl), hn⟩) hx h0 (C.2.2.2.2 _ (T0_of hlink rfl)) (va_Nw.use rfl hcast) hcell hv hcl kk
end WD
section WG
theorem zgW {own : String} {idx : Nat} {y : MethodName} {bytes : ByteArray} {maxL : Nat} {ret : Option FieldType} {hh : List (Nat × Nat × Nat × Nat)} (h1 : Cond.methodLink own idx y ∈ lw_tbl) (h : zSW y bytes maxL ret hh) : GoodIn T0 (va_wsS own idx y (Cond.codeWith y bytes maxL ret hh :: T0)) := by
  intro w hw
  have hm : w ∈ T0 := by
    rcases List.mem_append.mp hw with hw | hw
    · simp only [List.mem_cons, List.not_mem_nil, or_false] at hw
      rcases hw with rfl | rfl | rfl
      · exact T0_of h1 rfl
      · exact T0_of h.1 rfl
      · exact T0_of h.2.1 rfl
    · rcases List.mem_cons.mp hw with rfl | hw
      · exact T0_of h.2.2 rfl
      · exact hw
  exact ⟨hm, T0_good hm⟩
variable {p : Program} {l : Launch} {e : Env} {R : Room} {s : State} {m : MethodId} {args : Array Value} {below : List Frame} {meth : Method} {c : Code} {H : Heap} {locs : List Loc} {cells slots : Nat} {Q : State → Prop}
variable {cc : ByteArray} {pc nL : Nat} {ls : Array Slot} {rest st : List Value} {own : String} {lv : List (Nat × Value)} {D : va_G} {cJ : ClassId} {o a w : Nat} {ce : Nat → Nat} {fs : List Value} {A : Nat → Prop}
/-- the law calls a wrapper -/
theorem zl_call (C : CallFix p m c cc nL s args T0 own) {n : Int64} {sv : Value} (hLi : zLi D cJ o a w ce fs n sv s H) (hS : va_S A s.heap H locs) (hA : ∀ q, zFw o a w H.size q → A q) {y : MethodName} {fr need mc ms idx : Nat} {as : List Value} {r : Int} {c2 : Nat → Nat} {fs2 : List Value} {n2 : Int64} {sv2 : Value} (hM : zL l y fr need mc ms D cJ o a w as ce fs n sv r c2 fs2 n2 sv2) (hG : Cond.methodLink own idx y ∈ lw_tbl)
    (hR : fr + 1 ≤ R.frames ∧ need ≤ R.locals) (hf : cells + mc ≤ R.cells ∧ slots + ms ≤ R.slots) (hl : lv_has ls nL lv) (hcat : (rest.map fun v => v.category).sum ≤ 8) (hst : st = as.reverse ++ rest) (d : decode cc pc = .ok (.invokestatic idx, 3))
    (k : ∀ H1 locs1, zLi D cJ o a w c2 fs2 n2 sv2 s H1 → va_S A s.heap H1 locs1 → (∀ q : Nat, q < H.size → ¬ (q = w ∨ q = o ∨ q = a) → H1[q]? = H[q]?) → H.size ≤ H1.size → W p l e R s m args below meth c H1 locs1 (cells + mc) (slots + ms) Q (F0 m (pc + 3) ls (.int (iZ r) :: rest))) : W p l e R s m args below meth c H locs cells slots Q (F0 m pc ls st) := by
  obtain ⟨bytes, maxL, lo, hh, hz, hn, hd, hM⟩ := hM
  have hM := hM H.size
  have cw := vx_cwSW (R := R) (own := own) (index := idx) (y := y) (bytes := bytes) (maxL := maxL) (ret := some .int) (hh := hh) (ws := Cond.codeWith y bytes maxL (some .int) hh :: T0) (ws' := T0) (rm := { frames := fr, cells := mc, slots := ms, locals := lo }) (mc := mc) (ms := ms) as.length C.2.2.2.2 (zgW hG hz) rfl rfl rfl hd.2 ⟨hR.1, by rw [hn] at hR; exact hR.2⟩
  have hr := vx_runSW (p := p) (l := l) (e := e) (below := below) (meth := meth) (c := c) (H := H) (locs := locs) (cells := cells) (slots := slots) (g := F0 m pc ls st) (rest := rest) C hM cw ⟨fun A U g mk q => ⟨q.1, q.2.1, q.2.2.moved (U := U.calling g mk A) (State.WarmedH.refl U)⟩, fun U hU hW => ⟨rfl, by rw [hU], by rw [hU]; exact hLi.moved hW⟩⟩ rfl rfl hl.1 hst (lv_room hcat) d hf
  intro T9 hT X
  obtain ⟨v2, st₀, t, T', L, h0, X', hL, e1, e2, ⟨hv, hAt2, hW2, hF⟩, st2⟩ := hr T9 hT X
  cases hv
  obtain ⟨hz2, hk2⟩ := hF
  rw [h0] at hz2 hk2
  have hss : s.heap.size ≤ H.size := hS.1
  have hS2 : va_S A s.heap T'.heap (locs ++ L) := by
    refine ⟨Nat.le_trans hss (by rw [e1]; exact hz2), fun q h1 h2 => ?_, fun q hq => ?_⟩
    · rw [e1, hk2 q (Nat.lt_of_lt_of_le h1 hss) (fun z => h2 (hA q z))]
      exact hS.2.1 q h1 h2
    · rcases List.mem_append.mp hq with h | h
      · exact hS.2.2 q h
      · exact hA _ (hL q h)
  have hke : ∀ q : Nat, q < H.size → ¬ (q = w ∨ q = o ∨ q = a) → T'.heap[q]? = H[q]? := fun q h1 h2 => by
    rw [e1]
    exact hk2 q h1 (fun z => by rcases z with z | z | z | z; exact h2 (Or.inl z); exact h2 (Or.inr (Or.inl z)); exact h2 (Or.inr (Or.inr z)); omega)
  have hal : t.vm.Alike s.vm := by rw [← e2]; exact X'.warmed.alike.symm
  obtain ⟨t2, a1, b1⟩ := k T'.heap (locs ++ L) ⟨by rw [e1]; exact hAt2.moved hal, by rw [e1]; exact hW2.moved hal, hLi.2.2.1, hLi.2.2.2.1.kept (fun q h1 h2 => hke q h1 h2), hLi.2.2.2.2⟩ hS2 hke (by rw [e1]; exact hz2) T' rfl X'
  exact ⟨t2, st2 t2 a1, b1⟩
end WG
