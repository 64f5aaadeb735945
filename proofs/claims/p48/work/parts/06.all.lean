/-! ===== what throws: wrong cells and numbers ===== -/
section TA
def zWk (w : Cond) : Bool := goodWord w || (match w with
  | .castable _ _ => true
  | .declares _ => true
  | _ => false)
theorem zW_move {w : Cond} {A A' : Array Value} {s U : State} (hW : s.WarmedH U.vm) (h : zWk w = true) (hb : w.before A s = true) : w.before A' U = true := by
  by_cases g : goodWord w = true
  · exact word_at hW (good_of_word g) hb
  · cases w with
    | castable a b => exact va_Nw.use rfl (va_Nw.warmC hW (va_Nw.of rfl hb))
    | declares x => exact va_Nw.use rfl (va_Nw.warmD hW (va_Nw.of rfl hb))
    | _ => exact absurd (Eq.trans (Bool.or_false _).symm h) g
def xI : List Cond := vx_atS RX3 207 "java/lang/IndexOutOfBoundsException" ["java/lang/RuntimeException", "java/lang/Exception"]
def xA : List Cond := vx_atS RX3 214 "java/lang/IllegalArgumentException" ["java/lang/RuntimeException", "java/lang/Exception"]
theorem xI_ok : ∀ w ∈ xI, zWk w = true := by decide +kernel
theorem xA_ok : ∀ w ∈ xA, zWk w = true := by decide +kernel
/-- what a throw wants of a heap: two statics of Throwable, the two texts, the words -/
def zE (A : Nat → Prop) (U : State) (H : Heap) : Prop :=
  vx_Zq Bundle.tN "UNASSIGNED_STACK" Bundle.steD A U H ∧ vx_Zq Bundle.tN "SUPPRESSED_SENTINEL" Bundle.listD A U H ∧ (∃ a, vk_R RX3 205 "a cell is 0 to 5" a U) ∧ (∃ a, vk_R RX3 212 "a number is out of its range" a U) ∧ (∀ w ∈ xI, w.before #[] U = true) ∧ ∀ w ∈ xA, w.before #[] U = true
theorem zE.warm {A : Nat → Prop} {s U : State} {H : Heap} (hW : s.WarmedH U.vm) (h : zE A s H) : zE A U H :=
  ⟨h.1.moved hW.alike, h.2.1.moved hW.alike, h.2.2.1.imp fun _ g => vk_R.warm hW g, h.2.2.2.1.imp fun _ g => vk_R.warm hW g, fun w hw => zW_move hW (xI_ok w hw) (h.2.2.2.2.1 w hw), fun w hw => zW_move hW (xA_ok w hw) (h.2.2.2.2.2 w hw)⟩
theorem zE.kept {A : Nat → Prop} {U : State} {H H1 : Heap} (h : zE A U H) (hq : ∀ a : Nat, a < H.size → ¬ A a → H1[a]? = H[a]?) : zE A U H1 := ⟨h.1.kept hq, h.2.1.kept hq, h.2.2⟩
theorem zE.narrow {A B : Nat → Prop} {U : State} {H : Heap} (h : zE A U H) (hAB : ∀ q, B q → A q) : zE B U H := ⟨h.1.narrow hAB, h.2.1.narrow hAB, h.2.2⟩
theorem zZ_up {A : Nat → Prop} {C n d : String} {U : State} {H : Heap} (h : vx_Zq C n d A U H) : vx_Zq C n d (fun q => A q ∨ H.size ≤ q) U H := by
  obtain ⟨h1, c, k, i, f, a, cell, g1, g2, g3, g4, g5, g6, g7, g8, g9, g10⟩ := h
  have hl : a < H.size := (Array.getElem?_eq_some_iff.mp g5).1
  refine ⟨?_, c, k, i, f, a, cell, g1, g2, g3, g4, g5, g6, g7, g8, g9, fun z => z.elim g10 (fun z => by omega)⟩
  rcases h1 with h1 | ⟨t, h1⟩
  · obtain ⟨cf, kf, fi, f, a, cell, e1, e2, e3, e4, e5, e6, e7, e8⟩ := h1
    have hl : a < H.size := (Array.getElem?_eq_some_iff.mp e5).1
    exact Or.inl ⟨cf, kf, fi, f, a, cell, e1, e2, e3, e4, e5, e6, e7, fun z => z.elim e8 (fun z => by omega)⟩
  · obtain ⟨cf, kf, fi, f, a, cell, e1, e2, e3, e4, e5, e6, e7, e8⟩ := h1
    have hl : a < H.size := (Array.getElem?_eq_some_iff.mp e5).1
    exact Or.inr ⟨t, cf, kf, fi, f, a, cell, e1, e2, e3, e4, e5, e6, e7, fun z => z.elim e8 (fun z => by omega)⟩
theorem zE.up {A : Nat → Prop} {U : State} {H : Heap} (h : zE A U H) : zE (fun q => A q ∨ H.size ≤ q) U H := ⟨zZ_up h.1, zZ_up h.2.1, h.2.2⟩
def zoa (o a : Nat) : Nat → Prop := fun q => q = o ∨ q = a
/-- a static method that throws E -/
def zXS (l : Launch) (y : MethodName) (fr need : Nat) (as : List Value) (E : String) : Prop :=
  ∃ (bytes : ByteArray) (maxL lo : Nat) (ret : Option FieldType), zS y bytes maxL ret ∧ need = 8 + (maxL + 11) + lo ∧
    (y.cls ≠ "java/lang/invoke/MethodHandle" ∧ y.cls ≠ "java/lang/invoke/VarHandle" ∧ (parseMethodDescriptor y.desc).map (fun d => d.parameters.length) = some as.length) ∧
    ∀ sz : Nat, vx_Met l y (Cond.code y bytes maxL ret :: T0) { frames := fr, cells := 1, slots := 6, locals := lo } (fun v U => v = as.toArray ∧ U.heap.size = sz ∧ zE (fun _ => False) U U.heap)
      (fun _ _ _ _ => False) (fun E' st t => E' = E ∧ va_F (fun q => sz ≤ q) st t) 1 6 (fun q => sz ≤ q)
/-- a method of the object that throws E -/
def zXI (l : Launch) (y : MethodName) (fr need : Nat) (D : va_G) (cJ : ClassId) (o a : Nat) (as : List Value) (c : Nat → Nat) (fs : List Value) (E : String) : Prop :=
  ∃ (bytes : ByteArray) (maxL lo : Nat) (ret : Option FieldType), zI y bytes maxL ret ∧ need = 8 + (maxL + 11) + lo ∧
    (y.cls = y.cls ∧ y.cls ≠ "java/lang/invoke/MethodHandle" ∧ y.cls ≠ "java/lang/invoke/VarHandle" ∧ (parseMethodDescriptor y.desc).map (fun d => d.parameters.length) = some as.length) ∧
    ∀ sz : Nat, vx_Met l y (Cond.code y bytes maxL ret :: T0) { frames := fr, cells := 1, slots := 6, locals := lo } (fun v U => v = (Value.ref o :: as).toArray ∧ U.heap.size = sz ∧ AtO D 2 cJ o a c fs U U.heap ∧ zE (zoa o a) U U.heap)
      (fun _ _ _ _ => False) (fun E' st t => E' = E ∧ AtO D 2 cJ o a c fs t t.heap ∧ va_F (zF o a sz) st t) 1 6 (zF o a sz)
abbrev zX1 (below : List Frame) (av : Array Value) (s : State) (E : String) : State → Prop :=
  vx_MQ below (fun _ _ _ _ => False) (fun E' st t => E' = E ∧ va_F (fun q => s.heap.size ≤ q) st t) av s 1 6 (fun q => s.heap.size ≤ q)
abbrev zX2 (below : List Frame) (D : va_G) (cJ : ClassId) (o a : Nat) (c : Nat → Nat) (fs : List Value) (av : Array Value) (s : State) (E : String) : State → Prop :=
  vx_MQ below (fun _ _ _ _ => False) (fun E' st t => E' = E ∧ AtO D 2 cJ o a c fs t t.heap ∧ va_F (zF o a s.heap.size) st t) av s 1 6 (zF o a s.heap.size)
theorem zXS.intro {l : Launch} {y : MethodName} {fr need lo nA : Nat} {as : List Value} {E : String} {cc : ByteArray} {maxL : Nat} {ret : Option FieldType} {own : String} (hz : zS y cc maxL ret) (hy : plainName y.cls = true) (ho : own = y.cls) (hn : need = 8 + (maxL + 11) + lo)
    (hd : y.cls ≠ "java/lang/invoke/MethodHandle" ∧ y.cls ≠ "java/lang/invoke/VarHandle" ∧ (parseMethodDescriptor y.desc).map (fun d => d.parameters.length) = some nA) (hA : as.length = nA) (hle : (lg_sl as).length ≤ maxL)
    (body : ∀ (p : Program) (e : Env) (s : State) (m : MethodId) (below : List Frame) (meth : Method) (c0 : Code) (ls : Array Slot), CallFix p m c0 cc maxL s as.toArray T0 own → (∀ x ∈ c0.exceptionTable.toList, False) → meth.locks = false → zE (fun _ => False) s s.heap → lv_has ls maxL (lv_args 0 as) →
      W p l e { frames := fr, cells := 1, slots := 6, locals := lo } s m as.toArray below meth c0 s.heap [] 0 0 (zX1 below as.toArray s E) (F0 m 0 ls [])) : zXS l y fr need as E := by
  subst hA
  refine ⟨cc, maxL, lo, ret, hz, hn, hd, fun sz => ?_⟩
  refine vx_ofW (ws' := T0) hy rfl ?_
  intro p e s m args below meth c0 s₁ B hml htab hv
  obtain ⟨hv, hsz, hE⟩ := hv
  subst hv
  subst hsz
  have hts := atoms_spec (ws := Cond.code y cc maxL ret :: T0) B.pre
  have hown : s.vm.findClass own = some m.cls := by rw [ho]; exact findClass_of_methodNamed B.named
  rw [lg_entry_eq]
  exact body p e s m below meth c0 _ ⟨B.exec, B.bytes, hml, hown, fun w h => hts w (List.mem_cons_of_mem _ h)⟩ htab B.notSynchronized hE (lv_entry as hle)
theorem zXI.intro {l : Launch} {y : MethodName} {fr need lo nA : Nat} {D : va_G} {cJ : ClassId} {o a : Nat} {as : List Value} {c : Nat → Nat} {fs : List Value} {E : String} {cc : ByteArray} {maxL : Nat} {ret : Option FieldType} {own : String} (hz : zI y cc maxL ret) (hy : plainName y.cls = true) (ho : own = y.cls) (hn : need = 8 + (maxL + 11) + lo)
    (hd : y.cls ≠ "java/lang/invoke/MethodHandle" ∧ y.cls ≠ "java/lang/invoke/VarHandle" ∧ (parseMethodDescriptor y.desc).map (fun d => d.parameters.length) = some nA) (hA : as.length = nA) (hle : (lg_sl (.ref o :: as)).length ≤ maxL)
    (body : ∀ (p : Program) (e : Env) (s : State) (m : MethodId) (below : List Frame) (meth : Method) (c0 : Code) (ls : Array Slot), CallFix p m c0 cc maxL s (Value.ref o :: as).toArray T0 own → (∀ x ∈ c0.exceptionTable.toList, False) → meth.locks = false → zIn D 2 cJ o a c fs s s.heap [] → zE (zoa o a) s s.heap → lv_has ls maxL (lv_args 0 (.ref o :: as)) →
      W p l e { frames := fr, cells := 1, slots := 6, locals := lo } s m (Value.ref o :: as).toArray below meth c0 s.heap [] 0 0 (zX2 below D cJ o a c fs (Value.ref o :: as).toArray s E) (F0 m 0 ls [])) : zXI l y fr need D cJ o a as c fs E := by
  subst hA
  refine ⟨cc, maxL, lo, ret, hz, hn, ⟨rfl, hd⟩, fun sz => ?_⟩
  refine vx_ofW (ws' := T0) hy rfl ?_
  intro p e s m args below meth c0 s₁ B hml htab hv
  obtain ⟨hv, hsz, hAt, hE⟩ := hv
  subst hv
  subst hsz
  have hts := atoms_spec (ws := Cond.code y cc maxL ret :: T0) B.pre
  have hown : s.vm.findClass own = some m.cls := by rw [ho]; exact findClass_of_methodNamed B.named
  rw [lg_entry_eq]
  exact body p e s m below meth c0 _ ⟨B.exec, B.bytes, hml, hown, fun w h => hts w (List.mem_cons_of_mem _ h)⟩ htab B.notSynchronized ⟨hAt, va_S.rf⟩ hE (lv_entry (.ref o :: as) hle)
end TA
section TB
variable {p : Program} {l : Launch} {e : Env} {R : Room} {s : State} {m : MethodId} {args : Array Value} {below : List Frame} {meth : Method} {c : Code} {H : Heap} {locs : List Loc} {cells slots : Nat} {Q : State → Prop}
variable {cc : ByteArray} {pc nL : Nat} {ls : Array Slot} {rest st : List Value} {own : String} {lv : List (Nat × Value)} {D : va_G} {cJ : ClassId} {o a : Nat} {ce : Nat → Nat} {fs : List Value} {E : String}
/-- the throw itself -/
theorem zx_throwI (C : CallFix p m c cc nL s args T0 RX3) (hl : l.stackTraces = false) (hE : zE (fun _ => False) s s.heap) (htab : ∀ x ∈ c.exceptionTable.toList, False) (hk : meth.locks = false) (B : zIn D 2 cJ o a ce fs s s.heap []) (hls : lv_has ls nL lv)
    (d0 : decode cc pc = .ok (.new 203, 3)) (d3 : decode cc (pc + 3) = .ok (.dup, 1)) (d4 : decode cc (pc + 4) = .ok (.ldc 205, 2)) (d6 : decode cc (pc + 6) = .ok (.invokespecial 207, 3)) (d9 : decode cc (pc + 9) = .ok (.athrow, 1)) (hR : 5 < R.frames ∧ 82 ≤ R.locals ∧ 1 ≤ R.cells ∧ 6 ≤ R.slots) :
    W p l e R s m args below meth c s.heap [] 0 0 (zX2 below D cJ o a ce fs args s "java/lang/IndexOutOfBoundsException") (F0 m pc ls []) := by
  obtain ⟨sa, hsa⟩ := hE.2.2.1
  refine vx_throwS (A := fun q => False ∨ s.heap.size ≤ q) C.1 C.2.1 hl C.2.2.2.1 (by decide +kernel) (by decide +kernel) (C.2.2.2.2 _ (T0_of cl_X3_203 rfl)) (C.2.2.2.2 _ (T0_of ini_java_lang_IndexOutOfBoundsException rfl)) hsa (fun w hw => zW_move (State.WarmedH.refl s) (xI_ok w hw) (hE.2.2.2.2.1 w hw)) (by decide +kernel) (zZ_up hE.1) (zZ_up hE.2.1) va_S.rf (hls.1.trans C.2.2.1.symm) d0 d3 d4 d6 d9 (fun x hx => (htab x hx).elim) (by simpa using hR.1) (by simpa using hR.2.1) hR.2.2.1 hR.2.2.2 hk (fun t ha hsz hq => ?_) (fun z hz => nomatch hz) (Nat.le_refl _) (Nat.le_refl _)
  have hlt := B.1.lt
  exact ⟨rfl, (B.1.kept (hq o hlt.1) (hq a hlt.2)).moved ha, hsz, fun q h1 _ => hq q h1⟩
theorem zx_throwA (C : CallFix p m c cc nL s args T0 RX3) (hl : l.stackTraces = false) (hE : zE (fun _ => False) s s.heap) (htab : ∀ x ∈ c.exceptionTable.toList, False) (hk : meth.locks = false) (hls : lv_has ls nL lv)
    (d0 : decode cc pc = .ok (.new 210, 3)) (d3 : decode cc (pc + 3) = .ok (.dup, 1)) (d4 : decode cc (pc + 4) = .ok (.ldc 212, 2)) (d6 : decode cc (pc + 6) = .ok (.invokespecial 214, 3)) (d9 : decode cc (pc + 9) = .ok (.athrow, 1)) (hR : 5 < R.frames ∧ 82 ≤ R.locals ∧ 1 ≤ R.cells ∧ 6 ≤ R.slots) :
    W p l e R s m args below meth c s.heap [] 0 0 (zX1 below args s "java/lang/IllegalArgumentException") (F0 m pc ls []) := by
  obtain ⟨sa, hsa⟩ := hE.2.2.2.1
  refine vx_throwS (A := fun q => False ∨ s.heap.size ≤ q) C.1 C.2.1 hl C.2.2.2.1 (by decide +kernel) (by decide +kernel) (C.2.2.2.2 _ (T0_of cl_X3_210 rfl)) (C.2.2.2.2 _ (T0_of ini_java_lang_IllegalArgumentException rfl)) hsa (fun w hw => zW_move (State.WarmedH.refl s) (xA_ok w hw) (hE.2.2.2.2.2 w hw)) (by decide +kernel) (zZ_up hE.1) (zZ_up hE.2.1) va_S.rf (hls.1.trans C.2.2.1.symm) d0 d3 d4 d6 d9 (fun x hx => (htab x hx).elim) (by simpa using hR.1) (by simpa using hR.2.1) hR.2.2.1 hR.2.2.2 hk (fun t ha hsz hq => ?_) (fun z hz => nomatch hz) (Nat.le_refl _) (Nat.le_refl _)
  exact ⟨rfl, hsz, fun q h1 _ => hq q h1⟩
end TB
section TC
variable {p : Program} {l : Launch} {e : Env} {R : Room} {s : State} {m : MethodId} {args : Array Value} {below : List Frame} {meth : Method} {c : Code} {H : Heap} {locs : List Loc} {cells slots : Nat} {Q : State → Prop}
variable {cc : ByteArray} {pc nL : Nat} {ls : Array Slot} {rest st : List Value} {own : String} {lv : List (Nat × Value)} {D : va_G} {cJ : ClassId} {o a : Nat} {ce : Nat → Nat} {fs : List Value} {E : String}
/-- a call of a static method that throws; it goes through -/
theorem zx_callS (C : CallFix p m c cc nL s args T0 own) (B : zIn D 2 cJ o a ce fs s H locs) (Zs : zE (zoa o a) s s.heap) (htab : ∀ x ∈ c.exceptionTable.toList, False) (hk : meth.locks = false) {y : MethodName} {fr need idx : Nat} {as : List Value} (hM : zXS l y fr need as E) (hG : Cond.methodLink own idx y ∈ lw_tbl)
    (hR : fr + 1 ≤ R.frames ∧ need ≤ R.locals) (hf : cells + 1 ≤ R.cells ∧ slots + 6 ≤ R.slots) (hc : cells + 1 ≤ 1 ∧ slots + 6 ≤ 6) (hl : lv_has ls nL lv) (hcat : (rest.map fun v => v.category).sum ≤ 8) (hst : st = as.reverse ++ rest) (d : decode cc pc = .ok (.invokestatic idx, 3)) :
    W p l e R s m args below meth c H locs cells slots (zX2 below D cJ o a ce fs args s E) (F0 m pc ls st) := by
  obtain ⟨bytes, maxL, lo, ret, hz, hn, hd, hM⟩ := hM
  have hM := hM H.size
  have hEH : zE (fun _ => False) s H := (Zs.up.kept (fun q h1 h2 => B.2.2.1 q h1 (fun z => h2 (by rcases z with z | z | z; exact Or.inl (Or.inl z); exact Or.inl (Or.inr z); exact Or.inr z)))).narrow (fun _ z => z.elim)
  have cw := va_cwS (R := R) (own := own) (index := idx) (y := y) (bytes := bytes) (maxL := maxL) (ret := ret) (ws := Cond.code y bytes maxL ret :: T0) (ws' := T0) (rm := { frames := fr, cells := 1, slots := 6, locals := lo }) (mc := 1) (ms := 6) as.length C.2.2.2.2 (zg hG hz) rfl rfl rfl hd ⟨hR.1, by rw [hn] at hR; exact hR.2⟩
  have hr := vx_runS (p := p) (l := l) (e := e) (below := below) (meth := meth) (c := c) (H := H) (locs := locs) (cells := cells) (slots := slots) (g := F0 m pc ls st) (rest := rest) C hM cw ⟨fun A U g mk q => ⟨q.1, q.2.1, q.2.2.warm (State.WarmedH.refl U)⟩, fun U hU hW => ⟨rfl, by rw [hU], by rw [hU]; exact hEH.warm hW⟩⟩ rfl rfl hl.1 hst (lv_room hcat) d hf
  intro T hT X
  rcases hr T hT X with ⟨v, st₀, t, T', L, h0, X', hL, e1, e2, hq, st2⟩ | ⟨q, st₀, t, T', L, E', ce', h0, X', hL, e1, e2, hq, hce, hcv, hcl, st2⟩
  · exact hq.elim
  · obtain ⟨hE', hz2, hk2⟩ := hq
    subst hE'
    rw [h0] at hz2 hk2
    have hss : s.heap.size ≤ H.size := B.2.1
    have hlt := B.1.lt
    have hAt : AtO D 2 cJ o a ce fs s T'.heap := B.1.kept (by rw [e1]; exact hk2 o hlt.1 (by omega)) (by rw [e1]; exact hk2 a hlt.2 (by omega))
    have hF : H.size ≤ T'.heap.size ∧ ∀ q : Nat, q < s.heap.size → ¬ zF o a s.heap.size q → T'.heap[q]? = s.heap[q]? := ⟨by rw [e1]; exact hz2, fun q h1 h2 => by rw [e1, hk2 q (by omega) (by omega)]; exact B.2.2.1 q h1 h2⟩
    have kx := vx_out (p := p) (l := l) (e := e) (R := R) (s := s) (m := m) (args := args) (below := below) (meth := meth) (c := c) (H := T'.heap) (locs := locs ++ L) (cells := cells + 1) (slots := slots + 6) (ls := ls) (rest := rest) (Qc := fun _ _ _ _ => False) (XC := fun E2 st t => E2 = E' ∧ AtO D 2 cJ o a ce fs t t.heap ∧ va_F (zF o a s.heap.size) st t) (free := zF o a s.heap.size) (pc := pc) (E := E') (ce := ce') (q := q) (mc := 1) (ms := 6)
      (fun x hx => (htab x hx).elim) hk (by rw [e1]; exact hce) hcv hcl (fun t9 ht9 ha => ⟨rfl, by rw [ht9]; exact hAt.moved ha, by rw [ht9]; exact Nat.le_trans hss hF.1, fun q h1 h2 => by rw [ht9]; exact hF.2 q h1 h2⟩) (fun z hz9 => by
        rcases List.mem_append.mp hz9 with h | h
        · exact B.2.2.2 z h
        · exact Or.inr (Or.inr (Nat.le_trans hss (hL z h)))) hc.1 hc.2
    obtain ⟨t2, a1, b1⟩ := kx T' rfl X'
    exact ⟨t2, st2.trans a1, b1⟩
/-- a call of one of the object's own methods that throws; it goes through -/
theorem zx_callI (C : CallFix p m c cc nL s args T0 own) (B : zIn D 2 cJ o a ce fs s H locs) (Zs : zE (zoa o a) s s.heap) (htab : ∀ x ∈ c.exceptionTable.toList, False) (hk : meth.locks = false) {y : MethodName} {fr need idx : Nat} {as : List Value} {T : u_T} {N : Nat} (hM : zXI l y fr need D cJ o a as ce fs E) (hG : Cond.methodLink own idx y ∈ lw_tbl) (hcl : vwCl[2]? = some (y.cls, T, N))
    (hR : fr + 1 ≤ R.frames ∧ need ≤ R.locals) (hf : cells + 1 ≤ R.cells ∧ slots + 6 ≤ R.slots) (hc : cells + 1 ≤ 1 ∧ slots + 6 ≤ 6) (hl : lv_has ls nL lv) (hcat : (rest.map fun v => v.category).sum ≤ 8) (hst : st = as.reverse ++ .ref o :: rest) (d : decode cc pc = .ok (.invokevirtual idx, 3)) :
    W p l e R s m args below meth c H locs cells slots (zX2 below D cJ o a ce fs args s E) (F0 m pc ls st) := by
  obtain ⟨bytes, maxL, lo, ret, hz, hn, hd, hM⟩ := hM
  have hM := hM H.size
  have hEH : zE (zoa o a) s H := (Zs.up.kept (fun q h1 h2 => B.2.2.1 q h1 (fun z => h2 (by rcases z with z | z | z; exact Or.inl (Or.inl z); exact Or.inl (Or.inr z); exact Or.inr z)))).narrow (fun _ z => Or.inl z)
  have cw := cwV (R := R) (own := own) (index := idx) (C := y.cls) (y := y) (bytes := bytes) (maxL := maxL) (ret := ret) (ws := Cond.code y bytes maxL ret :: T0) (ws' := T0) (rm := { frames := fr, cells := 1, slots := 6, locals := lo }) (mc := 1) (ms := 6) as.length C.2.2.2.2 (zgV hG hz) rfl rfl rfl hd ⟨hR.1, by rw [hn] at hR; exact hR.2⟩
  have hr := vx_runV (p := p) (l := l) (e := e) (below := below) (meth := meth) (c := c) (H := H) (locs := locs) (cells := cells) (slots := slots) (g := F0 m pc ls st) (rest := rest) C hM cw ⟨fun A U g mk q => ⟨q.1, q.2.1, q.2.2.1.moved (U := U.calling g mk A) (Vm.Alike.refl U.vm), q.2.2.2.warm (State.WarmedH.refl U)⟩, va_recv B.1.2.1 B.1.1 (ci := 2) (q0 := 0) hcl rfl, fun U hU hW => ⟨rfl, by rw [hU], by rw [hU]; exact B.1.moved hW.alike, by rw [hU]; exact hEH.warm hW⟩⟩ rfl rfl hl.1 hst (lv_room hcat) d hf
  intro T9 hT X
  rcases hr T9 hT X with ⟨v, st₀, t, T', L, h0, X', hL, e1, e2, hq, st2⟩ | ⟨q, st₀, t, T', L, E', ce', h0, X', hL, e1, e2, hq, hce, hcv, hcl, st2⟩
  · exact hq.elim
  · obtain ⟨hE', hAt0, hz2, hk2⟩ := hq
    subst hE'
    rw [h0] at hz2 hk2
    have hss : s.heap.size ≤ H.size := B.2.1
    have hsub : ∀ q, zF o a H.size q → zF o a s.heap.size q := by
      intro q hq
      rcases hq with h | h | h
      · exact Or.inl h
      · exact Or.inr (Or.inl h)
      · exact Or.inr (Or.inr (Nat.le_trans hss h))
    have hAt : AtO D 2 cJ o a ce fs s T'.heap := by rw [e1]; exact hAt0.moved (by rw [← e2]; exact X'.warmed.alike.symm)
    have hF : H.size ≤ T'.heap.size ∧ ∀ q : Nat, q < s.heap.size → ¬ zF o a s.heap.size q → T'.heap[q]? = s.heap[q]? := ⟨by rw [e1]; exact hz2, fun q h1 h2 => by rw [e1, hk2 q (by omega) (fun z => h2 (hsub q z))]; exact B.2.2.1 q h1 h2⟩
    have kx := vx_out (p := p) (l := l) (e := e) (R := R) (s := s) (m := m) (args := args) (below := below) (meth := meth) (c := c) (H := T'.heap) (locs := locs ++ L) (cells := cells + 1) (slots := slots + 6) (ls := ls) (rest := rest) (Qc := fun _ _ _ _ => False) (XC := fun E2 st t => E2 = E' ∧ AtO D 2 cJ o a ce fs t t.heap ∧ va_F (zF o a s.heap.size) st t) (free := zF o a s.heap.size) (pc := pc) (E := E') (ce := ce') (q := q) (mc := 1) (ms := 6)
      (fun x hx => (htab x hx).elim) hk (by rw [e1]; exact hce) hcv hcl (fun t9 ht9 ha => ⟨rfl, by rw [ht9]; exact hAt.moved ha, by rw [ht9]; exact Nat.le_trans hss hF.1, fun q h1 h2 => by rw [ht9]; exact hF.2 q h1 h2⟩) (fun z hz9 => by
        rcases List.mem_append.mp hz9 with h | h
        · exact B.2.2.2 z h
        · exact hsub _ (hL z h)) hc.1 hc.2
    obtain ⟨t2, a1, b1⟩ := kx T' rfl X'
    exact ⟨t2, st2.trans a1, b1⟩
end TC
set_option maxHeartbeats 4000000 in
set_option maxRecDepth 100000 in
theorem c_X3_checkCell_bad (l : Launch) (hlq : l.stackTraces = false) (D : va_G) (cJ : ClassId) (o a : Nat) (c : Nat → Nat) (ac : Int32) (re : Int32) (kn : Int32) (z : Int) (r9z : -2147483648 ≤ z ∧ z ≤ 2147483647) (hbad : ¬ (0 ≤ z ∧ z ≤ 5)) : zXI l yX3_checkCell 6 103 D cJ o a [.int (iZ (z))] c [.int (ac), .int (re), .int (kn)] "java/lang/IndexOutOfBoundsException" := by
  refine zXI.intro (lo := 82) (nA := 1) (own := RX3) zi_X3_checkCell (by decide) rfl rfl (by decide +kernel) rfl (Nat.le_of_ble_eq_true rfl) ?_
  intro p e s m below meth c0 ls C htab hk B Zs hl
  have hl : lv_has ls 2 [(0, .ref o), (1, .int (iZ (z)))] := hl
  refine lv_iload_n C.1 C.2.1 dX3_checkCell_0 rfl (lv_at hl 1 rfl) ?_
  refine z_if_lt (tgt := 13) C (by omega) dX3_checkCell_1 (by decide) (fun h1 => ?_) (fun h1 => ?_)
  · exact zx_throwI C hlq (Zs.narrow (fun _ z => z.elim)) htab hk B hl dX3_checkCell_13 dX3_checkCell_16 dX3_checkCell_17 dX3_checkCell_19 dX3_checkCell_22 ⟨Nat.le_of_ble_eq_true rfl, Nat.le_of_ble_eq_true rfl, Nat.le_of_ble_eq_true rfl, Nat.le_of_ble_eq_true rfl⟩
  · refine lv_iload_n C.1 C.2.1 dX3_checkCell_4 rfl (lv_at hl 1 rfl) ?_
    refine lv_aload_n C.1 C.2.1 dX3_checkCell_5 rfl (lv_at hl 0 rfl) ?_
    refine zo_get C B (Cn := RX3) (T := TX3) (N := 4) (v := .ref a) rfl inX3 0 (by decide) fl_X3_9 rfl rfl dX3_checkCell_6 ?_
    refine zo_alen C B dX3_checkCell_9 ?_
    refine z_icmp_lt (tgt := 23) C (by omega) (by omega) dX3_checkCell_10 (by decide) (fun h10 => ?_) (fun h10 => ?_)
    · exact absurd h10 (by omega)
    · exact zx_throwI C hlq (Zs.narrow (fun _ z => z.elim)) htab hk B hl dX3_checkCell_13 dX3_checkCell_16 dX3_checkCell_17 dX3_checkCell_19 dX3_checkCell_22 ⟨Nat.le_of_ble_eq_true rfl, Nat.le_of_ble_eq_true rfl, Nat.le_of_ble_eq_true rfl, Nat.le_of_ble_eq_true rfl⟩

set_option maxHeartbeats 4000000 in
set_option maxRecDepth 100000 in
theorem c_X3_checkRange_bad (l : Launch) (hlq : l.stackTraces = false) (v : Int) (a : Int) (b : Int) (r9v : -2147483648 ≤ v ∧ v ≤ 2147483647) (r9a : -2147483648 ≤ a ∧ a ≤ 2147483647) (r9b : -2147483648 ≤ b ∧ b ≤ 2147483647) (hbad : ¬ (a ≤ v ∧ v ≤ b)) : zXS l yX3_checkRange 6 104 [.int (iZ (v)), .int (iZ (a)), .int (iZ (b))] "java/lang/IllegalArgumentException" := by
  refine zXS.intro (lo := 82) (nA := 3) (own := RX3) zs_X3_checkRange (by decide) rfl rfl (by decide +kernel) rfl (Nat.le_of_ble_eq_true rfl) ?_
  intro p e s m below meth c0 ls C htab hk Zs hl
  have hl : lv_has ls 3 [(0, .int (iZ (v))), (1, .int (iZ (a))), (2, .int (iZ (b)))] := hl
  refine lv_iload_n C.1 C.2.1 dX3_checkRange_0 rfl (lv_at hl 0 rfl) ?_
  refine lv_iload_n C.1 C.2.1 dX3_checkRange_1 rfl (lv_at hl 1 rfl) ?_
  refine z_icmp_lt (tgt := 10) C (by omega) (by omega) dX3_checkRange_2 (by decide) (fun h2 => ?_) (fun h2 => ?_)
  · exact zx_throwA C hlq Zs htab hk hl dX3_checkRange_10 dX3_checkRange_13 dX3_checkRange_14 dX3_checkRange_16 dX3_checkRange_19 ⟨Nat.le_of_ble_eq_true rfl, Nat.le_of_ble_eq_true rfl, Nat.le_of_ble_eq_true rfl, Nat.le_of_ble_eq_true rfl⟩
  · refine lv_iload_n C.1 C.2.1 dX3_checkRange_5 rfl (lv_at hl 0 rfl) ?_
    refine lv_iload_n C.1 C.2.1 dX3_checkRange_6 rfl (lv_at hl 2 rfl) ?_
    refine z_icmp_le (tgt := 20) C (by omega) (by omega) dX3_checkRange_7 (by decide) (fun h7 => ?_) (fun h7 => ?_)
    · exact absurd h7 (by omega)
    · exact zx_throwA C hlq Zs htab hk hl dX3_checkRange_10 dX3_checkRange_13 dX3_checkRange_14 dX3_checkRange_16 dX3_checkRange_19 ⟨Nat.le_of_ble_eq_true rfl, Nat.le_of_ble_eq_true rfl, Nat.le_of_ble_eq_true rfl, Nat.le_of_ble_eq_true rfl⟩

set_option maxHeartbeats 4000000 in
set_option maxRecDepth 100000 in
theorem c_X3_polyIn_bad (l : Launch) (hlq : l.stackTraces = false) (D : va_G) (cJ : ClassId) (o a : Nat) (c : Nat → Nat) (ac : Int32) (re : Int32) (kn : Int32) (z : Int) (r9z : -2147483648 ≤ z ∧ z ≤ 2147483647) (hbad : ¬ (0 ≤ z ∧ z ≤ 5)) : zXI l yX3_polyIn 7 124 D cJ o a [.int (iZ (z))] c [.int (ac), .int (re), .int (kn)] "java/lang/IndexOutOfBoundsException" := by
  refine zXI.intro (lo := 103) (nA := 1) (own := RX3) zi_X3_polyIn (by decide) rfl rfl (by decide +kernel) rfl (Nat.le_of_ble_eq_true rfl) ?_
  intro p e s m below meth c0 ls C htab hk B Zs hl
  have hl : lv_has ls 2 [(0, .ref o), (1, .int (iZ (z)))] := hl
  refine lv_aload_n C.1 C.2.1 dX3_polyIn_0 rfl (lv_at hl 0 rfl) ?_
  refine lv_iload_n C.1 C.2.1 dX3_polyIn_1 rfl (lv_at hl 1 rfl) ?_
  by_cases hq2 : 0 ≤ (z) ∧ (z) ≤ 5
  rotate_left
  · exact zx_callI C B Zs htab hk (c_X3_checkCell_bad l hlq D cJ o a (c) ac re kn (z) (by first | omega | assumption) (by first | omega | assumption)) ml_X3_23 rfl ⟨Nat.le_of_ble_eq_true rfl, Nat.le_of_ble_eq_true rfl⟩ ⟨Nat.le_of_ble_eq_true rfl, Nat.le_of_ble_eq_true rfl⟩ ⟨Nat.le_of_ble_eq_true rfl, Nat.le_of_ble_eq_true rfl⟩ hl (Nat.le_of_ble_eq_true rfl) rfl dX3_polyIn_2
  exfalso; omega

set_option maxHeartbeats 4000000 in
set_option maxRecDepth 100000 in
theorem c_X3_put_badc (l : Launch) (hlq : l.stackTraces = false) (D : va_G) (cJ : ClassId) (o a : Nat) (c : Nat → Nat) (ac : Int32) (re : Int32) (kn : Int32) (z : Int) (g : Int) (r9z : -2147483648 ≤ z ∧ z ≤ 2147483647) (r9g : -2147483648 ≤ g ∧ g ≤ 2147483647) (hbad : ¬ ((0 ≤ z ∧ z ≤ 5))) : zXI l yX3_put 7 125 D cJ o a [.int (iZ (z)), .int (iZ (g))] c [.int (ac), .int (re), .int (kn)] "java/lang/IndexOutOfBoundsException" := by
  refine zXI.intro (lo := 103) (nA := 2) (own := RX3) zi_X3_put (by decide) rfl rfl (by decide +kernel) rfl (Nat.le_of_ble_eq_true rfl) ?_
  intro p e s m below meth c0 ls C htab hk B Zs hl
  have hl : lv_has ls 3 [(0, .ref o), (1, .int (iZ (z))), (2, .int (iZ (g)))] := hl
  refine lv_aload_n C.1 C.2.1 dX3_put_0 rfl (lv_at hl 0 rfl) ?_
  refine lv_iload_n C.1 C.2.1 dX3_put_1 rfl (lv_at hl 1 rfl) ?_
  by_cases hq2 : 0 ≤ (z) ∧ (z) ≤ 5
  rotate_left
  · exact zx_callI C B Zs htab hk (c_X3_checkCell_bad l hlq D cJ o a (c) ac re kn (z) (by first | omega | assumption) (by first | omega | assumption)) ml_X3_23 rfl ⟨Nat.le_of_ble_eq_true rfl, Nat.le_of_ble_eq_true rfl⟩ ⟨Nat.le_of_ble_eq_true rfl, Nat.le_of_ble_eq_true rfl⟩ ⟨Nat.le_of_ble_eq_true rfl, Nat.le_of_ble_eq_true rfl⟩ hl (Nat.le_of_ble_eq_true rfl) rfl dX3_put_2
  exfalso; omega

set_option maxHeartbeats 4000000 in
set_option maxRecDepth 100000 in
theorem c_X3_mono_badc (l : Launch) (hlq : l.stackTraces = false) (D : va_G) (cJ : ClassId) (o a : Nat) (c : Nat → Nat) (ac : Int32) (re : Int32) (kn : Int32) (z : Int) (g : Int) (r9z : -2147483648 ≤ z ∧ z ≤ 2147483647) (r9g : -2147483648 ≤ g ∧ g ≤ 2147483647) (hbad : ¬ ((0 ≤ z ∧ z ≤ 5))) : zXI l yX3_mono 7 125 D cJ o a [.int (iZ (z)), .int (iZ (g))] c [.int (ac), .int (re), .int (kn)] "java/lang/IndexOutOfBoundsException" := by
  refine zXI.intro (lo := 103) (nA := 2) (own := RX3) zi_X3_mono (by decide) rfl rfl (by decide +kernel) rfl (Nat.le_of_ble_eq_true rfl) ?_
  intro p e s m below meth c0 ls C htab hk B Zs hl
  have hl : lv_has ls 3 [(0, .ref o), (1, .int (iZ (z))), (2, .int (iZ (g)))] := hl
  refine lv_aload_n C.1 C.2.1 dX3_mono_0 rfl (lv_at hl 0 rfl) ?_
  refine lv_iload_n C.1 C.2.1 dX3_mono_1 rfl (lv_at hl 1 rfl) ?_
  by_cases hq2 : 0 ≤ (z) ∧ (z) ≤ 5
  rotate_left
  · exact zx_callI C B Zs htab hk (c_X3_checkCell_bad l hlq D cJ o a (c) ac re kn (z) (by first | omega | assumption) (by first | omega | assumption)) ml_X3_23 rfl ⟨Nat.le_of_ble_eq_true rfl, Nat.le_of_ble_eq_true rfl⟩ ⟨Nat.le_of_ble_eq_true rfl, Nat.le_of_ble_eq_true rfl⟩ ⟨Nat.le_of_ble_eq_true rfl, Nat.le_of_ble_eq_true rfl⟩ hl (Nat.le_of_ble_eq_true rfl) rfl dX3_mono_2
  exfalso; omega

set_option maxHeartbeats 4000000 in
set_option maxRecDepth 100000 in
theorem c_X3_mono_badr (l : Launch) (hlq : l.stackTraces = false) (D : va_G) (cJ : ClassId) (o a : Nat) (c : Nat → Nat) (ac : Int32) (re : Int32) (kn : Int32) (z : Int) (g : Int) (r9z : -2147483648 ≤ z ∧ z ≤ 2147483647) (r9g : -2147483648 ≤ g ∧ g ≤ 2147483647) (hz : 0 ≤ z ∧ z ≤ 5) (hbad : ¬ ((0 ≤ g ∧ g ≤ 32))) : zXI l yX3_mono 7 126 D cJ o a [.int (iZ (z)), .int (iZ (g))] c [.int (ac), .int (re), .int (kn)] "java/lang/IllegalArgumentException" := by
  refine zXI.intro (lo := 104) (nA := 2) (own := RX3) zi_X3_mono (by decide) rfl rfl (by decide +kernel) rfl (Nat.le_of_ble_eq_true rfl) ?_
  intro p e s m below meth c0 ls C htab hk B Zs hl
  have hl : lv_has ls 3 [(0, .ref o), (1, .int (iZ (z))), (2, .int (iZ (g)))] := hl
  refine lv_aload_n C.1 C.2.1 dX3_mono_0 rfl (lv_at hl 0 rfl) ?_
  refine lv_iload_n C.1 C.2.1 dX3_mono_1 rfl (lv_at hl 1 rfl) ?_
  refine zo_callD C B (r := none) (c_X3_checkCell l D cJ o a (c) (ac) (re) (kn) (z) (by first | assumption | omega | rfl | exact decide_eq_false (by omega) | exact decide_eq_true (by assumption) | exact decide_eq_true (by omega) | exact one_shl33 (by omega) | exact pm_lt _ _ | exact rm_lt (by first | assumption | exact pm_lt _ _) | exact Nat.lt_of_le_of_lt (Nat.shiftRight_le _ _) (by assumption) | exact Nat.lt_of_le_of_lt Nat.and_le_right (by omega))) ml_X3_23 rfl ⟨Nat.le_of_ble_eq_true rfl, Nat.le_of_ble_eq_true rfl⟩ ⟨Nat.le_of_ble_eq_true rfl, Nat.le_of_ble_eq_true rfl⟩ hl (Nat.le_of_ble_eq_true rfl) rfl dX3_mono_2 (fun H locs B => ?_)
  refine lv_iload_n C.1 C.2.1 dX3_mono_5 rfl (lv_at hl 2 rfl) ?_
  refine z_iconst C dX3_mono_6 ?_
  refine z_bipush C dX3_mono_7 (by decide) ?_
  by_cases hq9 : (0 : Int) ≤ (g) ∧ (g) ≤ (32 : Int)
  rotate_left
  · exact zx_callS C B Zs htab hk (c_X3_checkRange_bad l hlq (g) (0 : Int) (32 : Int) (by first | omega | assumption) (by first | omega | assumption) (by first | omega | assumption) (by first | omega | assumption)) ml_X3_33 ⟨Nat.le_of_ble_eq_true rfl, Nat.le_of_ble_eq_true rfl⟩ ⟨Nat.le_of_ble_eq_true rfl, Nat.le_of_ble_eq_true rfl⟩ ⟨Nat.le_of_ble_eq_true rfl, Nat.le_of_ble_eq_true rfl⟩ hl (Nat.le_of_ble_eq_true rfl) rfl dX3_mono_9
  exfalso; omega

set_option maxHeartbeats 4000000 in
set_option maxRecDepth 100000 in
theorem c_X3_digit_badc (l : Launch) (hlq : l.stackTraces = false) (D : va_G) (cJ : ClassId) (o a : Nat) (c : Nat → Nat) (ac : Int32) (re : Int32) (kn : Int32) (z : Int) (g : Int) (b : Bool) (r9z : -2147483648 ≤ z ∧ z ≤ 2147483647) (r9g : -2147483648 ≤ g ∧ g ≤ 2147483647) (hbad : ¬ ((0 ≤ z ∧ z ≤ 5))) : zXI l yX3_digit 8 149 D cJ o a [.int (iZ (z)), .int (iZ (g)), .int (iZ (zB (b)))] c [.int (ac), .int (re), .int (kn)] "java/lang/IndexOutOfBoundsException" := by
  refine zXI.intro (lo := 124) (nA := 3) (own := RX3) zi_X3_digit (by decide) rfl rfl (by decide +kernel) rfl (Nat.le_of_ble_eq_true rfl) ?_
  intro p e s m below meth c0 ls C htab hk B Zs hl
  have hl : lv_has ls 6 [(0, .ref o), (1, .int (iZ (z))), (2, .int (iZ (g))), (3, .int (iZ (zB (b))))] := hl
  refine lv_aload_n C.1 C.2.1 dX3_digit_0 rfl (lv_at hl 0 rfl) ?_
  refine lv_iload_n C.1 C.2.1 dX3_digit_1 rfl (lv_at hl 1 rfl) ?_
  by_cases hq2 : 0 ≤ (z) ∧ (z) ≤ 5
  rotate_left
  · exact zx_callI C B Zs htab hk (c_X3_polyIn_bad l hlq D cJ o a (c) ac re kn (z) (by first | omega | assumption) (by first | omega | assumption)) ml_X3_43 rfl ⟨Nat.le_of_ble_eq_true rfl, Nat.le_of_ble_eq_true rfl⟩ ⟨Nat.le_of_ble_eq_true rfl, Nat.le_of_ble_eq_true rfl⟩ ⟨Nat.le_of_ble_eq_true rfl, Nat.le_of_ble_eq_true rfl⟩ hl (Nat.le_of_ble_eq_true rfl) rfl dX3_digit_2
  exfalso; omega

set_option maxHeartbeats 4000000 in
set_option maxRecDepth 100000 in
theorem c_X3_digit_badr (l : Launch) (hlq : l.stackTraces = false) (D : va_G) (cJ : ClassId) (o a : Nat) (c : Nat → Nat) (ac : Int32) (re : Int32) (kn : Int32) (z : Int) (g : Int) (b : Bool) (r9z : -2147483648 ≤ z ∧ z ≤ 2147483647) (r9g : -2147483648 ≤ g ∧ g ≤ 2147483647) (hz : 0 ≤ z ∧ z ≤ 5) (hbad : ¬ ((0 ≤ g ∧ g ≤ 32))) : zXI l yX3_digit 7 129 D cJ o a [.int (iZ (z)), .int (iZ (g)), .int (iZ (zB (b)))] c [.int (ac), .int (re), .int (kn)] "java/lang/IllegalArgumentException" := by
  refine zXI.intro (lo := 104) (nA := 3) (own := RX3) zi_X3_digit (by decide) rfl rfl (by decide +kernel) rfl (Nat.le_of_ble_eq_true rfl) ?_
  intro p e s m below meth c0 ls C htab hk B Zs hl
  have hl : lv_has ls 6 [(0, .ref o), (1, .int (iZ (z))), (2, .int (iZ (g))), (3, .int (iZ (zB (b))))] := hl
  refine lv_aload_n C.1 C.2.1 dX3_digit_0 rfl (lv_at hl 0 rfl) ?_
  refine lv_iload_n C.1 C.2.1 dX3_digit_1 rfl (lv_at hl 1 rfl) ?_
  refine zo_callD C B (r := some (.long (lN ((c) (z).toNat)))) (c_X3_polyIn l D cJ o a (c) (ac) (re) (kn) (z) (by first | assumption | omega | rfl | exact decide_eq_false (by omega) | exact decide_eq_true (by assumption) | exact decide_eq_true (by omega) | exact one_shl33 (by omega) | exact pm_lt _ _ | exact rm_lt (by first | assumption | exact pm_lt _ _) | exact Nat.lt_of_le_of_lt (Nat.shiftRight_le _ _) (by assumption) | exact Nat.lt_of_le_of_lt Nat.and_le_right (by omega))) ml_X3_43 rfl ⟨Nat.le_of_ble_eq_true rfl, Nat.le_of_ble_eq_true rfl⟩ ⟨Nat.le_of_ble_eq_true rfl, Nat.le_of_ble_eq_true rfl⟩ hl (Nat.le_of_ble_eq_true rfl) rfl dX3_digit_2 (fun H locs B => ?_)
  have q2_0 := B.1.2.2.2 ((z)).toNat
  refine lv_lstore (lv' := [(4, .long (lN ((c) (z).toNat))), (0, .ref o), (1, .int (iZ (z))), (2, .int (iZ (g))), (3, .int (iZ (zB (b))))]) C.1 C.2.1 dX3_digit_5 hl (by decide) rfl (fun ls hl => ?_)
  refine lv_iload_n C.1 C.2.1 dX3_digit_7 rfl (lv_at hl 3 rfl) ?_
  refine z_iconst C dX3_digit_8 ?_
  refine z_bipush C dX3_digit_9 (by decide) ?_
  by_cases hq11 : (0 : Int) ≤ (g) ∧ (g) ≤ (32 : Int)
  rotate_left
  · exact zx_callS C B Zs htab hk (c_X3_checkRange_bad l hlq (g) (0 : Int) (32 : Int) (by first | omega | assumption) (by first | omega | assumption) (by first | omega | assumption) (by first | omega | assumption)) ml_X3_33 ⟨Nat.le_of_ble_eq_true rfl, Nat.le_of_ble_eq_true rfl⟩ ⟨Nat.le_of_ble_eq_true rfl, Nat.le_of_ble_eq_true rfl⟩ ⟨Nat.le_of_ble_eq_true rfl, Nat.le_of_ble_eq_true rfl⟩ hl (Nat.le_of_ble_eq_true rfl) rfl dX3_digit_11
  exfalso; omega

set_option maxHeartbeats 4000000 in
set_option maxRecDepth 100000 in
theorem c_X3_flip_badc (l : Launch) (hlq : l.stackTraces = false) (D : va_G) (cJ : ClassId) (o a : Nat) (c : Nat → Nat) (ac : Int32) (re : Int32) (kn : Int32) (z : Int) (g : Int) (r9z : -2147483648 ≤ z ∧ z ≤ 2147483647) (r9g : -2147483648 ≤ g ∧ g ≤ 2147483647) (hbad : ¬ ((0 ≤ z ∧ z ≤ 5))) : zXI l yX3_flip 8 148 D cJ o a [.int (iZ (z)), .int (iZ (g))] c [.int (ac), .int (re), .int (kn)] "java/lang/IndexOutOfBoundsException" := by
  refine zXI.intro (lo := 124) (nA := 2) (own := RX3) zi_X3_flip (by decide) rfl rfl (by decide +kernel) rfl (Nat.le_of_ble_eq_true rfl) ?_
  intro p e s m below meth c0 ls C htab hk B Zs hl
  have hl : lv_has ls 5 [(0, .ref o), (1, .int (iZ (z))), (2, .int (iZ (g)))] := hl
  refine lv_aload_n C.1 C.2.1 dX3_flip_0 rfl (lv_at hl 0 rfl) ?_
  refine lv_iload_n C.1 C.2.1 dX3_flip_1 rfl (lv_at hl 1 rfl) ?_
  by_cases hq2 : 0 ≤ (z) ∧ (z) ≤ 5
  rotate_left
  · exact zx_callI C B Zs htab hk (c_X3_polyIn_bad l hlq D cJ o a (c) ac re kn (z) (by first | omega | assumption) (by first | omega | assumption)) ml_X3_43 rfl ⟨Nat.le_of_ble_eq_true rfl, Nat.le_of_ble_eq_true rfl⟩ ⟨Nat.le_of_ble_eq_true rfl, Nat.le_of_ble_eq_true rfl⟩ ⟨Nat.le_of_ble_eq_true rfl, Nat.le_of_ble_eq_true rfl⟩ hl (Nat.le_of_ble_eq_true rfl) rfl dX3_flip_2
  exfalso; omega

set_option maxHeartbeats 4000000 in
set_option maxRecDepth 100000 in
theorem c_X3_flip_badr (l : Launch) (hlq : l.stackTraces = false) (D : va_G) (cJ : ClassId) (o a : Nat) (c : Nat → Nat) (ac : Int32) (re : Int32) (kn : Int32) (z : Int) (g : Int) (r9z : -2147483648 ≤ z ∧ z ≤ 2147483647) (r9g : -2147483648 ≤ g ∧ g ≤ 2147483647) (hz : 0 ≤ z ∧ z ≤ 5) (hbad : ¬ ((0 ≤ g ∧ g ≤ 32))) : zXI l yX3_flip 7 128 D cJ o a [.int (iZ (z)), .int (iZ (g))] c [.int (ac), .int (re), .int (kn)] "java/lang/IllegalArgumentException" := by
  refine zXI.intro (lo := 104) (nA := 2) (own := RX3) zi_X3_flip (by decide) rfl rfl (by decide +kernel) rfl (Nat.le_of_ble_eq_true rfl) ?_
  intro p e s m below meth c0 ls C htab hk B Zs hl
  have hl : lv_has ls 5 [(0, .ref o), (1, .int (iZ (z))), (2, .int (iZ (g)))] := hl
  refine lv_aload_n C.1 C.2.1 dX3_flip_0 rfl (lv_at hl 0 rfl) ?_
  refine lv_iload_n C.1 C.2.1 dX3_flip_1 rfl (lv_at hl 1 rfl) ?_
  refine zo_callD C B (r := some (.long (lN ((c) (z).toNat)))) (c_X3_polyIn l D cJ o a (c) (ac) (re) (kn) (z) (by first | assumption | omega | rfl | exact decide_eq_false (by omega) | exact decide_eq_true (by assumption) | exact decide_eq_true (by omega) | exact one_shl33 (by omega) | exact pm_lt _ _ | exact rm_lt (by first | assumption | exact pm_lt _ _) | exact Nat.lt_of_le_of_lt (Nat.shiftRight_le _ _) (by assumption) | exact Nat.lt_of_le_of_lt Nat.and_le_right (by omega))) ml_X3_43 rfl ⟨Nat.le_of_ble_eq_true rfl, Nat.le_of_ble_eq_true rfl⟩ ⟨Nat.le_of_ble_eq_true rfl, Nat.le_of_ble_eq_true rfl⟩ hl (Nat.le_of_ble_eq_true rfl) rfl dX3_flip_2 (fun H locs B => ?_)
  have q2_0 := B.1.2.2.2 ((z)).toNat
  refine lv_lstore_n (lv' := [(3, .long (lN ((c) (z).toNat))), (0, .ref o), (1, .int (iZ (z))), (2, .int (iZ (g)))]) C.1 C.2.1 dX3_flip_5 rfl hl (by decide) rfl (fun ls hl => ?_)
  refine lv_iload_n C.1 C.2.1 dX3_flip_6 rfl (lv_at hl 3 rfl) ?_
  refine z_iconst C dX3_flip_7 ?_
  refine z_bipush C dX3_flip_8 (by decide) ?_
  by_cases hq10 : (0 : Int) ≤ (g) ∧ (g) ≤ (32 : Int)
  rotate_left
  · exact zx_callS C B Zs htab hk (c_X3_checkRange_bad l hlq (g) (0 : Int) (32 : Int) (by first | omega | assumption) (by first | omega | assumption) (by first | omega | assumption) (by first | omega | assumption)) ml_X3_33 ⟨Nat.le_of_ble_eq_true rfl, Nat.le_of_ble_eq_true rfl⟩ ⟨Nat.le_of_ble_eq_true rfl, Nat.le_of_ble_eq_true rfl⟩ ⟨Nat.le_of_ble_eq_true rfl, Nat.le_of_ble_eq_true rfl⟩ hl (Nat.le_of_ble_eq_true rfl) rfl dX3_flip_10
  exfalso; omega

set_option maxHeartbeats 4000000 in
set_option maxRecDepth 100000 in
theorem c_X3_copy_badc (l : Launch) (hlq : l.stackTraces = false) (D : va_G) (cJ : ClassId) (o a : Nat) (c : Nat → Nat) (ac : Int32) (re : Int32) (kn : Int32) (f : Int) (z : Int) (r9f : -2147483648 ≤ f ∧ f ≤ 2147483647) (r9z : -2147483648 ≤ z ∧ z ≤ 2147483647) (hbad : ¬ ((0 ≤ f ∧ f ≤ 5) ∧ (0 ≤ z ∧ z ≤ 5))) : zXI l yX3_copy 8 148 D cJ o a [.int (iZ (f)), .int (iZ (z))] c [.int (ac), .int (re), .int (kn)] "java/lang/IndexOutOfBoundsException" := by
  refine zXI.intro (lo := 124) (nA := 2) (own := RX3) zi_X3_copy (by decide) rfl rfl (by decide +kernel) rfl (Nat.le_of_ble_eq_true rfl) ?_
  intro p e s m below meth c0 ls C htab hk B Zs hl
  have hl : lv_has ls 5 [(0, .ref o), (1, .int (iZ (f))), (2, .int (iZ (z)))] := hl
  refine lv_aload_n C.1 C.2.1 dX3_copy_0 rfl (lv_at hl 0 rfl) ?_
  refine lv_iload_n C.1 C.2.1 dX3_copy_1 rfl (lv_at hl 1 rfl) ?_
  by_cases hq2 : 0 ≤ (f) ∧ (f) ≤ 5
  rotate_left
  · exact zx_callI C B Zs htab hk (c_X3_polyIn_bad l hlq D cJ o a (c) ac re kn (f) (by first | omega | assumption) (by first | omega | assumption)) ml_X3_43 rfl ⟨Nat.le_of_ble_eq_true rfl, Nat.le_of_ble_eq_true rfl⟩ ⟨Nat.le_of_ble_eq_true rfl, Nat.le_of_ble_eq_true rfl⟩ ⟨Nat.le_of_ble_eq_true rfl, Nat.le_of_ble_eq_true rfl⟩ hl (Nat.le_of_ble_eq_true rfl) rfl dX3_copy_2
  refine zo_callD C B (r := some (.long (lN ((c) (f).toNat)))) (c_X3_polyIn l D cJ o a (c) (ac) (re) (kn) (f) (by first | assumption | omega | rfl | exact decide_eq_false (by omega) | exact decide_eq_true (by assumption) | exact decide_eq_true (by omega) | exact one_shl33 (by omega) | exact pm_lt _ _ | exact rm_lt (by first | assumption | exact pm_lt _ _) | exact Nat.lt_of_le_of_lt (Nat.shiftRight_le _ _) (by assumption) | exact Nat.lt_of_le_of_lt Nat.and_le_right (by omega))) ml_X3_43 rfl ⟨Nat.le_of_ble_eq_true rfl, Nat.le_of_ble_eq_true rfl⟩ ⟨Nat.le_of_ble_eq_true rfl, Nat.le_of_ble_eq_true rfl⟩ hl (Nat.le_of_ble_eq_true rfl) rfl dX3_copy_2 (fun H locs B => ?_)
  have q2_0 := B.1.2.2.2 ((f)).toNat
  refine lv_lstore_n (lv' := [(3, .long (lN ((c) (f).toNat))), (0, .ref o), (1, .int (iZ (f))), (2, .int (iZ (z)))]) C.1 C.2.1 dX3_copy_5 rfl hl (by decide) rfl (fun ls hl => ?_)
  refine lv_aload_n C.1 C.2.1 dX3_copy_6 rfl (lv_at hl 1 rfl) ?_
  refine lv_iload_n C.1 C.2.1 dX3_copy_7 rfl (lv_at hl 3 rfl) ?_
  by_cases hq8 : 0 ≤ (z) ∧ (z) ≤ 5
  rotate_left
  · exact zx_callI C B Zs htab hk (c_X3_checkCell_bad l hlq D cJ o a (c) ac re kn (z) (by first | omega | assumption) (by first | omega | assumption)) ml_X3_23 rfl ⟨Nat.le_of_ble_eq_true rfl, Nat.le_of_ble_eq_true rfl⟩ ⟨Nat.le_of_ble_eq_true rfl, Nat.le_of_ble_eq_true rfl⟩ ⟨Nat.le_of_ble_eq_true rfl, Nat.le_of_ble_eq_true rfl⟩ hl (Nat.le_of_ble_eq_true rfl) rfl dX3_copy_8
  exfalso; omega

set_option maxHeartbeats 4000000 in
set_option maxRecDepth 100000 in
theorem c_X3_swap_badc (l : Launch) (hlq : l.stackTraces = false) (D : va_G) (cJ : ClassId) (o a : Nat) (c : Nat → Nat) (ac : Int32) (re : Int32) (kn : Int32) (f : Int) (z : Int) (r9f : -2147483648 ≤ f ∧ f ≤ 2147483647) (r9z : -2147483648 ≤ z ∧ z ≤ 2147483647) (hbad : ¬ ((0 ≤ f ∧ f ≤ 5) ∧ (0 ≤ z ∧ z ≤ 5))) : zXI l yX3_swap 8 150 D cJ o a [.int (iZ (f)), .int (iZ (z))] c [.int (ac), .int (re), .int (kn)] "java/lang/IndexOutOfBoundsException" := by
  refine zXI.intro (lo := 124) (nA := 2) (own := RX3) zi_X3_swap (by decide) rfl rfl (by decide +kernel) rfl (Nat.le_of_ble_eq_true rfl) ?_
  intro p e s m below meth c0 ls C htab hk B Zs hl
  have hl : lv_has ls 7 [(0, .ref o), (1, .int (iZ (f))), (2, .int (iZ (z)))] := hl
  refine lv_aload_n C.1 C.2.1 dX3_swap_0 rfl (lv_at hl 0 rfl) ?_
  refine lv_iload_n C.1 C.2.1 dX3_swap_1 rfl (lv_at hl 1 rfl) ?_
  by_cases hq2 : 0 ≤ (f) ∧ (f) ≤ 5
  rotate_left
  · exact zx_callI C B Zs htab hk (c_X3_polyIn_bad l hlq D cJ o a (c) ac re kn (f) (by first | omega | assumption) (by first | omega | assumption)) ml_X3_43 rfl ⟨Nat.le_of_ble_eq_true rfl, Nat.le_of_ble_eq_true rfl⟩ ⟨Nat.le_of_ble_eq_true rfl, Nat.le_of_ble_eq_true rfl⟩ ⟨Nat.le_of_ble_eq_true rfl, Nat.le_of_ble_eq_true rfl⟩ hl (Nat.le_of_ble_eq_true rfl) rfl dX3_swap_2
  refine zo_callD C B (r := some (.long (lN ((c) (f).toNat)))) (c_X3_polyIn l D cJ o a (c) (ac) (re) (kn) (f) (by first | assumption | omega | rfl | exact decide_eq_false (by omega) | exact decide_eq_true (by assumption) | exact decide_eq_true (by omega) | exact one_shl33 (by omega) | exact pm_lt _ _ | exact rm_lt (by first | assumption | exact pm_lt _ _) | exact Nat.lt_of_le_of_lt (Nat.shiftRight_le _ _) (by assumption) | exact Nat.lt_of_le_of_lt Nat.and_le_right (by omega))) ml_X3_43 rfl ⟨Nat.le_of_ble_eq_true rfl, Nat.le_of_ble_eq_true rfl⟩ ⟨Nat.le_of_ble_eq_true rfl, Nat.le_of_ble_eq_true rfl⟩ hl (Nat.le_of_ble_eq_true rfl) rfl dX3_swap_2 (fun H locs B => ?_)
  have q2_0 := B.1.2.2.2 ((f)).toNat
  refine lv_lstore_n (lv' := [(3, .long (lN ((c) (f).toNat))), (0, .ref o), (1, .int (iZ (f))), (2, .int (iZ (z)))]) C.1 C.2.1 dX3_swap_5 rfl hl (by decide) rfl (fun ls hl => ?_)
  refine lv_aload_n C.1 C.2.1 dX3_swap_6 rfl (lv_at hl 1 rfl) ?_
  refine lv_iload_n C.1 C.2.1 dX3_swap_7 rfl (lv_at hl 3 rfl) ?_
  by_cases hq8 : 0 ≤ (z) ∧ (z) ≤ 5
  rotate_left
  · exact zx_callI C B Zs htab hk (c_X3_polyIn_bad l hlq D cJ o a (c) ac re kn (z) (by first | omega | assumption) (by first | omega | assumption)) ml_X3_43 rfl ⟨Nat.le_of_ble_eq_true rfl, Nat.le_of_ble_eq_true rfl⟩ ⟨Nat.le_of_ble_eq_true rfl, Nat.le_of_ble_eq_true rfl⟩ ⟨Nat.le_of_ble_eq_true rfl, Nat.le_of_ble_eq_true rfl⟩ hl (Nat.le_of_ble_eq_true rfl) rfl dX3_swap_8
  exfalso; omega

set_option maxHeartbeats 4000000 in
set_option maxRecDepth 100000 in
theorem c_X3_end_badc (l : Launch) (hlq : l.stackTraces = false) (D : va_G) (cJ : ClassId) (o a : Nat) (c : Nat → Nat) (ac : Int32) (re : Int32) (kn : Int32) (f : Int) (g : Int) (b : Bool) (z : Int) (r9f : -2147483648 ≤ f ∧ f ≤ 2147483647) (r9g : -2147483648 ≤ g ∧ g ≤ 2147483647) (r9z : -2147483648 ≤ z ∧ z ≤ 2147483647) (hbad : ¬ ((0 ≤ f ∧ f ≤ 5) ∧ (0 ≤ g ∧ g ≤ 5) ∧ (0 ≤ z ∧ z ≤ 5))) : zXI l yX3_end 8 152 D cJ o a [.int (iZ (f)), .int (iZ (g)), .int (iZ (zB (b))), .int (iZ (z))] c [.int (ac), .int (re), .int (kn)] "java/lang/IndexOutOfBoundsException" := by
  refine zXI.intro (lo := 124) (nA := 4) (own := RX3) zi_X3_end (by decide) rfl rfl (by decide +kernel) rfl (Nat.le_of_ble_eq_true rfl) ?_
  intro p e s m below meth c0 ls C htab hk B Zs hl
  have hl : lv_has ls 9 [(0, .ref o), (1, .int (iZ (f))), (2, .int (iZ (g))), (3, .int (iZ (zB (b)))), (4, .int (iZ (z)))] := hl
  refine lv_aload_n C.1 C.2.1 dX3_end_0 rfl (lv_at hl 0 rfl) ?_
  refine lv_iload_n C.1 C.2.1 dX3_end_1 rfl (lv_at hl 1 rfl) ?_
  by_cases hq2 : 0 ≤ (f) ∧ (f) ≤ 5
  rotate_left
  · exact zx_callI C B Zs htab hk (c_X3_polyIn_bad l hlq D cJ o a (c) ac re kn (f) (by first | omega | assumption) (by first | omega | assumption)) ml_X3_43 rfl ⟨Nat.le_of_ble_eq_true rfl, Nat.le_of_ble_eq_true rfl⟩ ⟨Nat.le_of_ble_eq_true rfl, Nat.le_of_ble_eq_true rfl⟩ ⟨Nat.le_of_ble_eq_true rfl, Nat.le_of_ble_eq_true rfl⟩ hl (Nat.le_of_ble_eq_true rfl) rfl dX3_end_2
  refine zo_callD C B (r := some (.long (lN ((c) (f).toNat)))) (c_X3_polyIn l D cJ o a (c) (ac) (re) (kn) (f) (by first | assumption | omega | rfl | exact decide_eq_false (by omega) | exact decide_eq_true (by assumption) | exact decide_eq_true (by omega) | exact one_shl33 (by omega) | exact pm_lt _ _ | exact rm_lt (by first | assumption | exact pm_lt _ _) | exact Nat.lt_of_le_of_lt (Nat.shiftRight_le _ _) (by assumption) | exact Nat.lt_of_le_of_lt Nat.and_le_right (by omega))) ml_X3_43 rfl ⟨Nat.le_of_ble_eq_true rfl, Nat.le_of_ble_eq_true rfl⟩ ⟨Nat.le_of_ble_eq_true rfl, Nat.le_of_ble_eq_true rfl⟩ hl (Nat.le_of_ble_eq_true rfl) rfl dX3_end_2 (fun H locs B => ?_)
  have q2_0 := B.1.2.2.2 ((f)).toNat
  refine lv_lstore (lv' := [(5, .long (lN ((c) (f).toNat))), (0, .ref o), (1, .int (iZ (f))), (2, .int (iZ (g))), (3, .int (iZ (zB (b)))), (4, .int (iZ (z)))]) C.1 C.2.1 dX3_end_5 hl (by decide) rfl (fun ls hl => ?_)
  refine lv_aload_n C.1 C.2.1 dX3_end_7 rfl (lv_at hl 1 rfl) ?_
  refine lv_iload_n C.1 C.2.1 dX3_end_8 rfl (lv_at hl 3 rfl) ?_
  by_cases hq9 : 0 ≤ (g) ∧ (g) ≤ 5
  rotate_left
  · exact zx_callI C B Zs htab hk (c_X3_polyIn_bad l hlq D cJ o a (c) ac re kn (g) (by first | omega | assumption) (by first | omega | assumption)) ml_X3_43 rfl ⟨Nat.le_of_ble_eq_true rfl, Nat.le_of_ble_eq_true rfl⟩ ⟨Nat.le_of_ble_eq_true rfl, Nat.le_of_ble_eq_true rfl⟩ ⟨Nat.le_of_ble_eq_true rfl, Nat.le_of_ble_eq_true rfl⟩ hl (Nat.le_of_ble_eq_true rfl) rfl dX3_end_9
  refine zo_callD C B (r := some (.long (lN ((c) (g).toNat)))) (c_X3_polyIn l D cJ o a (c) ((ac)) ((re)) ((kn)) (g) (by first | assumption | omega | rfl | exact decide_eq_false (by omega) | exact decide_eq_true (by assumption) | exact decide_eq_true (by omega) | exact one_shl33 (by omega) | exact pm_lt _ _ | exact rm_lt (by first | assumption | exact pm_lt _ _) | exact Nat.lt_of_le_of_lt (Nat.shiftRight_le _ _) (by assumption) | exact Nat.lt_of_le_of_lt Nat.and_le_right (by omega))) ml_X3_43 rfl ⟨Nat.le_of_ble_eq_true rfl, Nat.le_of_ble_eq_true rfl⟩ ⟨Nat.le_of_ble_eq_true rfl, Nat.le_of_ble_eq_true rfl⟩ hl (Nat.le_of_ble_eq_true rfl) rfl dX3_end_9 (fun H locs B => ?_)
  have q9_0 := B.1.2.2.2 ((g)).toNat
  refine lv_lstore (lv' := [(7, .long (lN ((c) (g).toNat))), (5, .long (lN ((c) (f).toNat))), (0, .ref o), (1, .int (iZ (f))), (2, .int (iZ (g))), (3, .int (iZ (zB (b)))), (4, .int (iZ (z)))]) C.1 C.2.1 dX3_end_12 hl (by decide) rfl (fun ls hl => ?_)
  refine lv_aload_n C.1 C.2.1 dX3_end_14 rfl (lv_at hl 2 rfl) ?_
  refine lv_iload C.1 C.2.1 dX3_end_15 (lv_at hl 6 rfl) ?_
  by_cases hq17 : 0 ≤ (z) ∧ (z) ≤ 5
  rotate_left
  · exact zx_callI C B Zs htab hk (c_X3_checkCell_bad l hlq D cJ o a (c) ac re kn (z) (by first | omega | assumption) (by first | omega | assumption)) ml_X3_23 rfl ⟨Nat.le_of_ble_eq_true rfl, Nat.le_of_ble_eq_true rfl⟩ ⟨Nat.le_of_ble_eq_true rfl, Nat.le_of_ble_eq_true rfl⟩ ⟨Nat.le_of_ble_eq_true rfl, Nat.le_of_ble_eq_true rfl⟩ hl (Nat.le_of_ble_eq_true rfl) rfl dX3_end_17
  exfalso; omega

set_option maxHeartbeats 4000000 in
set_option maxRecDepth 100000 in
theorem c_X3_join_badc (l : Launch) (hlq : l.stackTraces = false) (D : va_G) (cJ : ClassId) (o a : Nat) (c : Nat → Nat) (ac : Int32) (re : Int32) (kn : Int32) (f : Int) (g : Int) (h : Int) (z : Int) (r9f : -2147483648 ≤ f ∧ f ≤ 2147483647) (r9g : -2147483648 ≤ g ∧ g ≤ 2147483647) (r9h : -2147483648 ≤ h ∧ h ≤ 2147483647) (r9z : -2147483648 ≤ z ∧ z ≤ 2147483647) (hbad : ¬ ((0 ≤ f ∧ f ≤ 5) ∧ (0 ≤ g ∧ g ≤ 5) ∧ (0 ≤ z ∧ z ≤ 5))) : zXI l yX3_join 8 152 D cJ o a [.int (iZ (f)), .int (iZ (g)), .int (iZ (h)), .int (iZ (z))] c [.int (ac), .int (re), .int (kn)] "java/lang/IndexOutOfBoundsException" := by
  refine zXI.intro (lo := 124) (nA := 4) (own := RX3) zi_X3_join (by decide) rfl rfl (by decide +kernel) rfl (Nat.le_of_ble_eq_true rfl) ?_
  intro p e s m below meth c0 ls C htab hk B Zs hl
  have hl : lv_has ls 9 [(0, .ref o), (1, .int (iZ (f))), (2, .int (iZ (g))), (3, .int (iZ (h))), (4, .int (iZ (z)))] := hl
  refine lv_aload_n C.1 C.2.1 dX3_join_0 rfl (lv_at hl 0 rfl) ?_
  refine lv_iload_n C.1 C.2.1 dX3_join_1 rfl (lv_at hl 1 rfl) ?_
  by_cases hq2 : 0 ≤ (f) ∧ (f) ≤ 5
  rotate_left
  · exact zx_callI C B Zs htab hk (c_X3_polyIn_bad l hlq D cJ o a (c) ac re kn (f) (by first | omega | assumption) (by first | omega | assumption)) ml_X3_43 rfl ⟨Nat.le_of_ble_eq_true rfl, Nat.le_of_ble_eq_true rfl⟩ ⟨Nat.le_of_ble_eq_true rfl, Nat.le_of_ble_eq_true rfl⟩ ⟨Nat.le_of_ble_eq_true rfl, Nat.le_of_ble_eq_true rfl⟩ hl (Nat.le_of_ble_eq_true rfl) rfl dX3_join_2
  refine zo_callD C B (r := some (.long (lN ((c) (f).toNat)))) (c_X3_polyIn l D cJ o a (c) (ac) (re) (kn) (f) (by first | assumption | omega | rfl | exact decide_eq_false (by omega) | exact decide_eq_true (by assumption) | exact decide_eq_true (by omega) | exact one_shl33 (by omega) | exact pm_lt _ _ | exact rm_lt (by first | assumption | exact pm_lt _ _) | exact Nat.lt_of_le_of_lt (Nat.shiftRight_le _ _) (by assumption) | exact Nat.lt_of_le_of_lt Nat.and_le_right (by omega))) ml_X3_43 rfl ⟨Nat.le_of_ble_eq_true rfl, Nat.le_of_ble_eq_true rfl⟩ ⟨Nat.le_of_ble_eq_true rfl, Nat.le_of_ble_eq_true rfl⟩ hl (Nat.le_of_ble_eq_true rfl) rfl dX3_join_2 (fun H locs B => ?_)
  have q2_0 := B.1.2.2.2 ((f)).toNat
  refine lv_lstore (lv' := [(5, .long (lN ((c) (f).toNat))), (0, .ref o), (1, .int (iZ (f))), (2, .int (iZ (g))), (3, .int (iZ (h))), (4, .int (iZ (z)))]) C.1 C.2.1 dX3_join_5 hl (by decide) rfl (fun ls hl => ?_)
  refine lv_aload_n C.1 C.2.1 dX3_join_7 rfl (lv_at hl 1 rfl) ?_
  refine lv_iload_n C.1 C.2.1 dX3_join_8 rfl (lv_at hl 3 rfl) ?_
  by_cases hq9 : 0 ≤ (g) ∧ (g) ≤ 5
  rotate_left
  · exact zx_callI C B Zs htab hk (c_X3_polyIn_bad l hlq D cJ o a (c) ac re kn (g) (by first | omega | assumption) (by first | omega | assumption)) ml_X3_43 rfl ⟨Nat.le_of_ble_eq_true rfl, Nat.le_of_ble_eq_true rfl⟩ ⟨Nat.le_of_ble_eq_true rfl, Nat.le_of_ble_eq_true rfl⟩ ⟨Nat.le_of_ble_eq_true rfl, Nat.le_of_ble_eq_true rfl⟩ hl (Nat.le_of_ble_eq_true rfl) rfl dX3_join_9
  refine zo_callD C B (r := some (.long (lN ((c) (g).toNat)))) (c_X3_polyIn l D cJ o a (c) ((ac)) ((re)) ((kn)) (g) (by first | assumption | omega | rfl | exact decide_eq_false (by omega) | exact decide_eq_true (by assumption) | exact decide_eq_true (by omega) | exact one_shl33 (by omega) | exact pm_lt _ _ | exact rm_lt (by first | assumption | exact pm_lt _ _) | exact Nat.lt_of_le_of_lt (Nat.shiftRight_le _ _) (by assumption) | exact Nat.lt_of_le_of_lt Nat.and_le_right (by omega))) ml_X3_43 rfl ⟨Nat.le_of_ble_eq_true rfl, Nat.le_of_ble_eq_true rfl⟩ ⟨Nat.le_of_ble_eq_true rfl, Nat.le_of_ble_eq_true rfl⟩ hl (Nat.le_of_ble_eq_true rfl) rfl dX3_join_9 (fun H locs B => ?_)
  have q9_0 := B.1.2.2.2 ((g)).toNat
  refine lv_lstore (lv' := [(7, .long (lN ((c) (g).toNat))), (5, .long (lN ((c) (f).toNat))), (0, .ref o), (1, .int (iZ (f))), (2, .int (iZ (g))), (3, .int (iZ (h))), (4, .int (iZ (z)))]) C.1 C.2.1 dX3_join_12 hl (by decide) rfl (fun ls hl => ?_)
  refine lv_aload_n C.1 C.2.1 dX3_join_14 rfl (lv_at hl 2 rfl) ?_
  refine lv_iload C.1 C.2.1 dX3_join_15 (lv_at hl 6 rfl) ?_
  by_cases hq17 : 0 ≤ (z) ∧ (z) ≤ 5
  rotate_left
  · exact zx_callI C B Zs htab hk (c_X3_checkCell_bad l hlq D cJ o a (c) ac re kn (z) (by first | omega | assumption) (by first | omega | assumption)) ml_X3_23 rfl ⟨Nat.le_of_ble_eq_true rfl, Nat.le_of_ble_eq_true rfl⟩ ⟨Nat.le_of_ble_eq_true rfl, Nat.le_of_ble_eq_true rfl⟩ ⟨Nat.le_of_ble_eq_true rfl, Nat.le_of_ble_eq_true rfl⟩ hl (Nat.le_of_ble_eq_true rfl) rfl dX3_join_17
  exfalso; omega

set_option maxHeartbeats 4000000 in
set_option maxRecDepth 100000 in
theorem c_X3_join_badr (l : Launch) (hlq : l.stackTraces = false) (D : va_G) (cJ : ClassId) (o a : Nat) (c : Nat → Nat) (ac : Int32) (re : Int32) (kn : Int32) (f : Int) (g : Int) (h : Int) (z : Int) (r9f : -2147483648 ≤ f ∧ f ≤ 2147483647) (r9g : -2147483648 ≤ g ∧ g ≤ 2147483647) (r9h : -2147483648 ≤ h ∧ h ≤ 2147483647) (r9z : -2147483648 ≤ z ∧ z ≤ 2147483647) (hf : 0 ≤ f ∧ f ≤ 5) (hg : 0 ≤ g ∧ g ≤ 5) (hz : 0 ≤ z ∧ z ≤ 5) (hbad : ¬ ((0 ≤ h ∧ h ≤ 3))) : zXI l yX3_join 7 132 D cJ o a [.int (iZ (f)), .int (iZ (g)), .int (iZ (h)), .int (iZ (z))] c [.int (ac), .int (re), .int (kn)] "java/lang/IllegalArgumentException" := by
  refine zXI.intro (lo := 104) (nA := 4) (own := RX3) zi_X3_join (by decide) rfl rfl (by decide +kernel) rfl (Nat.le_of_ble_eq_true rfl) ?_
  intro p e s m below meth c0 ls C htab hk B Zs hl
  have hl : lv_has ls 9 [(0, .ref o), (1, .int (iZ (f))), (2, .int (iZ (g))), (3, .int (iZ (h))), (4, .int (iZ (z)))] := hl
  refine lv_aload_n C.1 C.2.1 dX3_join_0 rfl (lv_at hl 0 rfl) ?_
  refine lv_iload_n C.1 C.2.1 dX3_join_1 rfl (lv_at hl 1 rfl) ?_
  refine zo_callD C B (r := some (.long (lN ((c) (f).toNat)))) (c_X3_polyIn l D cJ o a (c) (ac) (re) (kn) (f) (by first | assumption | omega | rfl | exact decide_eq_false (by omega) | exact decide_eq_true (by assumption) | exact decide_eq_true (by omega) | exact one_shl33 (by omega) | exact pm_lt _ _ | exact rm_lt (by first | assumption | exact pm_lt _ _) | exact Nat.lt_of_le_of_lt (Nat.shiftRight_le _ _) (by assumption) | exact Nat.lt_of_le_of_lt Nat.and_le_right (by omega))) ml_X3_43 rfl ⟨Nat.le_of_ble_eq_true rfl, Nat.le_of_ble_eq_true rfl⟩ ⟨Nat.le_of_ble_eq_true rfl, Nat.le_of_ble_eq_true rfl⟩ hl (Nat.le_of_ble_eq_true rfl) rfl dX3_join_2 (fun H locs B => ?_)
  have q2_0 := B.1.2.2.2 ((f)).toNat
  refine lv_lstore (lv' := [(5, .long (lN ((c) (f).toNat))), (0, .ref o), (1, .int (iZ (f))), (2, .int (iZ (g))), (3, .int (iZ (h))), (4, .int (iZ (z)))]) C.1 C.2.1 dX3_join_5 hl (by decide) rfl (fun ls hl => ?_)
  refine lv_aload_n C.1 C.2.1 dX3_join_7 rfl (lv_at hl 1 rfl) ?_
  refine lv_iload_n C.1 C.2.1 dX3_join_8 rfl (lv_at hl 3 rfl) ?_
  refine zo_callD C B (r := some (.long (lN ((c) (g).toNat)))) (c_X3_polyIn l D cJ o a (c) ((ac)) ((re)) ((kn)) (g) (by first | assumption | omega | rfl | exact decide_eq_false (by omega) | exact decide_eq_true (by assumption) | exact decide_eq_true (by omega) | exact one_shl33 (by omega) | exact pm_lt _ _ | exact rm_lt (by first | assumption | exact pm_lt _ _) | exact Nat.lt_of_le_of_lt (Nat.shiftRight_le _ _) (by assumption) | exact Nat.lt_of_le_of_lt Nat.and_le_right (by omega))) ml_X3_43 rfl ⟨Nat.le_of_ble_eq_true rfl, Nat.le_of_ble_eq_true rfl⟩ ⟨Nat.le_of_ble_eq_true rfl, Nat.le_of_ble_eq_true rfl⟩ hl (Nat.le_of_ble_eq_true rfl) rfl dX3_join_9 (fun H locs B => ?_)
  have q9_0 := B.1.2.2.2 ((g)).toNat
  refine lv_lstore (lv' := [(7, .long (lN ((c) (g).toNat))), (5, .long (lN ((c) (f).toNat))), (0, .ref o), (1, .int (iZ (f))), (2, .int (iZ (g))), (3, .int (iZ (h))), (4, .int (iZ (z)))]) C.1 C.2.1 dX3_join_12 hl (by decide) rfl (fun ls hl => ?_)
  refine lv_aload_n C.1 C.2.1 dX3_join_14 rfl (lv_at hl 2 rfl) ?_
  refine lv_iload C.1 C.2.1 dX3_join_15 (lv_at hl 6 rfl) ?_
  refine zo_callD C B (r := none) (c_X3_checkCell l D cJ o a (c) (((ac))) (((re))) (((kn))) (z) (by first | assumption | omega | rfl | exact decide_eq_false (by omega) | exact decide_eq_true (by assumption) | exact decide_eq_true (by omega) | exact one_shl33 (by omega) | exact pm_lt _ _ | exact rm_lt (by first | assumption | exact pm_lt _ _) | exact Nat.lt_of_le_of_lt (Nat.shiftRight_le _ _) (by assumption) | exact Nat.lt_of_le_of_lt Nat.and_le_right (by omega))) ml_X3_23 rfl ⟨Nat.le_of_ble_eq_true rfl, Nat.le_of_ble_eq_true rfl⟩ ⟨Nat.le_of_ble_eq_true rfl, Nat.le_of_ble_eq_true rfl⟩ hl (Nat.le_of_ble_eq_true rfl) rfl dX3_join_17 (fun H locs B => ?_)
  refine lv_iload_n C.1 C.2.1 dX3_join_20 rfl (lv_at hl 5 rfl) ?_
  refine z_iconst C dX3_join_21 ?_
  refine z_iconst C dX3_join_22 ?_
  by_cases hq23 : (0 : Int) ≤ (h) ∧ (h) ≤ (3 : Int)
  rotate_left
  · exact zx_callS C B Zs htab hk (c_X3_checkRange_bad l hlq (h) (0 : Int) (3 : Int) (by first | omega | assumption) (by first | omega | assumption) (by first | omega | assumption) (by first | omega | assumption)) ml_X3_33 ⟨Nat.le_of_ble_eq_true rfl, Nat.le_of_ble_eq_true rfl⟩ ⟨Nat.le_of_ble_eq_true rfl, Nat.le_of_ble_eq_true rfl⟩ ⟨Nat.le_of_ble_eq_true rfl, Nat.le_of_ble_eq_true rfl⟩ hl (Nat.le_of_ble_eq_true rfl) rfl dX3_join_23
  exfalso; omega

set_option maxHeartbeats 4000000 in
set_option maxRecDepth 100000 in
theorem c_X3_times_badc (l : Launch) (hlq : l.stackTraces = false) (D : va_G) (cJ : ClassId) (o a : Nat) (c : Nat → Nat) (ac : Int32) (re : Int32) (kn : Int32) (f : Int) (g : Int) (z : Int) (r9f : -2147483648 ≤ f ∧ f ≤ 2147483647) (r9g : -2147483648 ≤ g ∧ g ≤ 2147483647) (r9z : -2147483648 ≤ z ∧ z ≤ 2147483647) (hbad : ¬ ((0 ≤ f ∧ f ≤ 5) ∧ (0 ≤ g ∧ g ≤ 5) ∧ (0 ≤ z ∧ z ≤ 5))) : zXI l yX3_times 8 151 D cJ o a [.int (iZ (f)), .int (iZ (g)), .int (iZ (z))] c [.int (ac), .int (re), .int (kn)] "java/lang/IndexOutOfBoundsException" := by
  refine zXI.intro (lo := 124) (nA := 3) (own := RX3) zi_X3_times (by decide) rfl rfl (by decide +kernel) rfl (Nat.le_of_ble_eq_true rfl) ?_
  intro p e s m below meth c0 ls C htab hk B Zs hl
  have hl : lv_has ls 8 [(0, .ref o), (1, .int (iZ (f))), (2, .int (iZ (g))), (3, .int (iZ (z)))] := hl
  refine lv_aload_n C.1 C.2.1 dX3_times_0 rfl (lv_at hl 0 rfl) ?_
  refine lv_iload_n C.1 C.2.1 dX3_times_1 rfl (lv_at hl 1 rfl) ?_
  by_cases hq2 : 0 ≤ (f) ∧ (f) ≤ 5
  rotate_left
  · exact zx_callI C B Zs htab hk (c_X3_polyIn_bad l hlq D cJ o a (c) ac re kn (f) (by first | omega | assumption) (by first | omega | assumption)) ml_X3_43 rfl ⟨Nat.le_of_ble_eq_true rfl, Nat.le_of_ble_eq_true rfl⟩ ⟨Nat.le_of_ble_eq_true rfl, Nat.le_of_ble_eq_true rfl⟩ ⟨Nat.le_of_ble_eq_true rfl, Nat.le_of_ble_eq_true rfl⟩ hl (Nat.le_of_ble_eq_true rfl) rfl dX3_times_2
  refine zo_callD C B (r := some (.long (lN ((c) (f).toNat)))) (c_X3_polyIn l D cJ o a (c) (ac) (re) (kn) (f) (by first | assumption | omega | rfl | exact decide_eq_false (by omega) | exact decide_eq_true (by assumption) | exact decide_eq_true (by omega) | exact one_shl33 (by omega) | exact pm_lt _ _ | exact rm_lt (by first | assumption | exact pm_lt _ _) | exact Nat.lt_of_le_of_lt (Nat.shiftRight_le _ _) (by assumption) | exact Nat.lt_of_le_of_lt Nat.and_le_right (by omega))) ml_X3_43 rfl ⟨Nat.le_of_ble_eq_true rfl, Nat.le_of_ble_eq_true rfl⟩ ⟨Nat.le_of_ble_eq_true rfl, Nat.le_of_ble_eq_true rfl⟩ hl (Nat.le_of_ble_eq_true rfl) rfl dX3_times_2 (fun H locs B => ?_)
  have q2_0 := B.1.2.2.2 ((f)).toNat
  refine lv_lstore (lv' := [(4, .long (lN ((c) (f).toNat))), (0, .ref o), (1, .int (iZ (f))), (2, .int (iZ (g))), (3, .int (iZ (z)))]) C.1 C.2.1 dX3_times_5 hl (by decide) rfl (fun ls hl => ?_)
  refine lv_aload_n C.1 C.2.1 dX3_times_7 rfl (lv_at hl 1 rfl) ?_
  refine lv_iload_n C.1 C.2.1 dX3_times_8 rfl (lv_at hl 3 rfl) ?_
  by_cases hq9 : 0 ≤ (g) ∧ (g) ≤ 5
  rotate_left
  · exact zx_callI C B Zs htab hk (c_X3_polyIn_bad l hlq D cJ o a (c) ac re kn (g) (by first | omega | assumption) (by first | omega | assumption)) ml_X3_43 rfl ⟨Nat.le_of_ble_eq_true rfl, Nat.le_of_ble_eq_true rfl⟩ ⟨Nat.le_of_ble_eq_true rfl, Nat.le_of_ble_eq_true rfl⟩ ⟨Nat.le_of_ble_eq_true rfl, Nat.le_of_ble_eq_true rfl⟩ hl (Nat.le_of_ble_eq_true rfl) rfl dX3_times_9
  refine zo_callD C B (r := some (.long (lN ((c) (g).toNat)))) (c_X3_polyIn l D cJ o a (c) ((ac)) ((re)) ((kn)) (g) (by first | assumption | omega | rfl | exact decide_eq_false (by omega) | exact decide_eq_true (by assumption) | exact decide_eq_true (by omega) | exact one_shl33 (by omega) | exact pm_lt _ _ | exact rm_lt (by first | assumption | exact pm_lt _ _) | exact Nat.lt_of_le_of_lt (Nat.shiftRight_le _ _) (by assumption) | exact Nat.lt_of_le_of_lt Nat.and_le_right (by omega))) ml_X3_43 rfl ⟨Nat.le_of_ble_eq_true rfl, Nat.le_of_ble_eq_true rfl⟩ ⟨Nat.le_of_ble_eq_true rfl, Nat.le_of_ble_eq_true rfl⟩ hl (Nat.le_of_ble_eq_true rfl) rfl dX3_times_9 (fun H locs B => ?_)
  have q9_0 := B.1.2.2.2 ((g)).toNat
  refine lv_lstore (lv' := [(6, .long (lN ((c) (g).toNat))), (4, .long (lN ((c) (f).toNat))), (0, .ref o), (1, .int (iZ (f))), (2, .int (iZ (g))), (3, .int (iZ (z)))]) C.1 C.2.1 dX3_times_12 hl (by decide) rfl (fun ls hl => ?_)
  refine lv_aload_n C.1 C.2.1 dX3_times_14 rfl (lv_at hl 2 rfl) ?_
  refine lv_iload_n C.1 C.2.1 dX3_times_15 rfl (lv_at hl 5 rfl) ?_
  by_cases hq16 : 0 ≤ (z) ∧ (z) ≤ 5
  rotate_left
  · exact zx_callI C B Zs htab hk (c_X3_checkCell_bad l hlq D cJ o a (c) ac re kn (z) (by first | omega | assumption) (by first | omega | assumption)) ml_X3_23 rfl ⟨Nat.le_of_ble_eq_true rfl, Nat.le_of_ble_eq_true rfl⟩ ⟨Nat.le_of_ble_eq_true rfl, Nat.le_of_ble_eq_true rfl⟩ ⟨Nat.le_of_ble_eq_true rfl, Nat.le_of_ble_eq_true rfl⟩ hl (Nat.le_of_ble_eq_true rfl) rfl dX3_times_16
  exfalso; omega

set_option maxHeartbeats 4000000 in
set_option maxRecDepth 100000 in
theorem c_X3_square_badc (l : Launch) (hlq : l.stackTraces = false) (D : va_G) (cJ : ClassId) (o a : Nat) (c : Nat → Nat) (ac : Int32) (re : Int32) (kn : Int32) (f : Int) (z : Int) (r9f : -2147483648 ≤ f ∧ f ≤ 2147483647) (r9z : -2147483648 ≤ z ∧ z ≤ 2147483647) (hbad : ¬ ((0 ≤ f ∧ f ≤ 5) ∧ (0 ≤ z ∧ z ≤ 5))) : zXI l yX3_square 8 148 D cJ o a [.int (iZ (f)), .int (iZ (z))] c [.int (ac), .int (re), .int (kn)] "java/lang/IndexOutOfBoundsException" := by
  refine zXI.intro (lo := 124) (nA := 2) (own := RX3) zi_X3_square (by decide) rfl rfl (by decide +kernel) rfl (Nat.le_of_ble_eq_true rfl) ?_
  intro p e s m below meth c0 ls C htab hk B Zs hl
  have hl : lv_has ls 5 [(0, .ref o), (1, .int (iZ (f))), (2, .int (iZ (z)))] := hl
  refine lv_aload_n C.1 C.2.1 dX3_square_0 rfl (lv_at hl 0 rfl) ?_
  refine lv_iload_n C.1 C.2.1 dX3_square_1 rfl (lv_at hl 1 rfl) ?_
  by_cases hq2 : 0 ≤ (f) ∧ (f) ≤ 5
  rotate_left
  · exact zx_callI C B Zs htab hk (c_X3_polyIn_bad l hlq D cJ o a (c) ac re kn (f) (by first | omega | assumption) (by first | omega | assumption)) ml_X3_43 rfl ⟨Nat.le_of_ble_eq_true rfl, Nat.le_of_ble_eq_true rfl⟩ ⟨Nat.le_of_ble_eq_true rfl, Nat.le_of_ble_eq_true rfl⟩ ⟨Nat.le_of_ble_eq_true rfl, Nat.le_of_ble_eq_true rfl⟩ hl (Nat.le_of_ble_eq_true rfl) rfl dX3_square_2
  refine zo_callD C B (r := some (.long (lN ((c) (f).toNat)))) (c_X3_polyIn l D cJ o a (c) (ac) (re) (kn) (f) (by first | assumption | omega | rfl | exact decide_eq_false (by omega) | exact decide_eq_true (by assumption) | exact decide_eq_true (by omega) | exact one_shl33 (by omega) | exact pm_lt _ _ | exact rm_lt (by first | assumption | exact pm_lt _ _) | exact Nat.lt_of_le_of_lt (Nat.shiftRight_le _ _) (by assumption) | exact Nat.lt_of_le_of_lt Nat.and_le_right (by omega))) ml_X3_43 rfl ⟨Nat.le_of_ble_eq_true rfl, Nat.le_of_ble_eq_true rfl⟩ ⟨Nat.le_of_ble_eq_true rfl, Nat.le_of_ble_eq_true rfl⟩ hl (Nat.le_of_ble_eq_true rfl) rfl dX3_square_2 (fun H locs B => ?_)
  have q2_0 := B.1.2.2.2 ((f)).toNat
  refine lv_lstore_n (lv' := [(3, .long (lN ((c) (f).toNat))), (0, .ref o), (1, .int (iZ (f))), (2, .int (iZ (z)))]) C.1 C.2.1 dX3_square_5 rfl hl (by decide) rfl (fun ls hl => ?_)
  refine lv_aload_n C.1 C.2.1 dX3_square_6 rfl (lv_at hl 1 rfl) ?_
  refine lv_iload_n C.1 C.2.1 dX3_square_7 rfl (lv_at hl 3 rfl) ?_
  by_cases hq8 : 0 ≤ (z) ∧ (z) ≤ 5
  rotate_left
  · exact zx_callI C B Zs htab hk (c_X3_checkCell_bad l hlq D cJ o a (c) ac re kn (z) (by first | omega | assumption) (by first | omega | assumption)) ml_X3_23 rfl ⟨Nat.le_of_ble_eq_true rfl, Nat.le_of_ble_eq_true rfl⟩ ⟨Nat.le_of_ble_eq_true rfl, Nat.le_of_ble_eq_true rfl⟩ ⟨Nat.le_of_ble_eq_true rfl, Nat.le_of_ble_eq_true rfl⟩ hl (Nat.le_of_ble_eq_true rfl) rfl dX3_square_8
  exfalso; omega

set_option maxHeartbeats 4000000 in
set_option maxRecDepth 100000 in
theorem c_X3_shift_badc (l : Launch) (hlq : l.stackTraces = false) (D : va_G) (cJ : ClassId) (o a : Nat) (c : Nat → Nat) (ac : Int32) (re : Int32) (kn : Int32) (f : Int) (g : Int) (z : Int) (r9f : -2147483648 ≤ f ∧ f ≤ 2147483647) (r9g : -2147483648 ≤ g ∧ g ≤ 2147483647) (r9z : -2147483648 ≤ z ∧ z ≤ 2147483647) (hbad : ¬ ((0 ≤ f ∧ f ≤ 5) ∧ (0 ≤ z ∧ z ≤ 5))) : zXI l yX3_shift 8 149 D cJ o a [.int (iZ (f)), .int (iZ (g)), .int (iZ (z))] c [.int (ac), .int (re), .int (kn)] "java/lang/IndexOutOfBoundsException" := by
  refine zXI.intro (lo := 124) (nA := 3) (own := RX3) zi_X3_shift (by decide) rfl rfl (by decide +kernel) rfl (Nat.le_of_ble_eq_true rfl) ?_
  intro p e s m below meth c0 ls C htab hk B Zs hl
  have hl : lv_has ls 6 [(0, .ref o), (1, .int (iZ (f))), (2, .int (iZ (g))), (3, .int (iZ (z)))] := hl
  refine lv_aload_n C.1 C.2.1 dX3_shift_0 rfl (lv_at hl 0 rfl) ?_
  refine lv_iload_n C.1 C.2.1 dX3_shift_1 rfl (lv_at hl 1 rfl) ?_
  by_cases hq2 : 0 ≤ (f) ∧ (f) ≤ 5
  rotate_left
  · exact zx_callI C B Zs htab hk (c_X3_polyIn_bad l hlq D cJ o a (c) ac re kn (f) (by first | omega | assumption) (by first | omega | assumption)) ml_X3_43 rfl ⟨Nat.le_of_ble_eq_true rfl, Nat.le_of_ble_eq_true rfl⟩ ⟨Nat.le_of_ble_eq_true rfl, Nat.le_of_ble_eq_true rfl⟩ ⟨Nat.le_of_ble_eq_true rfl, Nat.le_of_ble_eq_true rfl⟩ hl (Nat.le_of_ble_eq_true rfl) rfl dX3_shift_2
  refine zo_callD C B (r := some (.long (lN ((c) (f).toNat)))) (c_X3_polyIn l D cJ o a (c) (ac) (re) (kn) (f) (by first | assumption | omega | rfl | exact decide_eq_false (by omega) | exact decide_eq_true (by assumption) | exact decide_eq_true (by omega) | exact one_shl33 (by omega) | exact pm_lt _ _ | exact rm_lt (by first | assumption | exact pm_lt _ _) | exact Nat.lt_of_le_of_lt (Nat.shiftRight_le _ _) (by assumption) | exact Nat.lt_of_le_of_lt Nat.and_le_right (by omega))) ml_X3_43 rfl ⟨Nat.le_of_ble_eq_true rfl, Nat.le_of_ble_eq_true rfl⟩ ⟨Nat.le_of_ble_eq_true rfl, Nat.le_of_ble_eq_true rfl⟩ hl (Nat.le_of_ble_eq_true rfl) rfl dX3_shift_2 (fun H locs B => ?_)
  have q2_0 := B.1.2.2.2 ((f)).toNat
  refine lv_lstore (lv' := [(4, .long (lN ((c) (f).toNat))), (0, .ref o), (1, .int (iZ (f))), (2, .int (iZ (g))), (3, .int (iZ (z)))]) C.1 C.2.1 dX3_shift_5 hl (by decide) rfl (fun ls hl => ?_)
  refine lv_aload_n C.1 C.2.1 dX3_shift_7 rfl (lv_at hl 1 rfl) ?_
  refine lv_iload_n C.1 C.2.1 dX3_shift_8 rfl (lv_at hl 4 rfl) ?_
  by_cases hq9 : 0 ≤ (z) ∧ (z) ≤ 5
  rotate_left
  · exact zx_callI C B Zs htab hk (c_X3_checkCell_bad l hlq D cJ o a (c) ac re kn (z) (by first | omega | assumption) (by first | omega | assumption)) ml_X3_23 rfl ⟨Nat.le_of_ble_eq_true rfl, Nat.le_of_ble_eq_true rfl⟩ ⟨Nat.le_of_ble_eq_true rfl, Nat.le_of_ble_eq_true rfl⟩ ⟨Nat.le_of_ble_eq_true rfl, Nat.le_of_ble_eq_true rfl⟩ hl (Nat.le_of_ble_eq_true rfl) rfl dX3_shift_9
  exfalso; omega

set_option maxHeartbeats 4000000 in
set_option maxRecDepth 100000 in
theorem c_X3_shift_badr (l : Launch) (hlq : l.stackTraces = false) (D : va_G) (cJ : ClassId) (o a : Nat) (c : Nat → Nat) (ac : Int32) (re : Int32) (kn : Int32) (f : Int) (g : Int) (z : Int) (r9f : -2147483648 ≤ f ∧ f ≤ 2147483647) (r9g : -2147483648 ≤ g ∧ g ≤ 2147483647) (r9z : -2147483648 ≤ z ∧ z ≤ 2147483647) (hf : 0 ≤ f ∧ f ≤ 5) (hz : 0 ≤ z ∧ z ≤ 5) (hbad : ¬ ((-32 ≤ g ∧ g ≤ 32))) : zXI l yX3_shift 7 129 D cJ o a [.int (iZ (f)), .int (iZ (g)), .int (iZ (z))] c [.int (ac), .int (re), .int (kn)] "java/lang/IllegalArgumentException" := by
  refine zXI.intro (lo := 104) (nA := 3) (own := RX3) zi_X3_shift (by decide) rfl rfl (by decide +kernel) rfl (Nat.le_of_ble_eq_true rfl) ?_
  intro p e s m below meth c0 ls C htab hk B Zs hl
  have hl : lv_has ls 6 [(0, .ref o), (1, .int (iZ (f))), (2, .int (iZ (g))), (3, .int (iZ (z)))] := hl
  refine lv_aload_n C.1 C.2.1 dX3_shift_0 rfl (lv_at hl 0 rfl) ?_
  refine lv_iload_n C.1 C.2.1 dX3_shift_1 rfl (lv_at hl 1 rfl) ?_
  refine zo_callD C B (r := some (.long (lN ((c) (f).toNat)))) (c_X3_polyIn l D cJ o a (c) (ac) (re) (kn) (f) (by first | assumption | omega | rfl | exact decide_eq_false (by omega) | exact decide_eq_true (by assumption) | exact decide_eq_true (by omega) | exact one_shl33 (by omega) | exact pm_lt _ _ | exact rm_lt (by first | assumption | exact pm_lt _ _) | exact Nat.lt_of_le_of_lt (Nat.shiftRight_le _ _) (by assumption) | exact Nat.lt_of_le_of_lt Nat.and_le_right (by omega))) ml_X3_43 rfl ⟨Nat.le_of_ble_eq_true rfl, Nat.le_of_ble_eq_true rfl⟩ ⟨Nat.le_of_ble_eq_true rfl, Nat.le_of_ble_eq_true rfl⟩ hl (Nat.le_of_ble_eq_true rfl) rfl dX3_shift_2 (fun H locs B => ?_)
  have q2_0 := B.1.2.2.2 ((f)).toNat
  refine lv_lstore (lv' := [(4, .long (lN ((c) (f).toNat))), (0, .ref o), (1, .int (iZ (f))), (2, .int (iZ (g))), (3, .int (iZ (z)))]) C.1 C.2.1 dX3_shift_5 hl (by decide) rfl (fun ls hl => ?_)
  refine lv_aload_n C.1 C.2.1 dX3_shift_7 rfl (lv_at hl 1 rfl) ?_
  refine lv_iload_n C.1 C.2.1 dX3_shift_8 rfl (lv_at hl 4 rfl) ?_
  refine zo_callD C B (r := none) (c_X3_checkCell l D cJ o a (c) ((ac)) ((re)) ((kn)) (z) (by first | assumption | omega | rfl | exact decide_eq_false (by omega) | exact decide_eq_true (by assumption) | exact decide_eq_true (by omega) | exact one_shl33 (by omega) | exact pm_lt _ _ | exact rm_lt (by first | assumption | exact pm_lt _ _) | exact Nat.lt_of_le_of_lt (Nat.shiftRight_le _ _) (by assumption) | exact Nat.lt_of_le_of_lt Nat.and_le_right (by omega))) ml_X3_23 rfl ⟨Nat.le_of_ble_eq_true rfl, Nat.le_of_ble_eq_true rfl⟩ ⟨Nat.le_of_ble_eq_true rfl, Nat.le_of_ble_eq_true rfl⟩ hl (Nat.le_of_ble_eq_true rfl) rfl dX3_shift_9 (fun H locs B => ?_)
  refine lv_iload_n C.1 C.2.1 dX3_shift_12 rfl (lv_at hl 3 rfl) ?_
  refine z_bipush C dX3_shift_13 (by decide) ?_
  refine z_bipush C dX3_shift_15 (by decide) ?_
  by_cases hq17 : (-32 : Int) ≤ (g) ∧ (g) ≤ (32 : Int)
  rotate_left
  · exact zx_callS C B Zs htab hk (c_X3_checkRange_bad l hlq (g) (-32 : Int) (32 : Int) (by first | omega | assumption) (by first | omega | assumption) (by first | omega | assumption) (by first | omega | assumption)) ml_X3_33 ⟨Nat.le_of_ble_eq_true rfl, Nat.le_of_ble_eq_true rfl⟩ ⟨Nat.le_of_ble_eq_true rfl, Nat.le_of_ble_eq_true rfl⟩ ⟨Nat.le_of_ble_eq_true rfl, Nat.le_of_ble_eq_true rfl⟩ hl (Nat.le_of_ble_eq_true rfl) rfl dX3_shift_17
  exfalso; omega

set_option maxHeartbeats 4000000 in
set_option maxRecDepth 100000 in
theorem c_X3_quotient_badc (l : Launch) (hlq : l.stackTraces = false) (D : va_G) (cJ : ClassId) (o a : Nat) (c : Nat → Nat) (ac : Int32) (re : Int32) (kn : Int32) (f : Int) (g : Int) (z : Int) (r9f : -2147483648 ≤ f ∧ f ≤ 2147483647) (r9g : -2147483648 ≤ g ∧ g ≤ 2147483647) (r9z : -2147483648 ≤ z ∧ z ≤ 2147483647) (hbad : ¬ ((0 ≤ f ∧ f ≤ 5) ∧ (0 ≤ g ∧ g ≤ 5) ∧ (0 ≤ z ∧ z ≤ 5))) : zXI l yX3_quotient 8 151 D cJ o a [.int (iZ (f)), .int (iZ (g)), .int (iZ (z))] c [.int (ac), .int (re), .int (kn)] "java/lang/IndexOutOfBoundsException" := by
  refine zXI.intro (lo := 124) (nA := 3) (own := RX3) zi_X3_quotient (by decide) rfl rfl (by decide +kernel) rfl (Nat.le_of_ble_eq_true rfl) ?_
  intro p e s m below meth c0 ls C htab hk B Zs hl
  have hl : lv_has ls 8 [(0, .ref o), (1, .int (iZ (f))), (2, .int (iZ (g))), (3, .int (iZ (z)))] := hl
  refine lv_aload_n C.1 C.2.1 dX3_quotient_0 rfl (lv_at hl 0 rfl) ?_
  refine lv_iload_n C.1 C.2.1 dX3_quotient_1 rfl (lv_at hl 1 rfl) ?_
  by_cases hq2 : 0 ≤ (f) ∧ (f) ≤ 5
  rotate_left
  · exact zx_callI C B Zs htab hk (c_X3_polyIn_bad l hlq D cJ o a (c) ac re kn (f) (by first | omega | assumption) (by first | omega | assumption)) ml_X3_43 rfl ⟨Nat.le_of_ble_eq_true rfl, Nat.le_of_ble_eq_true rfl⟩ ⟨Nat.le_of_ble_eq_true rfl, Nat.le_of_ble_eq_true rfl⟩ ⟨Nat.le_of_ble_eq_true rfl, Nat.le_of_ble_eq_true rfl⟩ hl (Nat.le_of_ble_eq_true rfl) rfl dX3_quotient_2
  refine zo_callD C B (r := some (.long (lN ((c) (f).toNat)))) (c_X3_polyIn l D cJ o a (c) (ac) (re) (kn) (f) (by first | assumption | omega | rfl | exact decide_eq_false (by omega) | exact decide_eq_true (by assumption) | exact decide_eq_true (by omega) | exact one_shl33 (by omega) | exact pm_lt _ _ | exact rm_lt (by first | assumption | exact pm_lt _ _) | exact Nat.lt_of_le_of_lt (Nat.shiftRight_le _ _) (by assumption) | exact Nat.lt_of_le_of_lt Nat.and_le_right (by omega))) ml_X3_43 rfl ⟨Nat.le_of_ble_eq_true rfl, Nat.le_of_ble_eq_true rfl⟩ ⟨Nat.le_of_ble_eq_true rfl, Nat.le_of_ble_eq_true rfl⟩ hl (Nat.le_of_ble_eq_true rfl) rfl dX3_quotient_2 (fun H locs B => ?_)
  have q2_0 := B.1.2.2.2 ((f)).toNat
  refine lv_lstore (lv' := [(4, .long (lN ((c) (f).toNat))), (0, .ref o), (1, .int (iZ (f))), (2, .int (iZ (g))), (3, .int (iZ (z)))]) C.1 C.2.1 dX3_quotient_5 hl (by decide) rfl (fun ls hl => ?_)
  refine lv_aload_n C.1 C.2.1 dX3_quotient_7 rfl (lv_at hl 1 rfl) ?_
  refine lv_iload_n C.1 C.2.1 dX3_quotient_8 rfl (lv_at hl 3 rfl) ?_
  by_cases hq9 : 0 ≤ (g) ∧ (g) ≤ 5
  rotate_left
  · exact zx_callI C B Zs htab hk (c_X3_polyIn_bad l hlq D cJ o a (c) ac re kn (g) (by first | omega | assumption) (by first | omega | assumption)) ml_X3_43 rfl ⟨Nat.le_of_ble_eq_true rfl, Nat.le_of_ble_eq_true rfl⟩ ⟨Nat.le_of_ble_eq_true rfl, Nat.le_of_ble_eq_true rfl⟩ ⟨Nat.le_of_ble_eq_true rfl, Nat.le_of_ble_eq_true rfl⟩ hl (Nat.le_of_ble_eq_true rfl) rfl dX3_quotient_9
  refine zo_callD C B (r := some (.long (lN ((c) (g).toNat)))) (c_X3_polyIn l D cJ o a (c) ((ac)) ((re)) ((kn)) (g) (by first | assumption | omega | rfl | exact decide_eq_false (by omega) | exact decide_eq_true (by assumption) | exact decide_eq_true (by omega) | exact one_shl33 (by omega) | exact pm_lt _ _ | exact rm_lt (by first | assumption | exact pm_lt _ _) | exact Nat.lt_of_le_of_lt (Nat.shiftRight_le _ _) (by assumption) | exact Nat.lt_of_le_of_lt Nat.and_le_right (by omega))) ml_X3_43 rfl ⟨Nat.le_of_ble_eq_true rfl, Nat.le_of_ble_eq_true rfl⟩ ⟨Nat.le_of_ble_eq_true rfl, Nat.le_of_ble_eq_true rfl⟩ hl (Nat.le_of_ble_eq_true rfl) rfl dX3_quotient_9 (fun H locs B => ?_)
  have q9_0 := B.1.2.2.2 ((g)).toNat
  refine lv_lstore (lv' := [(6, .long (lN ((c) (g).toNat))), (4, .long (lN ((c) (f).toNat))), (0, .ref o), (1, .int (iZ (f))), (2, .int (iZ (g))), (3, .int (iZ (z)))]) C.1 C.2.1 dX3_quotient_12 hl (by decide) rfl (fun ls hl => ?_)
  refine lv_aload_n C.1 C.2.1 dX3_quotient_14 rfl (lv_at hl 2 rfl) ?_
  refine lv_iload_n C.1 C.2.1 dX3_quotient_15 rfl (lv_at hl 5 rfl) ?_
  by_cases hq16 : 0 ≤ (z) ∧ (z) ≤ 5
  rotate_left
  · exact zx_callI C B Zs htab hk (c_X3_checkCell_bad l hlq D cJ o a (c) ac re kn (z) (by first | omega | assumption) (by first | omega | assumption)) ml_X3_23 rfl ⟨Nat.le_of_ble_eq_true rfl, Nat.le_of_ble_eq_true rfl⟩ ⟨Nat.le_of_ble_eq_true rfl, Nat.le_of_ble_eq_true rfl⟩ ⟨Nat.le_of_ble_eq_true rfl, Nat.le_of_ble_eq_true rfl⟩ hl (Nat.le_of_ble_eq_true rfl) rfl dX3_quotient_16
  exfalso; omega

set_option maxHeartbeats 4000000 in
set_option maxRecDepth 100000 in
theorem c_X3_rest_badc (l : Launch) (hlq : l.stackTraces = false) (D : va_G) (cJ : ClassId) (o a : Nat) (c : Nat → Nat) (ac : Int32) (re : Int32) (kn : Int32) (f : Int) (g : Int) (z : Int) (r9f : -2147483648 ≤ f ∧ f ≤ 2147483647) (r9g : -2147483648 ≤ g ∧ g ≤ 2147483647) (r9z : -2147483648 ≤ z ∧ z ≤ 2147483647) (hbad : ¬ ((0 ≤ f ∧ f ≤ 5) ∧ (0 ≤ g ∧ g ≤ 5) ∧ (0 ≤ z ∧ z ≤ 5))) : zXI l yX3_rest 8 151 D cJ o a [.int (iZ (f)), .int (iZ (g)), .int (iZ (z))] c [.int (ac), .int (re), .int (kn)] "java/lang/IndexOutOfBoundsException" := by
  refine zXI.intro (lo := 124) (nA := 3) (own := RX3) zi_X3_rest (by decide) rfl rfl (by decide +kernel) rfl (Nat.le_of_ble_eq_true rfl) ?_
  intro p e s m below meth c0 ls C htab hk B Zs hl
  have hl : lv_has ls 8 [(0, .ref o), (1, .int (iZ (f))), (2, .int (iZ (g))), (3, .int (iZ (z)))] := hl
  refine lv_aload_n C.1 C.2.1 dX3_rest_0 rfl (lv_at hl 0 rfl) ?_
  refine lv_iload_n C.1 C.2.1 dX3_rest_1 rfl (lv_at hl 1 rfl) ?_
  by_cases hq2 : 0 ≤ (f) ∧ (f) ≤ 5
  rotate_left
  · exact zx_callI C B Zs htab hk (c_X3_polyIn_bad l hlq D cJ o a (c) ac re kn (f) (by first | omega | assumption) (by first | omega | assumption)) ml_X3_43 rfl ⟨Nat.le_of_ble_eq_true rfl, Nat.le_of_ble_eq_true rfl⟩ ⟨Nat.le_of_ble_eq_true rfl, Nat.le_of_ble_eq_true rfl⟩ ⟨Nat.le_of_ble_eq_true rfl, Nat.le_of_ble_eq_true rfl⟩ hl (Nat.le_of_ble_eq_true rfl) rfl dX3_rest_2
  refine zo_callD C B (r := some (.long (lN ((c) (f).toNat)))) (c_X3_polyIn l D cJ o a (c) (ac) (re) (kn) (f) (by first | assumption | omega | rfl | exact decide_eq_false (by omega) | exact decide_eq_true (by assumption) | exact decide_eq_true (by omega) | exact one_shl33 (by omega) | exact pm_lt _ _ | exact rm_lt (by first | assumption | exact pm_lt _ _) | exact Nat.lt_of_le_of_lt (Nat.shiftRight_le _ _) (by assumption) | exact Nat.lt_of_le_of_lt Nat.and_le_right (by omega))) ml_X3_43 rfl ⟨Nat.le_of_ble_eq_true rfl, Nat.le_of_ble_eq_true rfl⟩ ⟨Nat.le_of_ble_eq_true rfl, Nat.le_of_ble_eq_true rfl⟩ hl (Nat.le_of_ble_eq_true rfl) rfl dX3_rest_2 (fun H locs B => ?_)
  have q2_0 := B.1.2.2.2 ((f)).toNat
  refine lv_lstore (lv' := [(4, .long (lN ((c) (f).toNat))), (0, .ref o), (1, .int (iZ (f))), (2, .int (iZ (g))), (3, .int (iZ (z)))]) C.1 C.2.1 dX3_rest_5 hl (by decide) rfl (fun ls hl => ?_)
  refine lv_aload_n C.1 C.2.1 dX3_rest_7 rfl (lv_at hl 1 rfl) ?_
  refine lv_iload_n C.1 C.2.1 dX3_rest_8 rfl (lv_at hl 3 rfl) ?_
  by_cases hq9 : 0 ≤ (g) ∧ (g) ≤ 5
  rotate_left
  · exact zx_callI C B Zs htab hk (c_X3_polyIn_bad l hlq D cJ o a (c) ac re kn (g) (by first | omega | assumption) (by first | omega | assumption)) ml_X3_43 rfl ⟨Nat.le_of_ble_eq_true rfl, Nat.le_of_ble_eq_true rfl⟩ ⟨Nat.le_of_ble_eq_true rfl, Nat.le_of_ble_eq_true rfl⟩ ⟨Nat.le_of_ble_eq_true rfl, Nat.le_of_ble_eq_true rfl⟩ hl (Nat.le_of_ble_eq_true rfl) rfl dX3_rest_9
  refine zo_callD C B (r := some (.long (lN ((c) (g).toNat)))) (c_X3_polyIn l D cJ o a (c) ((ac)) ((re)) ((kn)) (g) (by first | assumption | omega | rfl | exact decide_eq_false (by omega) | exact decide_eq_true (by assumption) | exact decide_eq_true (by omega) | exact one_shl33 (by omega) | exact pm_lt _ _ | exact rm_lt (by first | assumption | exact pm_lt _ _) | exact Nat.lt_of_le_of_lt (Nat.shiftRight_le _ _) (by assumption) | exact Nat.lt_of_le_of_lt Nat.and_le_right (by omega))) ml_X3_43 rfl ⟨Nat.le_of_ble_eq_true rfl, Nat.le_of_ble_eq_true rfl⟩ ⟨Nat.le_of_ble_eq_true rfl, Nat.le_of_ble_eq_true rfl⟩ hl (Nat.le_of_ble_eq_true rfl) rfl dX3_rest_9 (fun H locs B => ?_)
  have q9_0 := B.1.2.2.2 ((g)).toNat
  refine lv_lstore (lv' := [(6, .long (lN ((c) (g).toNat))), (4, .long (lN ((c) (f).toNat))), (0, .ref o), (1, .int (iZ (f))), (2, .int (iZ (g))), (3, .int (iZ (z)))]) C.1 C.2.1 dX3_rest_12 hl (by decide) rfl (fun ls hl => ?_)
  refine lv_aload_n C.1 C.2.1 dX3_rest_14 rfl (lv_at hl 2 rfl) ?_
  refine lv_iload_n C.1 C.2.1 dX3_rest_15 rfl (lv_at hl 5 rfl) ?_
  by_cases hq16 : 0 ≤ (z) ∧ (z) ≤ 5
  rotate_left
  · exact zx_callI C B Zs htab hk (c_X3_checkCell_bad l hlq D cJ o a (c) ac re kn (z) (by first | omega | assumption) (by first | omega | assumption)) ml_X3_23 rfl ⟨Nat.le_of_ble_eq_true rfl, Nat.le_of_ble_eq_true rfl⟩ ⟨Nat.le_of_ble_eq_true rfl, Nat.le_of_ble_eq_true rfl⟩ ⟨Nat.le_of_ble_eq_true rfl, Nat.le_of_ble_eq_true rfl⟩ hl (Nat.le_of_ble_eq_true rfl) rfl dX3_rest_16
  exfalso; omega

set_option maxHeartbeats 4000000 in
set_option maxRecDepth 100000 in
theorem c_X3_gcd_badc (l : Launch) (hlq : l.stackTraces = false) (D : va_G) (cJ : ClassId) (o a : Nat) (c : Nat → Nat) (ac : Int32) (re : Int32) (kn : Int32) (f : Int) (g : Int) (z : Int) (r9f : -2147483648 ≤ f ∧ f ≤ 2147483647) (r9g : -2147483648 ≤ g ∧ g ≤ 2147483647) (r9z : -2147483648 ≤ z ∧ z ≤ 2147483647) (hbad : ¬ ((0 ≤ f ∧ f ≤ 5) ∧ (0 ≤ g ∧ g ≤ 5) ∧ (0 ≤ z ∧ z ≤ 5))) : zXI l yX3_gcd 8 151 D cJ o a [.int (iZ (f)), .int (iZ (g)), .int (iZ (z))] c [.int (ac), .int (re), .int (kn)] "java/lang/IndexOutOfBoundsException" := by
  refine zXI.intro (lo := 124) (nA := 3) (own := RX3) zi_X3_gcd (by decide) rfl rfl (by decide +kernel) rfl (Nat.le_of_ble_eq_true rfl) ?_
  intro p e s m below meth c0 ls C htab hk B Zs hl
  have hl : lv_has ls 8 [(0, .ref o), (1, .int (iZ (f))), (2, .int (iZ (g))), (3, .int (iZ (z)))] := hl
  refine lv_aload_n C.1 C.2.1 dX3_gcd_0 rfl (lv_at hl 0 rfl) ?_
  refine lv_iload_n C.1 C.2.1 dX3_gcd_1 rfl (lv_at hl 1 rfl) ?_
  by_cases hq2 : 0 ≤ (f) ∧ (f) ≤ 5
  rotate_left
  · exact zx_callI C B Zs htab hk (c_X3_polyIn_bad l hlq D cJ o a (c) ac re kn (f) (by first | omega | assumption) (by first | omega | assumption)) ml_X3_43 rfl ⟨Nat.le_of_ble_eq_true rfl, Nat.le_of_ble_eq_true rfl⟩ ⟨Nat.le_of_ble_eq_true rfl, Nat.le_of_ble_eq_true rfl⟩ ⟨Nat.le_of_ble_eq_true rfl, Nat.le_of_ble_eq_true rfl⟩ hl (Nat.le_of_ble_eq_true rfl) rfl dX3_gcd_2
  refine zo_callD C B (r := some (.long (lN ((c) (f).toNat)))) (c_X3_polyIn l D cJ o a (c) (ac) (re) (kn) (f) (by first | assumption | omega | rfl | exact decide_eq_false (by omega) | exact decide_eq_true (by assumption) | exact decide_eq_true (by omega) | exact one_shl33 (by omega) | exact pm_lt _ _ | exact rm_lt (by first | assumption | exact pm_lt _ _) | exact Nat.lt_of_le_of_lt (Nat.shiftRight_le _ _) (by assumption) | exact Nat.lt_of_le_of_lt Nat.and_le_right (by omega))) ml_X3_43 rfl ⟨Nat.le_of_ble_eq_true rfl, Nat.le_of_ble_eq_true rfl⟩ ⟨Nat.le_of_ble_eq_true rfl, Nat.le_of_ble_eq_true rfl⟩ hl (Nat.le_of_ble_eq_true rfl) rfl dX3_gcd_2 (fun H locs B => ?_)
  have q2_0 := B.1.2.2.2 ((f)).toNat
  refine lv_lstore (lv' := [(4, .long (lN ((c) (f).toNat))), (0, .ref o), (1, .int (iZ (f))), (2, .int (iZ (g))), (3, .int (iZ (z)))]) C.1 C.2.1 dX3_gcd_5 hl (by decide) rfl (fun ls hl => ?_)
  refine lv_aload_n C.1 C.2.1 dX3_gcd_7 rfl (lv_at hl 1 rfl) ?_
  refine lv_iload_n C.1 C.2.1 dX3_gcd_8 rfl (lv_at hl 3 rfl) ?_
  by_cases hq9 : 0 ≤ (g) ∧ (g) ≤ 5
  rotate_left
  · exact zx_callI C B Zs htab hk (c_X3_polyIn_bad l hlq D cJ o a (c) ac re kn (g) (by first | omega | assumption) (by first | omega | assumption)) ml_X3_43 rfl ⟨Nat.le_of_ble_eq_true rfl, Nat.le_of_ble_eq_true rfl⟩ ⟨Nat.le_of_ble_eq_true rfl, Nat.le_of_ble_eq_true rfl⟩ ⟨Nat.le_of_ble_eq_true rfl, Nat.le_of_ble_eq_true rfl⟩ hl (Nat.le_of_ble_eq_true rfl) rfl dX3_gcd_9
  refine zo_callD C B (r := some (.long (lN ((c) (g).toNat)))) (c_X3_polyIn l D cJ o a (c) ((ac)) ((re)) ((kn)) (g) (by first | assumption | omega | rfl | exact decide_eq_false (by omega) | exact decide_eq_true (by assumption) | exact decide_eq_true (by omega) | exact one_shl33 (by omega) | exact pm_lt _ _ | exact rm_lt (by first | assumption | exact pm_lt _ _) | exact Nat.lt_of_le_of_lt (Nat.shiftRight_le _ _) (by assumption) | exact Nat.lt_of_le_of_lt Nat.and_le_right (by omega))) ml_X3_43 rfl ⟨Nat.le_of_ble_eq_true rfl, Nat.le_of_ble_eq_true rfl⟩ ⟨Nat.le_of_ble_eq_true rfl, Nat.le_of_ble_eq_true rfl⟩ hl (Nat.le_of_ble_eq_true rfl) rfl dX3_gcd_9 (fun H locs B => ?_)
  have q9_0 := B.1.2.2.2 ((g)).toNat
  refine lv_lstore (lv' := [(6, .long (lN ((c) (g).toNat))), (4, .long (lN ((c) (f).toNat))), (0, .ref o), (1, .int (iZ (f))), (2, .int (iZ (g))), (3, .int (iZ (z)))]) C.1 C.2.1 dX3_gcd_12 hl (by decide) rfl (fun ls hl => ?_)
  refine lv_aload_n C.1 C.2.1 dX3_gcd_14 rfl (lv_at hl 2 rfl) ?_
  refine lv_iload_n C.1 C.2.1 dX3_gcd_15 rfl (lv_at hl 5 rfl) ?_
  by_cases hq16 : 0 ≤ (z) ∧ (z) ≤ 5
  rotate_left
  · exact zx_callI C B Zs htab hk (c_X3_checkCell_bad l hlq D cJ o a (c) ac re kn (z) (by first | omega | assumption) (by first | omega | assumption)) ml_X3_23 rfl ⟨Nat.le_of_ble_eq_true rfl, Nat.le_of_ble_eq_true rfl⟩ ⟨Nat.le_of_ble_eq_true rfl, Nat.le_of_ble_eq_true rfl⟩ ⟨Nat.le_of_ble_eq_true rfl, Nat.le_of_ble_eq_true rfl⟩ hl (Nat.le_of_ble_eq_true rfl) rfl dX3_gcd_16
  exfalso; omega

set_option maxHeartbeats 4000000 in
set_option maxRecDepth 100000 in
theorem c_X3_lcm_badc (l : Launch) (hlq : l.stackTraces = false) (D : va_G) (cJ : ClassId) (o a : Nat) (c : Nat → Nat) (ac : Int32) (re : Int32) (kn : Int32) (f : Int) (g : Int) (z : Int) (r9f : -2147483648 ≤ f ∧ f ≤ 2147483647) (r9g : -2147483648 ≤ g ∧ g ≤ 2147483647) (r9z : -2147483648 ≤ z ∧ z ≤ 2147483647) (hbad : ¬ ((0 ≤ f ∧ f ≤ 5) ∧ (0 ≤ g ∧ g ≤ 5) ∧ (0 ≤ z ∧ z ≤ 5))) : zXI l yX3_lcm 8 151 D cJ o a [.int (iZ (f)), .int (iZ (g)), .int (iZ (z))] c [.int (ac), .int (re), .int (kn)] "java/lang/IndexOutOfBoundsException" := by
  refine zXI.intro (lo := 124) (nA := 3) (own := RX3) zi_X3_lcm (by decide) rfl rfl (by decide +kernel) rfl (Nat.le_of_ble_eq_true rfl) ?_
  intro p e s m below meth c0 ls C htab hk B Zs hl
  have hl : lv_has ls 8 [(0, .ref o), (1, .int (iZ (f))), (2, .int (iZ (g))), (3, .int (iZ (z)))] := hl
  refine lv_aload_n C.1 C.2.1 dX3_lcm_0 rfl (lv_at hl 0 rfl) ?_
  refine lv_iload_n C.1 C.2.1 dX3_lcm_1 rfl (lv_at hl 1 rfl) ?_
  by_cases hq2 : 0 ≤ (f) ∧ (f) ≤ 5
  rotate_left
  · exact zx_callI C B Zs htab hk (c_X3_polyIn_bad l hlq D cJ o a (c) ac re kn (f) (by first | omega | assumption) (by first | omega | assumption)) ml_X3_43 rfl ⟨Nat.le_of_ble_eq_true rfl, Nat.le_of_ble_eq_true rfl⟩ ⟨Nat.le_of_ble_eq_true rfl, Nat.le_of_ble_eq_true rfl⟩ ⟨Nat.le_of_ble_eq_true rfl, Nat.le_of_ble_eq_true rfl⟩ hl (Nat.le_of_ble_eq_true rfl) rfl dX3_lcm_2
  refine zo_callD C B (r := some (.long (lN ((c) (f).toNat)))) (c_X3_polyIn l D cJ o a (c) (ac) (re) (kn) (f) (by first | assumption | omega | rfl | exact decide_eq_false (by omega) | exact decide_eq_true (by assumption) | exact decide_eq_true (by omega) | exact one_shl33 (by omega) | exact pm_lt _ _ | exact rm_lt (by first | assumption | exact pm_lt _ _) | exact Nat.lt_of_le_of_lt (Nat.shiftRight_le _ _) (by assumption) | exact Nat.lt_of_le_of_lt Nat.and_le_right (by omega))) ml_X3_43 rfl ⟨Nat.le_of_ble_eq_true rfl, Nat.le_of_ble_eq_true rfl⟩ ⟨Nat.le_of_ble_eq_true rfl, Nat.le_of_ble_eq_true rfl⟩ hl (Nat.le_of_ble_eq_true rfl) rfl dX3_lcm_2 (fun H locs B => ?_)
  have q2_0 := B.1.2.2.2 ((f)).toNat
  refine lv_lstore (lv' := [(4, .long (lN ((c) (f).toNat))), (0, .ref o), (1, .int (iZ (f))), (2, .int (iZ (g))), (3, .int (iZ (z)))]) C.1 C.2.1 dX3_lcm_5 hl (by decide) rfl (fun ls hl => ?_)
  refine lv_aload_n C.1 C.2.1 dX3_lcm_7 rfl (lv_at hl 1 rfl) ?_
  refine lv_iload_n C.1 C.2.1 dX3_lcm_8 rfl (lv_at hl 3 rfl) ?_
  by_cases hq9 : 0 ≤ (g) ∧ (g) ≤ 5
  rotate_left
  · exact zx_callI C B Zs htab hk (c_X3_polyIn_bad l hlq D cJ o a (c) ac re kn (g) (by first | omega | assumption) (by first | omega | assumption)) ml_X3_43 rfl ⟨Nat.le_of_ble_eq_true rfl, Nat.le_of_ble_eq_true rfl⟩ ⟨Nat.le_of_ble_eq_true rfl, Nat.le_of_ble_eq_true rfl⟩ ⟨Nat.le_of_ble_eq_true rfl, Nat.le_of_ble_eq_true rfl⟩ hl (Nat.le_of_ble_eq_true rfl) rfl dX3_lcm_9
  refine zo_callD C B (r := some (.long (lN ((c) (g).toNat)))) (c_X3_polyIn l D cJ o a (c) ((ac)) ((re)) ((kn)) (g) (by first | assumption | omega | rfl | exact decide_eq_false (by omega) | exact decide_eq_true (by assumption) | exact decide_eq_true (by omega) | exact one_shl33 (by omega) | exact pm_lt _ _ | exact rm_lt (by first | assumption | exact pm_lt _ _) | exact Nat.lt_of_le_of_lt (Nat.shiftRight_le _ _) (by assumption) | exact Nat.lt_of_le_of_lt Nat.and_le_right (by omega))) ml_X3_43 rfl ⟨Nat.le_of_ble_eq_true rfl, Nat.le_of_ble_eq_true rfl⟩ ⟨Nat.le_of_ble_eq_true rfl, Nat.le_of_ble_eq_true rfl⟩ hl (Nat.le_of_ble_eq_true rfl) rfl dX3_lcm_9 (fun H locs B => ?_)
  have q9_0 := B.1.2.2.2 ((g)).toNat
  refine lv_lstore (lv' := [(6, .long (lN ((c) (g).toNat))), (4, .long (lN ((c) (f).toNat))), (0, .ref o), (1, .int (iZ (f))), (2, .int (iZ (g))), (3, .int (iZ (z)))]) C.1 C.2.1 dX3_lcm_12 hl (by decide) rfl (fun ls hl => ?_)
  refine lv_aload_n C.1 C.2.1 dX3_lcm_14 rfl (lv_at hl 2 rfl) ?_
  refine lv_iload_n C.1 C.2.1 dX3_lcm_15 rfl (lv_at hl 5 rfl) ?_
  by_cases hq16 : 0 ≤ (z) ∧ (z) ≤ 5
  rotate_left
  · exact zx_callI C B Zs htab hk (c_X3_checkCell_bad l hlq D cJ o a (c) ac re kn (z) (by first | omega | assumption) (by first | omega | assumption)) ml_X3_23 rfl ⟨Nat.le_of_ble_eq_true rfl, Nat.le_of_ble_eq_true rfl⟩ ⟨Nat.le_of_ble_eq_true rfl, Nat.le_of_ble_eq_true rfl⟩ ⟨Nat.le_of_ble_eq_true rfl, Nat.le_of_ble_eq_true rfl⟩ hl (Nat.le_of_ble_eq_true rfl) rfl dX3_lcm_16
  exfalso; omega

set_option maxHeartbeats 4000000 in
set_option maxRecDepth 100000 in
theorem c_X3_bezout_badc (l : Launch) (hlq : l.stackTraces = false) (D : va_G) (cJ : ClassId) (o a : Nat) (c : Nat → Nat) (ac : Int32) (re : Int32) (kn : Int32) (f : Int) (g : Int) (b : Bool) (z : Int) (r9f : -2147483648 ≤ f ∧ f ≤ 2147483647) (r9g : -2147483648 ≤ g ∧ g ≤ 2147483647) (r9z : -2147483648 ≤ z ∧ z ≤ 2147483647) (hbad : ¬ ((0 ≤ f ∧ f ≤ 5) ∧ (0 ≤ g ∧ g ≤ 5) ∧ (0 ≤ z ∧ z ≤ 5))) : zXI l yX3_bezout 8 152 D cJ o a [.int (iZ (f)), .int (iZ (g)), .int (iZ (zB (b))), .int (iZ (z))] c [.int (ac), .int (re), .int (kn)] "java/lang/IndexOutOfBoundsException" := by
  refine zXI.intro (lo := 124) (nA := 4) (own := RX3) zi_X3_bezout (by decide) rfl rfl (by decide +kernel) rfl (Nat.le_of_ble_eq_true rfl) ?_
  intro p e s m below meth c0 ls C htab hk B Zs hl
  have hl : lv_has ls 9 [(0, .ref o), (1, .int (iZ (f))), (2, .int (iZ (g))), (3, .int (iZ (zB (b)))), (4, .int (iZ (z)))] := hl
  refine lv_aload_n C.1 C.2.1 dX3_bezout_0 rfl (lv_at hl 0 rfl) ?_
  refine lv_iload_n C.1 C.2.1 dX3_bezout_1 rfl (lv_at hl 1 rfl) ?_
  by_cases hq2 : 0 ≤ (f) ∧ (f) ≤ 5
  rotate_left
  · exact zx_callI C B Zs htab hk (c_X3_polyIn_bad l hlq D cJ o a (c) ac re kn (f) (by first | omega | assumption) (by first | omega | assumption)) ml_X3_43 rfl ⟨Nat.le_of_ble_eq_true rfl, Nat.le_of_ble_eq_true rfl⟩ ⟨Nat.le_of_ble_eq_true rfl, Nat.le_of_ble_eq_true rfl⟩ ⟨Nat.le_of_ble_eq_true rfl, Nat.le_of_ble_eq_true rfl⟩ hl (Nat.le_of_ble_eq_true rfl) rfl dX3_bezout_2
  refine zo_callD C B (r := some (.long (lN ((c) (f).toNat)))) (c_X3_polyIn l D cJ o a (c) (ac) (re) (kn) (f) (by first | assumption | omega | rfl | exact decide_eq_false (by omega) | exact decide_eq_true (by assumption) | exact decide_eq_true (by omega) | exact one_shl33 (by omega) | exact pm_lt _ _ | exact rm_lt (by first | assumption | exact pm_lt _ _) | exact Nat.lt_of_le_of_lt (Nat.shiftRight_le _ _) (by assumption) | exact Nat.lt_of_le_of_lt Nat.and_le_right (by omega))) ml_X3_43 rfl ⟨Nat.le_of_ble_eq_true rfl, Nat.le_of_ble_eq_true rfl⟩ ⟨Nat.le_of_ble_eq_true rfl, Nat.le_of_ble_eq_true rfl⟩ hl (Nat.le_of_ble_eq_true rfl) rfl dX3_bezout_2 (fun H locs B => ?_)
  have q2_0 := B.1.2.2.2 ((f)).toNat
  refine lv_lstore (lv' := [(5, .long (lN ((c) (f).toNat))), (0, .ref o), (1, .int (iZ (f))), (2, .int (iZ (g))), (3, .int (iZ (zB (b)))), (4, .int (iZ (z)))]) C.1 C.2.1 dX3_bezout_5 hl (by decide) rfl (fun ls hl => ?_)
  refine lv_aload_n C.1 C.2.1 dX3_bezout_7 rfl (lv_at hl 1 rfl) ?_
  refine lv_iload_n C.1 C.2.1 dX3_bezout_8 rfl (lv_at hl 3 rfl) ?_
  by_cases hq9 : 0 ≤ (g) ∧ (g) ≤ 5
  rotate_left
  · exact zx_callI C B Zs htab hk (c_X3_polyIn_bad l hlq D cJ o a (c) ac re kn (g) (by first | omega | assumption) (by first | omega | assumption)) ml_X3_43 rfl ⟨Nat.le_of_ble_eq_true rfl, Nat.le_of_ble_eq_true rfl⟩ ⟨Nat.le_of_ble_eq_true rfl, Nat.le_of_ble_eq_true rfl⟩ ⟨Nat.le_of_ble_eq_true rfl, Nat.le_of_ble_eq_true rfl⟩ hl (Nat.le_of_ble_eq_true rfl) rfl dX3_bezout_9
  refine zo_callD C B (r := some (.long (lN ((c) (g).toNat)))) (c_X3_polyIn l D cJ o a (c) ((ac)) ((re)) ((kn)) (g) (by first | assumption | omega | rfl | exact decide_eq_false (by omega) | exact decide_eq_true (by assumption) | exact decide_eq_true (by omega) | exact one_shl33 (by omega) | exact pm_lt _ _ | exact rm_lt (by first | assumption | exact pm_lt _ _) | exact Nat.lt_of_le_of_lt (Nat.shiftRight_le _ _) (by assumption) | exact Nat.lt_of_le_of_lt Nat.and_le_right (by omega))) ml_X3_43 rfl ⟨Nat.le_of_ble_eq_true rfl, Nat.le_of_ble_eq_true rfl⟩ ⟨Nat.le_of_ble_eq_true rfl, Nat.le_of_ble_eq_true rfl⟩ hl (Nat.le_of_ble_eq_true rfl) rfl dX3_bezout_9 (fun H locs B => ?_)
  have q9_0 := B.1.2.2.2 ((g)).toNat
  refine lv_lstore (lv' := [(7, .long (lN ((c) (g).toNat))), (5, .long (lN ((c) (f).toNat))), (0, .ref o), (1, .int (iZ (f))), (2, .int (iZ (g))), (3, .int (iZ (zB (b)))), (4, .int (iZ (z)))]) C.1 C.2.1 dX3_bezout_12 hl (by decide) rfl (fun ls hl => ?_)
  refine lv_aload_n C.1 C.2.1 dX3_bezout_14 rfl (lv_at hl 2 rfl) ?_
  refine lv_iload C.1 C.2.1 dX3_bezout_15 (lv_at hl 6 rfl) ?_
  by_cases hq17 : 0 ≤ (z) ∧ (z) ≤ 5
  rotate_left
  · exact zx_callI C B Zs htab hk (c_X3_checkCell_bad l hlq D cJ o a (c) ac re kn (z) (by first | omega | assumption) (by first | omega | assumption)) ml_X3_23 rfl ⟨Nat.le_of_ble_eq_true rfl, Nat.le_of_ble_eq_true rfl⟩ ⟨Nat.le_of_ble_eq_true rfl, Nat.le_of_ble_eq_true rfl⟩ ⟨Nat.le_of_ble_eq_true rfl, Nat.le_of_ble_eq_true rfl⟩ hl (Nat.le_of_ble_eq_true rfl) rfl dX3_bezout_17
  exfalso; omega

set_option maxHeartbeats 4000000 in
set_option maxRecDepth 100000 in
theorem c_X3_derive_badc (l : Launch) (hlq : l.stackTraces = false) (D : va_G) (cJ : ClassId) (o a : Nat) (c : Nat → Nat) (ac : Int32) (re : Int32) (kn : Int32) (f : Int) (z : Int) (r9f : -2147483648 ≤ f ∧ f ≤ 2147483647) (r9z : -2147483648 ≤ z ∧ z ≤ 2147483647) (hbad : ¬ ((0 ≤ f ∧ f ≤ 5) ∧ (0 ≤ z ∧ z ≤ 5))) : zXI l yX3_derive 8 148 D cJ o a [.int (iZ (f)), .int (iZ (z))] c [.int (ac), .int (re), .int (kn)] "java/lang/IndexOutOfBoundsException" := by
  refine zXI.intro (lo := 124) (nA := 2) (own := RX3) zi_X3_derive (by decide) rfl rfl (by decide +kernel) rfl (Nat.le_of_ble_eq_true rfl) ?_
  intro p e s m below meth c0 ls C htab hk B Zs hl
  have hl : lv_has ls 5 [(0, .ref o), (1, .int (iZ (f))), (2, .int (iZ (z)))] := hl
  refine lv_aload_n C.1 C.2.1 dX3_derive_0 rfl (lv_at hl 0 rfl) ?_
  refine lv_iload_n C.1 C.2.1 dX3_derive_1 rfl (lv_at hl 1 rfl) ?_
  by_cases hq2 : 0 ≤ (f) ∧ (f) ≤ 5
  rotate_left
  · exact zx_callI C B Zs htab hk (c_X3_polyIn_bad l hlq D cJ o a (c) ac re kn (f) (by first | omega | assumption) (by first | omega | assumption)) ml_X3_43 rfl ⟨Nat.le_of_ble_eq_true rfl, Nat.le_of_ble_eq_true rfl⟩ ⟨Nat.le_of_ble_eq_true rfl, Nat.le_of_ble_eq_true rfl⟩ ⟨Nat.le_of_ble_eq_true rfl, Nat.le_of_ble_eq_true rfl⟩ hl (Nat.le_of_ble_eq_true rfl) rfl dX3_derive_2
  refine zo_callD C B (r := some (.long (lN ((c) (f).toNat)))) (c_X3_polyIn l D cJ o a (c) (ac) (re) (kn) (f) (by first | assumption | omega | rfl | exact decide_eq_false (by omega) | exact decide_eq_true (by assumption) | exact decide_eq_true (by omega) | exact one_shl33 (by omega) | exact pm_lt _ _ | exact rm_lt (by first | assumption | exact pm_lt _ _) | exact Nat.lt_of_le_of_lt (Nat.shiftRight_le _ _) (by assumption) | exact Nat.lt_of_le_of_lt Nat.and_le_right (by omega))) ml_X3_43 rfl ⟨Nat.le_of_ble_eq_true rfl, Nat.le_of_ble_eq_true rfl⟩ ⟨Nat.le_of_ble_eq_true rfl, Nat.le_of_ble_eq_true rfl⟩ hl (Nat.le_of_ble_eq_true rfl) rfl dX3_derive_2 (fun H locs B => ?_)
  have q2_0 := B.1.2.2.2 ((f)).toNat
  refine lv_lstore_n (lv' := [(3, .long (lN ((c) (f).toNat))), (0, .ref o), (1, .int (iZ (f))), (2, .int (iZ (z)))]) C.1 C.2.1 dX3_derive_5 rfl hl (by decide) rfl (fun ls hl => ?_)
  refine lv_aload_n C.1 C.2.1 dX3_derive_6 rfl (lv_at hl 1 rfl) ?_
  refine lv_iload_n C.1 C.2.1 dX3_derive_7 rfl (lv_at hl 3 rfl) ?_
  by_cases hq8 : 0 ≤ (z) ∧ (z) ≤ 5
  rotate_left
  · exact zx_callI C B Zs htab hk (c_X3_checkCell_bad l hlq D cJ o a (c) ac re kn (z) (by first | omega | assumption) (by first | omega | assumption)) ml_X3_23 rfl ⟨Nat.le_of_ble_eq_true rfl, Nat.le_of_ble_eq_true rfl⟩ ⟨Nat.le_of_ble_eq_true rfl, Nat.le_of_ble_eq_true rfl⟩ ⟨Nat.le_of_ble_eq_true rfl, Nat.le_of_ble_eq_true rfl⟩ hl (Nat.le_of_ble_eq_true rfl) rfl dX3_derive_8
  exfalso; omega

set_option maxHeartbeats 4000000 in
set_option maxRecDepth 100000 in
theorem c_X3_root_badc (l : Launch) (hlq : l.stackTraces = false) (D : va_G) (cJ : ClassId) (o a : Nat) (c : Nat → Nat) (ac : Int32) (re : Int32) (kn : Int32) (f : Int) (z : Int) (r9f : -2147483648 ≤ f ∧ f ≤ 2147483647) (r9z : -2147483648 ≤ z ∧ z ≤ 2147483647) (hbad : ¬ ((0 ≤ f ∧ f ≤ 5) ∧ (0 ≤ z ∧ z ≤ 5))) : zXI l yX3_root 8 148 D cJ o a [.int (iZ (f)), .int (iZ (z))] c [.int (ac), .int (re), .int (kn)] "java/lang/IndexOutOfBoundsException" := by
  refine zXI.intro (lo := 124) (nA := 2) (own := RX3) zi_X3_root (by decide) rfl rfl (by decide +kernel) rfl (Nat.le_of_ble_eq_true rfl) ?_
  intro p e s m below meth c0 ls C htab hk B Zs hl
  have hl : lv_has ls 5 [(0, .ref o), (1, .int (iZ (f))), (2, .int (iZ (z)))] := hl
  refine lv_aload_n C.1 C.2.1 dX3_root_0 rfl (lv_at hl 0 rfl) ?_
  refine lv_iload_n C.1 C.2.1 dX3_root_1 rfl (lv_at hl 1 rfl) ?_
  by_cases hq2 : 0 ≤ (f) ∧ (f) ≤ 5
  rotate_left
  · exact zx_callI C B Zs htab hk (c_X3_polyIn_bad l hlq D cJ o a (c) ac re kn (f) (by first | omega | assumption) (by first | omega | assumption)) ml_X3_43 rfl ⟨Nat.le_of_ble_eq_true rfl, Nat.le_of_ble_eq_true rfl⟩ ⟨Nat.le_of_ble_eq_true rfl, Nat.le_of_ble_eq_true rfl⟩ ⟨Nat.le_of_ble_eq_true rfl, Nat.le_of_ble_eq_true rfl⟩ hl (Nat.le_of_ble_eq_true rfl) rfl dX3_root_2
  refine zo_callD C B (r := some (.long (lN ((c) (f).toNat)))) (c_X3_polyIn l D cJ o a (c) (ac) (re) (kn) (f) (by first | assumption | omega | rfl | exact decide_eq_false (by omega) | exact decide_eq_true (by assumption) | exact decide_eq_true (by omega) | exact one_shl33 (by omega) | exact pm_lt _ _ | exact rm_lt (by first | assumption | exact pm_lt _ _) | exact Nat.lt_of_le_of_lt (Nat.shiftRight_le _ _) (by assumption) | exact Nat.lt_of_le_of_lt Nat.and_le_right (by omega))) ml_X3_43 rfl ⟨Nat.le_of_ble_eq_true rfl, Nat.le_of_ble_eq_true rfl⟩ ⟨Nat.le_of_ble_eq_true rfl, Nat.le_of_ble_eq_true rfl⟩ hl (Nat.le_of_ble_eq_true rfl) rfl dX3_root_2 (fun H locs B => ?_)
  have q2_0 := B.1.2.2.2 ((f)).toNat
  refine lv_lstore_n (lv' := [(3, .long (lN ((c) (f).toNat))), (0, .ref o), (1, .int (iZ (f))), (2, .int (iZ (z)))]) C.1 C.2.1 dX3_root_5 rfl hl (by decide) rfl (fun ls hl => ?_)
  refine lv_aload_n C.1 C.2.1 dX3_root_6 rfl (lv_at hl 1 rfl) ?_
  refine lv_iload_n C.1 C.2.1 dX3_root_7 rfl (lv_at hl 3 rfl) ?_
  by_cases hq8 : 0 ≤ (z) ∧ (z) ≤ 5
  rotate_left
  · exact zx_callI C B Zs htab hk (c_X3_checkCell_bad l hlq D cJ o a (c) ac re kn (z) (by first | omega | assumption) (by first | omega | assumption)) ml_X3_23 rfl ⟨Nat.le_of_ble_eq_true rfl, Nat.le_of_ble_eq_true rfl⟩ ⟨Nat.le_of_ble_eq_true rfl, Nat.le_of_ble_eq_true rfl⟩ ⟨Nat.le_of_ble_eq_true rfl, Nat.le_of_ble_eq_true rfl⟩ hl (Nat.le_of_ble_eq_true rfl) rfl dX3_root_8
  exfalso; omega

set_option maxHeartbeats 4000000 in
set_option maxRecDepth 100000 in
theorem c_X3_turn_badc (l : Launch) (hlq : l.stackTraces = false) (D : va_G) (cJ : ClassId) (o a : Nat) (c : Nat → Nat) (ac : Int32) (re : Int32) (kn : Int32) (f : Int) (z : Int) (r9f : -2147483648 ≤ f ∧ f ≤ 2147483647) (r9z : -2147483648 ≤ z ∧ z ≤ 2147483647) (hbad : ¬ ((0 ≤ f ∧ f ≤ 5) ∧ (0 ≤ z ∧ z ≤ 5))) : zXI l yX3_turn 8 148 D cJ o a [.int (iZ (f)), .int (iZ (z))] c [.int (ac), .int (re), .int (kn)] "java/lang/IndexOutOfBoundsException" := by
  refine zXI.intro (lo := 124) (nA := 2) (own := RX3) zi_X3_turn (by decide) rfl rfl (by decide +kernel) rfl (Nat.le_of_ble_eq_true rfl) ?_
  intro p e s m below meth c0 ls C htab hk B Zs hl
  have hl : lv_has ls 5 [(0, .ref o), (1, .int (iZ (f))), (2, .int (iZ (z)))] := hl
  refine lv_aload_n C.1 C.2.1 dX3_turn_0 rfl (lv_at hl 0 rfl) ?_
  refine lv_iload_n C.1 C.2.1 dX3_turn_1 rfl (lv_at hl 1 rfl) ?_
  by_cases hq2 : 0 ≤ (f) ∧ (f) ≤ 5
  rotate_left
  · exact zx_callI C B Zs htab hk (c_X3_polyIn_bad l hlq D cJ o a (c) ac re kn (f) (by first | omega | assumption) (by first | omega | assumption)) ml_X3_43 rfl ⟨Nat.le_of_ble_eq_true rfl, Nat.le_of_ble_eq_true rfl⟩ ⟨Nat.le_of_ble_eq_true rfl, Nat.le_of_ble_eq_true rfl⟩ ⟨Nat.le_of_ble_eq_true rfl, Nat.le_of_ble_eq_true rfl⟩ hl (Nat.le_of_ble_eq_true rfl) rfl dX3_turn_2
  refine zo_callD C B (r := some (.long (lN ((c) (f).toNat)))) (c_X3_polyIn l D cJ o a (c) (ac) (re) (kn) (f) (by first | assumption | omega | rfl | exact decide_eq_false (by omega) | exact decide_eq_true (by assumption) | exact decide_eq_true (by omega) | exact one_shl33 (by omega) | exact pm_lt _ _ | exact rm_lt (by first | assumption | exact pm_lt _ _) | exact Nat.lt_of_le_of_lt (Nat.shiftRight_le _ _) (by assumption) | exact Nat.lt_of_le_of_lt Nat.and_le_right (by omega))) ml_X3_43 rfl ⟨Nat.le_of_ble_eq_true rfl, Nat.le_of_ble_eq_true rfl⟩ ⟨Nat.le_of_ble_eq_true rfl, Nat.le_of_ble_eq_true rfl⟩ hl (Nat.le_of_ble_eq_true rfl) rfl dX3_turn_2 (fun H locs B => ?_)
  have q2_0 := B.1.2.2.2 ((f)).toNat
  refine lv_lstore_n (lv' := [(3, .long (lN ((c) (f).toNat))), (0, .ref o), (1, .int (iZ (f))), (2, .int (iZ (z)))]) C.1 C.2.1 dX3_turn_5 rfl hl (by decide) rfl (fun ls hl => ?_)
  refine lv_aload_n C.1 C.2.1 dX3_turn_6 rfl (lv_at hl 1 rfl) ?_
  refine lv_iload_n C.1 C.2.1 dX3_turn_7 rfl (lv_at hl 3 rfl) ?_
  by_cases hq8 : 0 ≤ (z) ∧ (z) ≤ 5
  rotate_left
  · exact zx_callI C B Zs htab hk (c_X3_checkCell_bad l hlq D cJ o a (c) ac re kn (z) (by first | omega | assumption) (by first | omega | assumption)) ml_X3_23 rfl ⟨Nat.le_of_ble_eq_true rfl, Nat.le_of_ble_eq_true rfl⟩ ⟨Nat.le_of_ble_eq_true rfl, Nat.le_of_ble_eq_true rfl⟩ ⟨Nat.le_of_ble_eq_true rfl, Nat.le_of_ble_eq_true rfl⟩ hl (Nat.le_of_ble_eq_true rfl) rfl dX3_turn_8
  exfalso; omega

set_option maxHeartbeats 4000000 in
set_option maxRecDepth 100000 in
theorem c_X3_move_badc (l : Launch) (hlq : l.stackTraces = false) (D : va_G) (cJ : ClassId) (o a : Nat) (c : Nat → Nat) (ac : Int32) (re : Int32) (kn : Int32) (f : Int) (z : Int) (r9f : -2147483648 ≤ f ∧ f ≤ 2147483647) (r9z : -2147483648 ≤ z ∧ z ≤ 2147483647) (hbad : ¬ ((0 ≤ f ∧ f ≤ 5) ∧ (0 ≤ z ∧ z ≤ 5))) : zXI l yX3_move 8 148 D cJ o a [.int (iZ (f)), .int (iZ (z))] c [.int (ac), .int (re), .int (kn)] "java/lang/IndexOutOfBoundsException" := by
  refine zXI.intro (lo := 124) (nA := 2) (own := RX3) zi_X3_move (by decide) rfl rfl (by decide +kernel) rfl (Nat.le_of_ble_eq_true rfl) ?_
  intro p e s m below meth c0 ls C htab hk B Zs hl
  have hl : lv_has ls 5 [(0, .ref o), (1, .int (iZ (f))), (2, .int (iZ (z)))] := hl
  refine lv_aload_n C.1 C.2.1 dX3_move_0 rfl (lv_at hl 0 rfl) ?_
  refine lv_iload_n C.1 C.2.1 dX3_move_1 rfl (lv_at hl 1 rfl) ?_
  by_cases hq2 : 0 ≤ (f) ∧ (f) ≤ 5
  rotate_left
  · exact zx_callI C B Zs htab hk (c_X3_polyIn_bad l hlq D cJ o a (c) ac re kn (f) (by first | omega | assumption) (by first | omega | assumption)) ml_X3_43 rfl ⟨Nat.le_of_ble_eq_true rfl, Nat.le_of_ble_eq_true rfl⟩ ⟨Nat.le_of_ble_eq_true rfl, Nat.le_of_ble_eq_true rfl⟩ ⟨Nat.le_of_ble_eq_true rfl, Nat.le_of_ble_eq_true rfl⟩ hl (Nat.le_of_ble_eq_true rfl) rfl dX3_move_2
  refine zo_callD C B (r := some (.long (lN ((c) (f).toNat)))) (c_X3_polyIn l D cJ o a (c) (ac) (re) (kn) (f) (by first | assumption | omega | rfl | exact decide_eq_false (by omega) | exact decide_eq_true (by assumption) | exact decide_eq_true (by omega) | exact one_shl33 (by omega) | exact pm_lt _ _ | exact rm_lt (by first | assumption | exact pm_lt _ _) | exact Nat.lt_of_le_of_lt (Nat.shiftRight_le _ _) (by assumption) | exact Nat.lt_of_le_of_lt Nat.and_le_right (by omega))) ml_X3_43 rfl ⟨Nat.le_of_ble_eq_true rfl, Nat.le_of_ble_eq_true rfl⟩ ⟨Nat.le_of_ble_eq_true rfl, Nat.le_of_ble_eq_true rfl⟩ hl (Nat.le_of_ble_eq_true rfl) rfl dX3_move_2 (fun H locs B => ?_)
  have q2_0 := B.1.2.2.2 ((f)).toNat
  refine lv_lstore_n (lv' := [(3, .long (lN ((c) (f).toNat))), (0, .ref o), (1, .int (iZ (f))), (2, .int (iZ (z)))]) C.1 C.2.1 dX3_move_5 rfl hl (by decide) rfl (fun ls hl => ?_)
  refine lv_aload_n C.1 C.2.1 dX3_move_6 rfl (lv_at hl 1 rfl) ?_
  refine lv_iload_n C.1 C.2.1 dX3_move_7 rfl (lv_at hl 3 rfl) ?_
  by_cases hq8 : 0 ≤ (z) ∧ (z) ≤ 5
  rotate_left
  · exact zx_callI C B Zs htab hk (c_X3_checkCell_bad l hlq D cJ o a (c) ac re kn (z) (by first | omega | assumption) (by first | omega | assumption)) ml_X3_23 rfl ⟨Nat.le_of_ble_eq_true rfl, Nat.le_of_ble_eq_true rfl⟩ ⟨Nat.le_of_ble_eq_true rfl, Nat.le_of_ble_eq_true rfl⟩ ⟨Nat.le_of_ble_eq_true rfl, Nat.le_of_ble_eq_true rfl⟩ hl (Nat.le_of_ble_eq_true rfl) rfl dX3_move_8
  exfalso; omega

set_option maxHeartbeats 4000000 in
set_option maxRecDepth 100000 in
theorem c_X3_power_badc (l : Launch) (hlq : l.stackTraces = false) (D : va_G) (cJ : ClassId) (o a : Nat) (c : Nat → Nat) (ac : Int32) (re : Int32) (kn : Int32) (f : Int) (t : Int) (g : Int) (z : Int) (r9f : -2147483648 ≤ f ∧ f ≤ 2147483647) (r9t : -2147483648 ≤ t ∧ t ≤ 2147483647) (r9g : -2147483648 ≤ g ∧ g ≤ 2147483647) (r9z : -2147483648 ≤ z ∧ z ≤ 2147483647) (hbad : ¬ ((0 ≤ f ∧ f ≤ 5) ∧ (0 ≤ g ∧ g ≤ 5) ∧ (0 ≤ z ∧ z ≤ 5))) : zXI l yX3_power 8 152 D cJ o a [.int (iZ (f)), .int (iZ (t)), .int (iZ (g)), .int (iZ (z))] c [.int (ac), .int (re), .int (kn)] "java/lang/IndexOutOfBoundsException" := by
  refine zXI.intro (lo := 124) (nA := 4) (own := RX3) zi_X3_power (by decide) rfl rfl (by decide +kernel) rfl (Nat.le_of_ble_eq_true rfl) ?_
  intro p e s m below meth c0 ls C htab hk B Zs hl
  have hl : lv_has ls 9 [(0, .ref o), (1, .int (iZ (f))), (2, .int (iZ (t))), (3, .int (iZ (g))), (4, .int (iZ (z)))] := hl
  refine lv_aload_n C.1 C.2.1 dX3_power_0 rfl (lv_at hl 0 rfl) ?_
  refine lv_iload_n C.1 C.2.1 dX3_power_1 rfl (lv_at hl 1 rfl) ?_
  by_cases hq2 : 0 ≤ (f) ∧ (f) ≤ 5
  rotate_left
  · exact zx_callI C B Zs htab hk (c_X3_polyIn_bad l hlq D cJ o a (c) ac re kn (f) (by first | omega | assumption) (by first | omega | assumption)) ml_X3_43 rfl ⟨Nat.le_of_ble_eq_true rfl, Nat.le_of_ble_eq_true rfl⟩ ⟨Nat.le_of_ble_eq_true rfl, Nat.le_of_ble_eq_true rfl⟩ ⟨Nat.le_of_ble_eq_true rfl, Nat.le_of_ble_eq_true rfl⟩ hl (Nat.le_of_ble_eq_true rfl) rfl dX3_power_2
  refine zo_callD C B (r := some (.long (lN ((c) (f).toNat)))) (c_X3_polyIn l D cJ o a (c) (ac) (re) (kn) (f) (by first | assumption | omega | rfl | exact decide_eq_false (by omega) | exact decide_eq_true (by assumption) | exact decide_eq_true (by omega) | exact one_shl33 (by omega) | exact pm_lt _ _ | exact rm_lt (by first | assumption | exact pm_lt _ _) | exact Nat.lt_of_le_of_lt (Nat.shiftRight_le _ _) (by assumption) | exact Nat.lt_of_le_of_lt Nat.and_le_right (by omega))) ml_X3_43 rfl ⟨Nat.le_of_ble_eq_true rfl, Nat.le_of_ble_eq_true rfl⟩ ⟨Nat.le_of_ble_eq_true rfl, Nat.le_of_ble_eq_true rfl⟩ hl (Nat.le_of_ble_eq_true rfl) rfl dX3_power_2 (fun H locs B => ?_)
  have q2_0 := B.1.2.2.2 ((f)).toNat
  refine lv_lstore (lv' := [(5, .long (lN ((c) (f).toNat))), (0, .ref o), (1, .int (iZ (f))), (2, .int (iZ (t))), (3, .int (iZ (g))), (4, .int (iZ (z)))]) C.1 C.2.1 dX3_power_5 hl (by decide) rfl (fun ls hl => ?_)
  refine lv_aload_n C.1 C.2.1 dX3_power_7 rfl (lv_at hl 1 rfl) ?_
  refine lv_iload_n C.1 C.2.1 dX3_power_8 rfl (lv_at hl 4 rfl) ?_
  by_cases hq9 : 0 ≤ (g) ∧ (g) ≤ 5
  rotate_left
  · exact zx_callI C B Zs htab hk (c_X3_polyIn_bad l hlq D cJ o a (c) ac re kn (g) (by first | omega | assumption) (by first | omega | assumption)) ml_X3_43 rfl ⟨Nat.le_of_ble_eq_true rfl, Nat.le_of_ble_eq_true rfl⟩ ⟨Nat.le_of_ble_eq_true rfl, Nat.le_of_ble_eq_true rfl⟩ ⟨Nat.le_of_ble_eq_true rfl, Nat.le_of_ble_eq_true rfl⟩ hl (Nat.le_of_ble_eq_true rfl) rfl dX3_power_9
  refine zo_callD C B (r := some (.long (lN ((c) (g).toNat)))) (c_X3_polyIn l D cJ o a (c) ((ac)) ((re)) ((kn)) (g) (by first | assumption | omega | rfl | exact decide_eq_false (by omega) | exact decide_eq_true (by assumption) | exact decide_eq_true (by omega) | exact one_shl33 (by omega) | exact pm_lt _ _ | exact rm_lt (by first | assumption | exact pm_lt _ _) | exact Nat.lt_of_le_of_lt (Nat.shiftRight_le _ _) (by assumption) | exact Nat.lt_of_le_of_lt Nat.and_le_right (by omega))) ml_X3_43 rfl ⟨Nat.le_of_ble_eq_true rfl, Nat.le_of_ble_eq_true rfl⟩ ⟨Nat.le_of_ble_eq_true rfl, Nat.le_of_ble_eq_true rfl⟩ hl (Nat.le_of_ble_eq_true rfl) rfl dX3_power_9 (fun H locs B => ?_)
  have q9_0 := B.1.2.2.2 ((g)).toNat
  refine lv_lstore (lv' := [(7, .long (lN ((c) (g).toNat))), (5, .long (lN ((c) (f).toNat))), (0, .ref o), (1, .int (iZ (f))), (2, .int (iZ (t))), (3, .int (iZ (g))), (4, .int (iZ (z)))]) C.1 C.2.1 dX3_power_12 hl (by decide) rfl (fun ls hl => ?_)
  refine lv_aload_n C.1 C.2.1 dX3_power_14 rfl (lv_at hl 2 rfl) ?_
  refine lv_iload C.1 C.2.1 dX3_power_15 (lv_at hl 6 rfl) ?_
  by_cases hq17 : 0 ≤ (z) ∧ (z) ≤ 5
  rotate_left
  · exact zx_callI C B Zs htab hk (c_X3_checkCell_bad l hlq D cJ o a (c) ac re kn (z) (by first | omega | assumption) (by first | omega | assumption)) ml_X3_23 rfl ⟨Nat.le_of_ble_eq_true rfl, Nat.le_of_ble_eq_true rfl⟩ ⟨Nat.le_of_ble_eq_true rfl, Nat.le_of_ble_eq_true rfl⟩ ⟨Nat.le_of_ble_eq_true rfl, Nat.le_of_ble_eq_true rfl⟩ hl (Nat.le_of_ble_eq_true rfl) rfl dX3_power_17
  exfalso; omega

set_option maxHeartbeats 4000000 in
set_option maxRecDepth 100000 in
theorem c_X3_power_badr (l : Launch) (hlq : l.stackTraces = false) (D : va_G) (cJ : ClassId) (o a : Nat) (c : Nat → Nat) (ac : Int32) (re : Int32) (kn : Int32) (f : Int) (t : Int) (g : Int) (z : Int) (r9f : -2147483648 ≤ f ∧ f ≤ 2147483647) (r9t : -2147483648 ≤ t ∧ t ≤ 2147483647) (r9g : -2147483648 ≤ g ∧ g ≤ 2147483647) (r9z : -2147483648 ≤ z ∧ z ≤ 2147483647) (hf : 0 ≤ f ∧ f ≤ 5) (hg : 0 ≤ g ∧ g ≤ 5) (hz : 0 ≤ z ∧ z ≤ 5) (hbad : ¬ ((0 ≤ t ∧ t ≤ 255))) : zXI l yX3_power 7 132 D cJ o a [.int (iZ (f)), .int (iZ (t)), .int (iZ (g)), .int (iZ (z))] c [.int (ac), .int (re), .int (kn)] "java/lang/IllegalArgumentException" := by
  refine zXI.intro (lo := 104) (nA := 4) (own := RX3) zi_X3_power (by decide) rfl rfl (by decide +kernel) rfl (Nat.le_of_ble_eq_true rfl) ?_
  intro p e s m below meth c0 ls C htab hk B Zs hl
  have hl : lv_has ls 9 [(0, .ref o), (1, .int (iZ (f))), (2, .int (iZ (t))), (3, .int (iZ (g))), (4, .int (iZ (z)))] := hl
  refine lv_aload_n C.1 C.2.1 dX3_power_0 rfl (lv_at hl 0 rfl) ?_
  refine lv_iload_n C.1 C.2.1 dX3_power_1 rfl (lv_at hl 1 rfl) ?_
  refine zo_callD C B (r := some (.long (lN ((c) (f).toNat)))) (c_X3_polyIn l D cJ o a (c) (ac) (re) (kn) (f) (by first | assumption | omega | rfl | exact decide_eq_false (by omega) | exact decide_eq_true (by assumption) | exact decide_eq_true (by omega) | exact one_shl33 (by omega) | exact pm_lt _ _ | exact rm_lt (by first | assumption | exact pm_lt _ _) | exact Nat.lt_of_le_of_lt (Nat.shiftRight_le _ _) (by assumption) | exact Nat.lt_of_le_of_lt Nat.and_le_right (by omega))) ml_X3_43 rfl ⟨Nat.le_of_ble_eq_true rfl, Nat.le_of_ble_eq_true rfl⟩ ⟨Nat.le_of_ble_eq_true rfl, Nat.le_of_ble_eq_true rfl⟩ hl (Nat.le_of_ble_eq_true rfl) rfl dX3_power_2 (fun H locs B => ?_)
  have q2_0 := B.1.2.2.2 ((f)).toNat
  refine lv_lstore (lv' := [(5, .long (lN ((c) (f).toNat))), (0, .ref o), (1, .int (iZ (f))), (2, .int (iZ (t))), (3, .int (iZ (g))), (4, .int (iZ (z)))]) C.1 C.2.1 dX3_power_5 hl (by decide) rfl (fun ls hl => ?_)
  refine lv_aload_n C.1 C.2.1 dX3_power_7 rfl (lv_at hl 1 rfl) ?_
  refine lv_iload_n C.1 C.2.1 dX3_power_8 rfl (lv_at hl 4 rfl) ?_
  refine zo_callD C B (r := some (.long (lN ((c) (g).toNat)))) (c_X3_polyIn l D cJ o a (c) ((ac)) ((re)) ((kn)) (g) (by first | assumption | omega | rfl | exact decide_eq_false (by omega) | exact decide_eq_true (by assumption) | exact decide_eq_true (by omega) | exact one_shl33 (by omega) | exact pm_lt _ _ | exact rm_lt (by first | assumption | exact pm_lt _ _) | exact Nat.lt_of_le_of_lt (Nat.shiftRight_le _ _) (by assumption) | exact Nat.lt_of_le_of_lt Nat.and_le_right (by omega))) ml_X3_43 rfl ⟨Nat.le_of_ble_eq_true rfl, Nat.le_of_ble_eq_true rfl⟩ ⟨Nat.le_of_ble_eq_true rfl, Nat.le_of_ble_eq_true rfl⟩ hl (Nat.le_of_ble_eq_true rfl) rfl dX3_power_9 (fun H locs B => ?_)
  have q9_0 := B.1.2.2.2 ((g)).toNat
  refine lv_lstore (lv' := [(7, .long (lN ((c) (g).toNat))), (5, .long (lN ((c) (f).toNat))), (0, .ref o), (1, .int (iZ (f))), (2, .int (iZ (t))), (3, .int (iZ (g))), (4, .int (iZ (z)))]) C.1 C.2.1 dX3_power_12 hl (by decide) rfl (fun ls hl => ?_)
  refine lv_aload_n C.1 C.2.1 dX3_power_14 rfl (lv_at hl 2 rfl) ?_
  refine lv_iload C.1 C.2.1 dX3_power_15 (lv_at hl 6 rfl) ?_
  refine zo_callD C B (r := none) (c_X3_checkCell l D cJ o a (c) (((ac))) (((re))) (((kn))) (z) (by first | assumption | omega | rfl | exact decide_eq_false (by omega) | exact decide_eq_true (by assumption) | exact decide_eq_true (by omega) | exact one_shl33 (by omega) | exact pm_lt _ _ | exact rm_lt (by first | assumption | exact pm_lt _ _) | exact Nat.lt_of_le_of_lt (Nat.shiftRight_le _ _) (by assumption) | exact Nat.lt_of_le_of_lt Nat.and_le_right (by omega))) ml_X3_23 rfl ⟨Nat.le_of_ble_eq_true rfl, Nat.le_of_ble_eq_true rfl⟩ ⟨Nat.le_of_ble_eq_true rfl, Nat.le_of_ble_eq_true rfl⟩ hl (Nat.le_of_ble_eq_true rfl) rfl dX3_power_17 (fun H locs B => ?_)
  refine lv_iload_n C.1 C.2.1 dX3_power_20 rfl (lv_at hl 4 rfl) ?_
  refine z_iconst C dX3_power_21 ?_
  refine z_sipush C dX3_power_22 (by decide) ?_
  by_cases hq25 : (0 : Int) ≤ (t) ∧ (t) ≤ (255 : Int)
  rotate_left
  · exact zx_callS C B Zs htab hk (c_X3_checkRange_bad l hlq (t) (0 : Int) (255 : Int) (by first | omega | assumption) (by first | omega | assumption) (by first | omega | assumption) (by first | omega | assumption)) ml_X3_33 ⟨Nat.le_of_ble_eq_true rfl, Nat.le_of_ble_eq_true rfl⟩ ⟨Nat.le_of_ble_eq_true rfl, Nat.le_of_ble_eq_true rfl⟩ ⟨Nat.le_of_ble_eq_true rfl, Nat.le_of_ble_eq_true rfl⟩ hl (Nat.le_of_ble_eq_true rfl) rfl dX3_power_25
  exfalso; omega

set_option maxHeartbeats 4000000 in
set_option maxRecDepth 100000 in
theorem c_X3_nth_badc (l : Launch) (hlq : l.stackTraces = false) (D : va_G) (cJ : ClassId) (o a : Nat) (c : Nat → Nat) (ac : Int32) (re : Int32) (kn : Int32) (d : Int) (r : Int) (z : Int) (r9d : -2147483648 ≤ d ∧ d ≤ 2147483647) (r9r : -2147483648 ≤ r ∧ r ≤ 2147483647) (r9z : -2147483648 ≤ z ∧ z ≤ 2147483647) (hbad : ¬ ((0 ≤ z ∧ z ≤ 5))) : zXI l yX3_nth 7 128 D cJ o a [.int (iZ (d)), .int (iZ (r)), .int (iZ (z))] c [.int (ac), .int (re), .int (kn)] "java/lang/IndexOutOfBoundsException" := by
  refine zXI.intro (lo := 103) (nA := 3) (own := RX3) zi_X3_nth (by decide) rfl rfl (by decide +kernel) rfl (Nat.le_of_ble_eq_true rfl) ?_
  intro p e s m below meth c0 ls C htab hk B Zs hl
  have hl : lv_has ls 6 [(0, .ref o), (1, .int (iZ (d))), (2, .int (iZ (r))), (3, .int (iZ (z)))] := hl
  refine lv_aload_n C.1 C.2.1 dX3_nth_0 rfl (lv_at hl 0 rfl) ?_
  refine lv_iload_n C.1 C.2.1 dX3_nth_1 rfl (lv_at hl 3 rfl) ?_
  by_cases hq2 : 0 ≤ (z) ∧ (z) ≤ 5
  rotate_left
  · exact zx_callI C B Zs htab hk (c_X3_checkCell_bad l hlq D cJ o a (c) ac re kn (z) (by first | omega | assumption) (by first | omega | assumption)) ml_X3_23 rfl ⟨Nat.le_of_ble_eq_true rfl, Nat.le_of_ble_eq_true rfl⟩ ⟨Nat.le_of_ble_eq_true rfl, Nat.le_of_ble_eq_true rfl⟩ ⟨Nat.le_of_ble_eq_true rfl, Nat.le_of_ble_eq_true rfl⟩ hl (Nat.le_of_ble_eq_true rfl) rfl dX3_nth_2
  exfalso; omega

set_option maxHeartbeats 4000000 in
set_option maxRecDepth 100000 in
theorem c_X3_nth_badr (l : Launch) (hlq : l.stackTraces = false) (D : va_G) (cJ : ClassId) (o a : Nat) (c : Nat → Nat) (ac : Int32) (re : Int32) (kn : Int32) (d : Int) (r : Int) (z : Int) (r9d : -2147483648 ≤ d ∧ d ≤ 2147483647) (r9r : -2147483648 ≤ r ∧ r ≤ 2147483647) (r9z : -2147483648 ≤ z ∧ z ≤ 2147483647) (hz : 0 ≤ z ∧ z ≤ 5) (hbad : ¬ ((1 ≤ d ∧ d ≤ 8) ∧ (0 ≤ r ∧ r ≤ 40))) : zXI l yX3_nth 7 129 D cJ o a [.int (iZ (d)), .int (iZ (r)), .int (iZ (z))] c [.int (ac), .int (re), .int (kn)] "java/lang/IllegalArgumentException" := by
  refine zXI.intro (lo := 104) (nA := 3) (own := RX3) zi_X3_nth (by decide) rfl rfl (by decide +kernel) rfl (Nat.le_of_ble_eq_true rfl) ?_
  intro p e s m below meth c0 ls C htab hk B Zs hl
  have hl : lv_has ls 6 [(0, .ref o), (1, .int (iZ (d))), (2, .int (iZ (r))), (3, .int (iZ (z)))] := hl
  refine lv_aload_n C.1 C.2.1 dX3_nth_0 rfl (lv_at hl 0 rfl) ?_
  refine lv_iload_n C.1 C.2.1 dX3_nth_1 rfl (lv_at hl 3 rfl) ?_
  refine zo_callD C B (r := none) (c_X3_checkCell l D cJ o a (c) (ac) (re) (kn) (z) (by first | assumption | omega | rfl | exact decide_eq_false (by omega) | exact decide_eq_true (by assumption) | exact decide_eq_true (by omega) | exact one_shl33 (by omega) | exact pm_lt _ _ | exact rm_lt (by first | assumption | exact pm_lt _ _) | exact Nat.lt_of_le_of_lt (Nat.shiftRight_le _ _) (by assumption) | exact Nat.lt_of_le_of_lt Nat.and_le_right (by omega))) ml_X3_23 rfl ⟨Nat.le_of_ble_eq_true rfl, Nat.le_of_ble_eq_true rfl⟩ ⟨Nat.le_of_ble_eq_true rfl, Nat.le_of_ble_eq_true rfl⟩ hl (Nat.le_of_ble_eq_true rfl) rfl dX3_nth_2 (fun H locs B => ?_)
  refine lv_iload_n C.1 C.2.1 dX3_nth_5 rfl (lv_at hl 1 rfl) ?_
  refine z_iconst C dX3_nth_6 ?_
  refine z_bipush C dX3_nth_7 (by decide) ?_
  by_cases hq9 : (1 : Int) ≤ (d) ∧ (d) ≤ (8 : Int)
  rotate_left
  · exact zx_callS C B Zs htab hk (c_X3_checkRange_bad l hlq (d) (1 : Int) (8 : Int) (by first | omega | assumption) (by first | omega | assumption) (by first | omega | assumption) (by first | omega | assumption)) ml_X3_33 ⟨Nat.le_of_ble_eq_true rfl, Nat.le_of_ble_eq_true rfl⟩ ⟨Nat.le_of_ble_eq_true rfl, Nat.le_of_ble_eq_true rfl⟩ ⟨Nat.le_of_ble_eq_true rfl, Nat.le_of_ble_eq_true rfl⟩ hl (Nat.le_of_ble_eq_true rfl) rfl dX3_nth_9
  refine z_callv C (c_X3_checkRange l (d) (1 : Int) (8 : Int) (by first | assumption | omega | rfl | exact decide_eq_false (by omega) | exact decide_eq_true (by assumption) | exact decide_eq_true (by omega) | exact one_shl33 (by omega) | exact pm_lt _ _ | exact rm_lt (by first | assumption | exact pm_lt _ _) | exact Nat.lt_of_le_of_lt (Nat.shiftRight_le _ _) (by assumption) | exact Nat.lt_of_le_of_lt Nat.and_le_right (by omega))) ml_X3_33 ⟨by decide, by decide⟩ ⟨Nat.le_of_ble_eq_true rfl, Nat.le_of_ble_eq_true rfl⟩ hl (Nat.le_of_ble_eq_true rfl) rfl dX3_nth_9 ?_
  refine lv_iload_n C.1 C.2.1 dX3_nth_12 rfl (lv_at hl 2 rfl) ?_
  refine z_iconst C dX3_nth_13 ?_
  refine z_bipush C dX3_nth_14 (by decide) ?_
  by_cases hq16 : (0 : Int) ≤ (r) ∧ (r) ≤ (40 : Int)
  rotate_left
  · exact zx_callS C B Zs htab hk (c_X3_checkRange_bad l hlq (r) (0 : Int) (40 : Int) (by first | omega | assumption) (by first | omega | assumption) (by first | omega | assumption) (by first | omega | assumption)) ml_X3_33 ⟨Nat.le_of_ble_eq_true rfl, Nat.le_of_ble_eq_true rfl⟩ ⟨Nat.le_of_ble_eq_true rfl, Nat.le_of_ble_eq_true rfl⟩ ⟨Nat.le_of_ble_eq_true rfl, Nat.le_of_ble_eq_true rfl⟩ hl (Nat.le_of_ble_eq_true rfl) rfl dX3_nth_16
  exfalso; omega

set_option maxHeartbeats 4000000 in
set_option maxRecDepth 100000 in
theorem c_X3_field_badc (l : Launch) (hlq : l.stackTraces = false) (D : va_G) (cJ : ClassId) (o a : Nat) (c : Nat → Nat) (ac : Int32) (re : Int32) (kn : Int32) (n : Int) (z : Int) (r9n : -2147483648 ≤ n ∧ n ≤ 2147483647) (r9z : -2147483648 ≤ z ∧ z ≤ 2147483647) (hbad : ¬ ((0 ≤ z ∧ z ≤ 5))) : zXI l yX3_field 7 125 D cJ o a [.int (iZ (n)), .int (iZ (z))] c [.int (ac), .int (re), .int (kn)] "java/lang/IndexOutOfBoundsException" := by
  refine zXI.intro (lo := 103) (nA := 2) (own := RX3) zi_X3_field (by decide) rfl rfl (by decide +kernel) rfl (Nat.le_of_ble_eq_true rfl) ?_
  intro p e s m below meth c0 ls C htab hk B Zs hl
  have hl : lv_has ls 3 [(0, .ref o), (1, .int (iZ (n))), (2, .int (iZ (z)))] := hl
  refine lv_aload_n C.1 C.2.1 dX3_field_0 rfl (lv_at hl 0 rfl) ?_
  refine lv_iload_n C.1 C.2.1 dX3_field_1 rfl (lv_at hl 2 rfl) ?_
  by_cases hq2 : 0 ≤ (z) ∧ (z) ≤ 5
  rotate_left
  · exact zx_callI C B Zs htab hk (c_X3_checkCell_bad l hlq D cJ o a (c) ac re kn (z) (by first | omega | assumption) (by first | omega | assumption)) ml_X3_23 rfl ⟨Nat.le_of_ble_eq_true rfl, Nat.le_of_ble_eq_true rfl⟩ ⟨Nat.le_of_ble_eq_true rfl, Nat.le_of_ble_eq_true rfl⟩ ⟨Nat.le_of_ble_eq_true rfl, Nat.le_of_ble_eq_true rfl⟩ hl (Nat.le_of_ble_eq_true rfl) rfl dX3_field_2
  exfalso; omega

set_option maxHeartbeats 4000000 in
set_option maxRecDepth 100000 in
theorem c_X3_field_badr (l : Launch) (hlq : l.stackTraces = false) (D : va_G) (cJ : ClassId) (o a : Nat) (c : Nat → Nat) (ac : Int32) (re : Int32) (kn : Int32) (n : Int) (z : Int) (r9n : -2147483648 ≤ n ∧ n ≤ 2147483647) (r9z : -2147483648 ≤ z ∧ z ≤ 2147483647) (hz : 0 ≤ z ∧ z ≤ 5) (hbad : ¬ ((1 ≤ n ∧ n ≤ 5))) : zXI l yX3_field 7 126 D cJ o a [.int (iZ (n)), .int (iZ (z))] c [.int (ac), .int (re), .int (kn)] "java/lang/IllegalArgumentException" := by
  refine zXI.intro (lo := 104) (nA := 2) (own := RX3) zi_X3_field (by decide) rfl rfl (by decide +kernel) rfl (Nat.le_of_ble_eq_true rfl) ?_
  intro p e s m below meth c0 ls C htab hk B Zs hl
  have hl : lv_has ls 3 [(0, .ref o), (1, .int (iZ (n))), (2, .int (iZ (z)))] := hl
  refine lv_aload_n C.1 C.2.1 dX3_field_0 rfl (lv_at hl 0 rfl) ?_
  refine lv_iload_n C.1 C.2.1 dX3_field_1 rfl (lv_at hl 2 rfl) ?_
  refine zo_callD C B (r := none) (c_X3_checkCell l D cJ o a (c) (ac) (re) (kn) (z) (by first | assumption | omega | rfl | exact decide_eq_false (by omega) | exact decide_eq_true (by assumption) | exact decide_eq_true (by omega) | exact one_shl33 (by omega) | exact pm_lt _ _ | exact rm_lt (by first | assumption | exact pm_lt _ _) | exact Nat.lt_of_le_of_lt (Nat.shiftRight_le _ _) (by assumption) | exact Nat.lt_of_le_of_lt Nat.and_le_right (by omega))) ml_X3_23 rfl ⟨Nat.le_of_ble_eq_true rfl, Nat.le_of_ble_eq_true rfl⟩ ⟨Nat.le_of_ble_eq_true rfl, Nat.le_of_ble_eq_true rfl⟩ hl (Nat.le_of_ble_eq_true rfl) rfl dX3_field_2 (fun H locs B => ?_)
  refine lv_iload_n C.1 C.2.1 dX3_field_5 rfl (lv_at hl 1 rfl) ?_
  refine z_iconst C dX3_field_6 ?_
  refine z_iconst C dX3_field_7 ?_
  by_cases hq8 : (1 : Int) ≤ (n) ∧ (n) ≤ (5 : Int)
  rotate_left
  · exact zx_callS C B Zs htab hk (c_X3_checkRange_bad l hlq (n) (1 : Int) (5 : Int) (by first | omega | assumption) (by first | omega | assumption) (by first | omega | assumption) (by first | omega | assumption)) ml_X3_33 ⟨Nat.le_of_ble_eq_true rfl, Nat.le_of_ble_eq_true rfl⟩ ⟨Nat.le_of_ble_eq_true rfl, Nat.le_of_ble_eq_true rfl⟩ ⟨Nat.le_of_ble_eq_true rfl, Nat.le_of_ble_eq_true rfl⟩ hl (Nat.le_of_ble_eq_true rfl) rfl dX3_field_8
  exfalso; omega

set_option maxHeartbeats 4000000 in
set_option maxRecDepth 100000 in
theorem c_X3_again_badc (l : Launch) (hlq : l.stackTraces = false) (D : va_G) (cJ : ClassId) (o a : Nat) (c : Nat → Nat) (ac : Int32) (re : Int32) (kn : Int32) (f : Int) (r : Int) (z : Int) (r9f : -2147483648 ≤ f ∧ f ≤ 2147483647) (r9r : -2147483648 ≤ r ∧ r ≤ 2147483647) (r9z : -2147483648 ≤ z ∧ z ≤ 2147483647) (hbad : ¬ ((0 ≤ f ∧ f ≤ 5) ∧ (0 ≤ z ∧ z ≤ 5))) : zXI l yX3_again 8 149 D cJ o a [.int (iZ (f)), .int (iZ (r)), .int (iZ (z))] c [.int (ac), .int (re), .int (kn)] "java/lang/IndexOutOfBoundsException" := by
  refine zXI.intro (lo := 124) (nA := 3) (own := RX3) zi_X3_again (by decide) rfl rfl (by decide +kernel) rfl (Nat.le_of_ble_eq_true rfl) ?_
  intro p e s m below meth c0 ls C htab hk B Zs hl
  have hl : lv_has ls 6 [(0, .ref o), (1, .int (iZ (f))), (2, .int (iZ (r))), (3, .int (iZ (z)))] := hl
  refine lv_aload_n C.1 C.2.1 dX3_again_0 rfl (lv_at hl 0 rfl) ?_
  refine lv_iload_n C.1 C.2.1 dX3_again_1 rfl (lv_at hl 1 rfl) ?_
  by_cases hq2 : 0 ≤ (f) ∧ (f) ≤ 5
  rotate_left
  · exact zx_callI C B Zs htab hk (c_X3_polyIn_bad l hlq D cJ o a (c) ac re kn (f) (by first | omega | assumption) (by first | omega | assumption)) ml_X3_43 rfl ⟨Nat.le_of_ble_eq_true rfl, Nat.le_of_ble_eq_true rfl⟩ ⟨Nat.le_of_ble_eq_true rfl, Nat.le_of_ble_eq_true rfl⟩ ⟨Nat.le_of_ble_eq_true rfl, Nat.le_of_ble_eq_true rfl⟩ hl (Nat.le_of_ble_eq_true rfl) rfl dX3_again_2
  refine zo_callD C B (r := some (.long (lN ((c) (f).toNat)))) (c_X3_polyIn l D cJ o a (c) (ac) (re) (kn) (f) (by first | assumption | omega | rfl | exact decide_eq_false (by omega) | exact decide_eq_true (by assumption) | exact decide_eq_true (by omega) | exact one_shl33 (by omega) | exact pm_lt _ _ | exact rm_lt (by first | assumption | exact pm_lt _ _) | exact Nat.lt_of_le_of_lt (Nat.shiftRight_le _ _) (by assumption) | exact Nat.lt_of_le_of_lt Nat.and_le_right (by omega))) ml_X3_43 rfl ⟨Nat.le_of_ble_eq_true rfl, Nat.le_of_ble_eq_true rfl⟩ ⟨Nat.le_of_ble_eq_true rfl, Nat.le_of_ble_eq_true rfl⟩ hl (Nat.le_of_ble_eq_true rfl) rfl dX3_again_2 (fun H locs B => ?_)
  have q2_0 := B.1.2.2.2 ((f)).toNat
  refine lv_lstore (lv' := [(4, .long (lN ((c) (f).toNat))), (0, .ref o), (1, .int (iZ (f))), (2, .int (iZ (r))), (3, .int (iZ (z)))]) C.1 C.2.1 dX3_again_5 hl (by decide) rfl (fun ls hl => ?_)
  refine lv_aload_n C.1 C.2.1 dX3_again_7 rfl (lv_at hl 1 rfl) ?_
  refine lv_iload_n C.1 C.2.1 dX3_again_8 rfl (lv_at hl 4 rfl) ?_
  by_cases hq9 : 0 ≤ (z) ∧ (z) ≤ 5
  rotate_left
  · exact zx_callI C B Zs htab hk (c_X3_checkCell_bad l hlq D cJ o a (c) ac re kn (z) (by first | omega | assumption) (by first | omega | assumption)) ml_X3_23 rfl ⟨Nat.le_of_ble_eq_true rfl, Nat.le_of_ble_eq_true rfl⟩ ⟨Nat.le_of_ble_eq_true rfl, Nat.le_of_ble_eq_true rfl⟩ ⟨Nat.le_of_ble_eq_true rfl, Nat.le_of_ble_eq_true rfl⟩ hl (Nat.le_of_ble_eq_true rfl) rfl dX3_again_9
  exfalso; omega

set_option maxHeartbeats 4000000 in
set_option maxRecDepth 100000 in
theorem c_X3_again_badr (l : Launch) (hlq : l.stackTraces = false) (D : va_G) (cJ : ClassId) (o a : Nat) (c : Nat → Nat) (ac : Int32) (re : Int32) (kn : Int32) (f : Int) (r : Int) (z : Int) (r9f : -2147483648 ≤ f ∧ f ≤ 2147483647) (r9r : -2147483648 ≤ r ∧ r ≤ 2147483647) (r9z : -2147483648 ≤ z ∧ z ≤ 2147483647) (hf : 0 ≤ f ∧ f ≤ 5) (hz : 0 ≤ z ∧ z ≤ 5) (hbad : ¬ ((2 ≤ r ∧ r ≤ 36))) : zXI l yX3_again 7 129 D cJ o a [.int (iZ (f)), .int (iZ (r)), .int (iZ (z))] c [.int (ac), .int (re), .int (kn)] "java/lang/IllegalArgumentException" := by
  refine zXI.intro (lo := 104) (nA := 3) (own := RX3) zi_X3_again (by decide) rfl rfl (by decide +kernel) rfl (Nat.le_of_ble_eq_true rfl) ?_
  intro p e s m below meth c0 ls C htab hk B Zs hl
  have hl : lv_has ls 6 [(0, .ref o), (1, .int (iZ (f))), (2, .int (iZ (r))), (3, .int (iZ (z)))] := hl
  refine lv_aload_n C.1 C.2.1 dX3_again_0 rfl (lv_at hl 0 rfl) ?_
  refine lv_iload_n C.1 C.2.1 dX3_again_1 rfl (lv_at hl 1 rfl) ?_
  refine zo_callD C B (r := some (.long (lN ((c) (f).toNat)))) (c_X3_polyIn l D cJ o a (c) (ac) (re) (kn) (f) (by first | assumption | omega | rfl | exact decide_eq_false (by omega) | exact decide_eq_true (by assumption) | exact decide_eq_true (by omega) | exact one_shl33 (by omega) | exact pm_lt _ _ | exact rm_lt (by first | assumption | exact pm_lt _ _) | exact Nat.lt_of_le_of_lt (Nat.shiftRight_le _ _) (by assumption) | exact Nat.lt_of_le_of_lt Nat.and_le_right (by omega))) ml_X3_43 rfl ⟨Nat.le_of_ble_eq_true rfl, Nat.le_of_ble_eq_true rfl⟩ ⟨Nat.le_of_ble_eq_true rfl, Nat.le_of_ble_eq_true rfl⟩ hl (Nat.le_of_ble_eq_true rfl) rfl dX3_again_2 (fun H locs B => ?_)
  have q2_0 := B.1.2.2.2 ((f)).toNat
  refine lv_lstore (lv' := [(4, .long (lN ((c) (f).toNat))), (0, .ref o), (1, .int (iZ (f))), (2, .int (iZ (r))), (3, .int (iZ (z)))]) C.1 C.2.1 dX3_again_5 hl (by decide) rfl (fun ls hl => ?_)
  refine lv_aload_n C.1 C.2.1 dX3_again_7 rfl (lv_at hl 1 rfl) ?_
  refine lv_iload_n C.1 C.2.1 dX3_again_8 rfl (lv_at hl 4 rfl) ?_
  refine zo_callD C B (r := none) (c_X3_checkCell l D cJ o a (c) ((ac)) ((re)) ((kn)) (z) (by first | assumption | omega | rfl | exact decide_eq_false (by omega) | exact decide_eq_true (by assumption) | exact decide_eq_true (by omega) | exact one_shl33 (by omega) | exact pm_lt _ _ | exact rm_lt (by first | assumption | exact pm_lt _ _) | exact Nat.lt_of_le_of_lt (Nat.shiftRight_le _ _) (by assumption) | exact Nat.lt_of_le_of_lt Nat.and_le_right (by omega))) ml_X3_23 rfl ⟨Nat.le_of_ble_eq_true rfl, Nat.le_of_ble_eq_true rfl⟩ ⟨Nat.le_of_ble_eq_true rfl, Nat.le_of_ble_eq_true rfl⟩ hl (Nat.le_of_ble_eq_true rfl) rfl dX3_again_9 (fun H locs B => ?_)
  refine lv_iload_n C.1 C.2.1 dX3_again_12 rfl (lv_at hl 3 rfl) ?_
  refine z_iconst C dX3_again_13 ?_
  refine z_bipush C dX3_again_14 (by decide) ?_
  by_cases hq16 : (2 : Int) ≤ (r) ∧ (r) ≤ (36 : Int)
  rotate_left
  · exact zx_callS C B Zs htab hk (c_X3_checkRange_bad l hlq (r) (2 : Int) (36 : Int) (by first | omega | assumption) (by first | omega | assumption) (by first | omega | assumption) (by first | omega | assumption)) ml_X3_33 ⟨Nat.le_of_ble_eq_true rfl, Nat.le_of_ble_eq_true rfl⟩ ⟨Nat.le_of_ble_eq_true rfl, Nat.le_of_ble_eq_true rfl⟩ ⟨Nat.le_of_ble_eq_true rfl, Nat.le_of_ble_eq_true rfl⟩ hl (Nat.le_of_ble_eq_true rfl) rfl dX3_again_16
  exfalso; omega

set_option maxHeartbeats 4000000 in
set_option maxRecDepth 100000 in
theorem c_X3_degree_badc (l : Launch) (hlq : l.stackTraces = false) (D : va_G) (cJ : ClassId) (o a : Nat) (c : Nat → Nat) (ac : Int32) (re : Int32) (kn : Int32) (z : Int) (r9z : -2147483648 ≤ z ∧ z ≤ 2147483647) (hbad : ¬ ((0 ≤ z ∧ z ≤ 5))) : zXI l yX3_degree 8 145 D cJ o a [.int (iZ (z))] c [.int (ac), .int (re), .int (kn)] "java/lang/IndexOutOfBoundsException" := by
  refine zXI.intro (lo := 124) (nA := 1) (own := RX3) zi_X3_degree (by decide) rfl rfl (by decide +kernel) rfl (Nat.le_of_ble_eq_true rfl) ?_
  intro p e s m below meth c0 ls C htab hk B Zs hl
  have hl : lv_has ls 2 [(0, .ref o), (1, .int (iZ (z)))] := hl
  refine lv_aload_n C.1 C.2.1 dX3_degree_0 rfl (lv_at hl 0 rfl) ?_
  refine lv_iload_n C.1 C.2.1 dX3_degree_1 rfl (lv_at hl 1 rfl) ?_
  by_cases hq2 : 0 ≤ (z) ∧ (z) ≤ 5
  rotate_left
  · exact zx_callI C B Zs htab hk (c_X3_polyIn_bad l hlq D cJ o a (c) ac re kn (z) (by first | omega | assumption) (by first | omega | assumption)) ml_X3_43 rfl ⟨Nat.le_of_ble_eq_true rfl, Nat.le_of_ble_eq_true rfl⟩ ⟨Nat.le_of_ble_eq_true rfl, Nat.le_of_ble_eq_true rfl⟩ ⟨Nat.le_of_ble_eq_true rfl, Nat.le_of_ble_eq_true rfl⟩ hl (Nat.le_of_ble_eq_true rfl) rfl dX3_degree_2
  exfalso; omega

set_option maxHeartbeats 4000000 in
set_option maxRecDepth 100000 in
theorem c_X3_low_badc (l : Launch) (hlq : l.stackTraces = false) (D : va_G) (cJ : ClassId) (o a : Nat) (c : Nat → Nat) (ac : Int32) (re : Int32) (kn : Int32) (z : Int) (r9z : -2147483648 ≤ z ∧ z ≤ 2147483647) (hbad : ¬ ((0 ≤ z ∧ z ≤ 5))) : zXI l yX3_low 8 145 D cJ o a [.int (iZ (z))] c [.int (ac), .int (re), .int (kn)] "java/lang/IndexOutOfBoundsException" := by
  refine zXI.intro (lo := 124) (nA := 1) (own := RX3) zi_X3_low (by decide) rfl rfl (by decide +kernel) rfl (Nat.le_of_ble_eq_true rfl) ?_
  intro p e s m below meth c0 ls C htab hk B Zs hl
  have hl : lv_has ls 2 [(0, .ref o), (1, .int (iZ (z)))] := hl
  refine lv_aload_n C.1 C.2.1 dX3_low_0 rfl (lv_at hl 0 rfl) ?_
  refine lv_iload_n C.1 C.2.1 dX3_low_1 rfl (lv_at hl 1 rfl) ?_
  by_cases hq2 : 0 ≤ (z) ∧ (z) ≤ 5
  rotate_left
  · exact zx_callI C B Zs htab hk (c_X3_polyIn_bad l hlq D cJ o a (c) ac re kn (z) (by first | omega | assumption) (by first | omega | assumption)) ml_X3_43 rfl ⟨Nat.le_of_ble_eq_true rfl, Nat.le_of_ble_eq_true rfl⟩ ⟨Nat.le_of_ble_eq_true rfl, Nat.le_of_ble_eq_true rfl⟩ ⟨Nat.le_of_ble_eq_true rfl, Nat.le_of_ble_eq_true rfl⟩ hl (Nat.le_of_ble_eq_true rfl) rfl dX3_low_2
  exfalso; omega

set_option maxHeartbeats 4000000 in
set_option maxRecDepth 100000 in
theorem c_X3_weight_badc (l : Launch) (hlq : l.stackTraces = false) (D : va_G) (cJ : ClassId) (o a : Nat) (c : Nat → Nat) (ac : Int32) (re : Int32) (kn : Int32) (z : Int) (r9z : -2147483648 ≤ z ∧ z ≤ 2147483647) (hbad : ¬ ((0 ≤ z ∧ z ≤ 5))) : zXI l yX3_weight 8 145 D cJ o a [.int (iZ (z))] c [.int (ac), .int (re), .int (kn)] "java/lang/IndexOutOfBoundsException" := by
  refine zXI.intro (lo := 124) (nA := 1) (own := RX3) zi_X3_weight (by decide) rfl rfl (by decide +kernel) rfl (Nat.le_of_ble_eq_true rfl) ?_
  intro p e s m below meth c0 ls C htab hk B Zs hl
  have hl : lv_has ls 2 [(0, .ref o), (1, .int (iZ (z)))] := hl
  refine lv_aload_n C.1 C.2.1 dX3_weight_0 rfl (lv_at hl 0 rfl) ?_
  refine lv_iload_n C.1 C.2.1 dX3_weight_1 rfl (lv_at hl 1 rfl) ?_
  by_cases hq2 : 0 ≤ (z) ∧ (z) ≤ 5
  rotate_left
  · exact zx_callI C B Zs htab hk (c_X3_polyIn_bad l hlq D cJ o a (c) ac re kn (z) (by first | omega | assumption) (by first | omega | assumption)) ml_X3_43 rfl ⟨Nat.le_of_ble_eq_true rfl, Nat.le_of_ble_eq_true rfl⟩ ⟨Nat.le_of_ble_eq_true rfl, Nat.le_of_ble_eq_true rfl⟩ ⟨Nat.le_of_ble_eq_true rfl, Nat.le_of_ble_eq_true rfl⟩ hl (Nat.le_of_ble_eq_true rfl) rfl dX3_weight_2
  exfalso; omega

set_option maxHeartbeats 4000000 in
set_option maxRecDepth 100000 in
theorem c_X3_digits_badc (l : Launch) (hlq : l.stackTraces = false) (D : va_G) (cJ : ClassId) (o a : Nat) (c : Nat → Nat) (ac : Int32) (re : Int32) (kn : Int32) (z : Int) (r9z : -2147483648 ≤ z ∧ z ≤ 2147483647) (hbad : ¬ ((0 ≤ z ∧ z ≤ 5))) : zXI l yX3_digits 8 145 D cJ o a [.int (iZ (z))] c [.int (ac), .int (re), .int (kn)] "java/lang/IndexOutOfBoundsException" := by
  refine zXI.intro (lo := 124) (nA := 1) (own := RX3) zi_X3_digits (by decide) rfl rfl (by decide +kernel) rfl (Nat.le_of_ble_eq_true rfl) ?_
  intro p e s m below meth c0 ls C htab hk B Zs hl
  have hl : lv_has ls 2 [(0, .ref o), (1, .int (iZ (z)))] := hl
  refine lv_aload_n C.1 C.2.1 dX3_digits_0 rfl (lv_at hl 0 rfl) ?_
  refine lv_iload_n C.1 C.2.1 dX3_digits_1 rfl (lv_at hl 1 rfl) ?_
  by_cases hq2 : 0 ≤ (z) ∧ (z) ≤ 5
  rotate_left
  · exact zx_callI C B Zs htab hk (c_X3_polyIn_bad l hlq D cJ o a (c) ac re kn (z) (by first | omega | assumption) (by first | omega | assumption)) ml_X3_43 rfl ⟨Nat.le_of_ble_eq_true rfl, Nat.le_of_ble_eq_true rfl⟩ ⟨Nat.le_of_ble_eq_true rfl, Nat.le_of_ble_eq_true rfl⟩ ⟨Nat.le_of_ble_eq_true rfl, Nat.le_of_ble_eq_true rfl⟩ hl (Nat.le_of_ble_eq_true rfl) rfl dX3_digits_2
  exfalso; omega

set_option maxHeartbeats 4000000 in
set_option maxRecDepth 100000 in
theorem c_X3_at_badc (l : Launch) (hlq : l.stackTraces = false) (D : va_G) (cJ : ClassId) (o a : Nat) (c : Nat → Nat) (ac : Int32) (re : Int32) (kn : Int32) (z : Int) (g : Int) (r9z : -2147483648 ≤ z ∧ z ≤ 2147483647) (r9g : -2147483648 ≤ g ∧ g ≤ 2147483647) (hbad : ¬ ((0 ≤ z ∧ z ≤ 5))) : zXI l yX3_at 8 148 D cJ o a [.int (iZ (z)), .int (iZ (g))] c [.int (ac), .int (re), .int (kn)] "java/lang/IndexOutOfBoundsException" := by
  refine zXI.intro (lo := 124) (nA := 2) (own := RX3) zi_X3_at (by decide) rfl rfl (by decide +kernel) rfl (Nat.le_of_ble_eq_true rfl) ?_
  intro p e s m below meth c0 ls C htab hk B Zs hl
  have hl : lv_has ls 5 [(0, .ref o), (1, .int (iZ (z))), (2, .int (iZ (g)))] := hl
  refine lv_aload_n C.1 C.2.1 dX3_at_0 rfl (lv_at hl 0 rfl) ?_
  refine lv_iload_n C.1 C.2.1 dX3_at_1 rfl (lv_at hl 1 rfl) ?_
  by_cases hq2 : 0 ≤ (z) ∧ (z) ≤ 5
  rotate_left
  · exact zx_callI C B Zs htab hk (c_X3_polyIn_bad l hlq D cJ o a (c) ac re kn (z) (by first | omega | assumption) (by first | omega | assumption)) ml_X3_43 rfl ⟨Nat.le_of_ble_eq_true rfl, Nat.le_of_ble_eq_true rfl⟩ ⟨Nat.le_of_ble_eq_true rfl, Nat.le_of_ble_eq_true rfl⟩ ⟨Nat.le_of_ble_eq_true rfl, Nat.le_of_ble_eq_true rfl⟩ hl (Nat.le_of_ble_eq_true rfl) rfl dX3_at_2
  exfalso; omega

set_option maxHeartbeats 4000000 in
set_option maxRecDepth 100000 in
theorem c_X3_at_badr (l : Launch) (hlq : l.stackTraces = false) (D : va_G) (cJ : ClassId) (o a : Nat) (c : Nat → Nat) (ac : Int32) (re : Int32) (kn : Int32) (z : Int) (g : Int) (r9z : -2147483648 ≤ z ∧ z ≤ 2147483647) (r9g : -2147483648 ≤ g ∧ g ≤ 2147483647) (hz : 0 ≤ z ∧ z ≤ 5) (hbad : ¬ ((0 ≤ g ∧ g ≤ 99))) : zXI l yX3_at 7 128 D cJ o a [.int (iZ (z)), .int (iZ (g))] c [.int (ac), .int (re), .int (kn)] "java/lang/IllegalArgumentException" := by
  refine zXI.intro (lo := 104) (nA := 2) (own := RX3) zi_X3_at (by decide) rfl rfl (by decide +kernel) rfl (Nat.le_of_ble_eq_true rfl) ?_
  intro p e s m below meth c0 ls C htab hk B Zs hl
  have hl : lv_has ls 5 [(0, .ref o), (1, .int (iZ (z))), (2, .int (iZ (g)))] := hl
  refine lv_aload_n C.1 C.2.1 dX3_at_0 rfl (lv_at hl 0 rfl) ?_
  refine lv_iload_n C.1 C.2.1 dX3_at_1 rfl (lv_at hl 1 rfl) ?_
  refine zo_callD C B (r := some (.long (lN ((c) (z).toNat)))) (c_X3_polyIn l D cJ o a (c) (ac) (re) (kn) (z) (by first | assumption | omega | rfl | exact decide_eq_false (by omega) | exact decide_eq_true (by assumption) | exact decide_eq_true (by omega) | exact one_shl33 (by omega) | exact pm_lt _ _ | exact rm_lt (by first | assumption | exact pm_lt _ _) | exact Nat.lt_of_le_of_lt (Nat.shiftRight_le _ _) (by assumption) | exact Nat.lt_of_le_of_lt Nat.and_le_right (by omega))) ml_X3_43 rfl ⟨Nat.le_of_ble_eq_true rfl, Nat.le_of_ble_eq_true rfl⟩ ⟨Nat.le_of_ble_eq_true rfl, Nat.le_of_ble_eq_true rfl⟩ hl (Nat.le_of_ble_eq_true rfl) rfl dX3_at_2 (fun H locs B => ?_)
  have q2_0 := B.1.2.2.2 ((z)).toNat
  refine lv_lstore_n (lv' := [(3, .long (lN ((c) (z).toNat))), (0, .ref o), (1, .int (iZ (z))), (2, .int (iZ (g)))]) C.1 C.2.1 dX3_at_5 rfl hl (by decide) rfl (fun ls hl => ?_)
  refine lv_iload_n C.1 C.2.1 dX3_at_6 rfl (lv_at hl 3 rfl) ?_
  refine z_iconst C dX3_at_7 ?_
  refine z_bipush C dX3_at_8 (by decide) ?_
  by_cases hq10 : (0 : Int) ≤ (g) ∧ (g) ≤ (99 : Int)
  rotate_left
  · exact zx_callS C B Zs htab hk (c_X3_checkRange_bad l hlq (g) (0 : Int) (99 : Int) (by first | omega | assumption) (by first | omega | assumption) (by first | omega | assumption) (by first | omega | assumption)) ml_X3_33 ⟨Nat.le_of_ble_eq_true rfl, Nat.le_of_ble_eq_true rfl⟩ ⟨Nat.le_of_ble_eq_true rfl, Nat.le_of_ble_eq_true rfl⟩ ⟨Nat.le_of_ble_eq_true rfl, Nat.le_of_ble_eq_true rfl⟩ hl (Nat.le_of_ble_eq_true rfl) rfl dX3_at_10
  exfalso; omega

set_option maxHeartbeats 4000000 in
set_option maxRecDepth 100000 in
theorem c_X3_order_badc (l : Launch) (hlq : l.stackTraces = false) (D : va_G) (cJ : ClassId) (o a : Nat) (c : Nat → Nat) (ac : Int32) (re : Int32) (kn : Int32) (f : Int) (z : Int) (r9f : -2147483648 ≤ f ∧ f ≤ 2147483647) (r9z : -2147483648 ≤ z ∧ z ≤ 2147483647) (hbad : ¬ ((0 ≤ f ∧ f ≤ 5) ∧ (0 ≤ z ∧ z ≤ 5))) : zXI l yX3_order 8 150 D cJ o a [.int (iZ (f)), .int (iZ (z))] c [.int (ac), .int (re), .int (kn)] "java/lang/IndexOutOfBoundsException" := by
  refine zXI.intro (lo := 124) (nA := 2) (own := RX3) zi_X3_order (by decide) rfl rfl (by decide +kernel) rfl (Nat.le_of_ble_eq_true rfl) ?_
  intro p e s m below meth c0 ls C htab hk B Zs hl
  have hl : lv_has ls 7 [(0, .ref o), (1, .int (iZ (f))), (2, .int (iZ (z)))] := hl
  refine lv_aload_n C.1 C.2.1 dX3_order_0 rfl (lv_at hl 0 rfl) ?_
  refine lv_iload_n C.1 C.2.1 dX3_order_1 rfl (lv_at hl 1 rfl) ?_
  by_cases hq2 : 0 ≤ (f) ∧ (f) ≤ 5
  rotate_left
  · exact zx_callI C B Zs htab hk (c_X3_polyIn_bad l hlq D cJ o a (c) ac re kn (f) (by first | omega | assumption) (by first | omega | assumption)) ml_X3_43 rfl ⟨Nat.le_of_ble_eq_true rfl, Nat.le_of_ble_eq_true rfl⟩ ⟨Nat.le_of_ble_eq_true rfl, Nat.le_of_ble_eq_true rfl⟩ ⟨Nat.le_of_ble_eq_true rfl, Nat.le_of_ble_eq_true rfl⟩ hl (Nat.le_of_ble_eq_true rfl) rfl dX3_order_2
  refine zo_callD C B (r := some (.long (lN ((c) (f).toNat)))) (c_X3_polyIn l D cJ o a (c) (ac) (re) (kn) (f) (by first | assumption | omega | rfl | exact decide_eq_false (by omega) | exact decide_eq_true (by assumption) | exact decide_eq_true (by omega) | exact one_shl33 (by omega) | exact pm_lt _ _ | exact rm_lt (by first | assumption | exact pm_lt _ _) | exact Nat.lt_of_le_of_lt (Nat.shiftRight_le _ _) (by assumption) | exact Nat.lt_of_le_of_lt Nat.and_le_right (by omega))) ml_X3_43 rfl ⟨Nat.le_of_ble_eq_true rfl, Nat.le_of_ble_eq_true rfl⟩ ⟨Nat.le_of_ble_eq_true rfl, Nat.le_of_ble_eq_true rfl⟩ hl (Nat.le_of_ble_eq_true rfl) rfl dX3_order_2 (fun H locs B => ?_)
  have q2_0 := B.1.2.2.2 ((f)).toNat
  refine lv_lstore_n (lv' := [(3, .long (lN ((c) (f).toNat))), (0, .ref o), (1, .int (iZ (f))), (2, .int (iZ (z)))]) C.1 C.2.1 dX3_order_5 rfl hl (by decide) rfl (fun ls hl => ?_)
  refine lv_aload_n C.1 C.2.1 dX3_order_6 rfl (lv_at hl 1 rfl) ?_
  refine lv_iload_n C.1 C.2.1 dX3_order_7 rfl (lv_at hl 3 rfl) ?_
  by_cases hq8 : 0 ≤ (z) ∧ (z) ≤ 5
  rotate_left
  · exact zx_callI C B Zs htab hk (c_X3_polyIn_bad l hlq D cJ o a (c) ac re kn (z) (by first | omega | assumption) (by first | omega | assumption)) ml_X3_43 rfl ⟨Nat.le_of_ble_eq_true rfl, Nat.le_of_ble_eq_true rfl⟩ ⟨Nat.le_of_ble_eq_true rfl, Nat.le_of_ble_eq_true rfl⟩ ⟨Nat.le_of_ble_eq_true rfl, Nat.le_of_ble_eq_true rfl⟩ hl (Nat.le_of_ble_eq_true rfl) rfl dX3_order_8
  exfalso; omega

set_option maxHeartbeats 4000000 in
set_option maxRecDepth 100000 in
theorem c_X3_isSame_badc (l : Launch) (hlq : l.stackTraces = false) (D : va_G) (cJ : ClassId) (o a : Nat) (c : Nat → Nat) (ac : Int32) (re : Int32) (kn : Int32) (f : Int) (z : Int) (r9f : -2147483648 ≤ f ∧ f ≤ 2147483647) (r9z : -2147483648 ≤ z ∧ z ≤ 2147483647) (hbad : ¬ ((0 ≤ f ∧ f ≤ 5) ∧ (0 ≤ z ∧ z ≤ 5))) : zXI l yX3_isSame 8 146 D cJ o a [.int (iZ (f)), .int (iZ (z))] c [.int (ac), .int (re), .int (kn)] "java/lang/IndexOutOfBoundsException" := by
  refine zXI.intro (lo := 124) (nA := 2) (own := RX3) zi_X3_isSame (by decide) rfl rfl (by decide +kernel) rfl (Nat.le_of_ble_eq_true rfl) ?_
  intro p e s m below meth c0 ls C htab hk B Zs hl
  have hl : lv_has ls 3 [(0, .ref o), (1, .int (iZ (f))), (2, .int (iZ (z)))] := hl
  refine lv_aload_n C.1 C.2.1 dX3_isSame_0 rfl (lv_at hl 0 rfl) ?_
  refine lv_iload_n C.1 C.2.1 dX3_isSame_1 rfl (lv_at hl 1 rfl) ?_
  by_cases hq2 : 0 ≤ (f) ∧ (f) ≤ 5
  rotate_left
  · exact zx_callI C B Zs htab hk (c_X3_polyIn_bad l hlq D cJ o a (c) ac re kn (f) (by first | omega | assumption) (by first | omega | assumption)) ml_X3_43 rfl ⟨Nat.le_of_ble_eq_true rfl, Nat.le_of_ble_eq_true rfl⟩ ⟨Nat.le_of_ble_eq_true rfl, Nat.le_of_ble_eq_true rfl⟩ ⟨Nat.le_of_ble_eq_true rfl, Nat.le_of_ble_eq_true rfl⟩ hl (Nat.le_of_ble_eq_true rfl) rfl dX3_isSame_2
  refine zo_callD C B (r := some (.long (lN ((c) (f).toNat)))) (c_X3_polyIn l D cJ o a (c) (ac) (re) (kn) (f) (by first | assumption | omega | rfl | exact decide_eq_false (by omega) | exact decide_eq_true (by assumption) | exact decide_eq_true (by omega) | exact one_shl33 (by omega) | exact pm_lt _ _ | exact rm_lt (by first | assumption | exact pm_lt _ _) | exact Nat.lt_of_le_of_lt (Nat.shiftRight_le _ _) (by assumption) | exact Nat.lt_of_le_of_lt Nat.and_le_right (by omega))) ml_X3_43 rfl ⟨Nat.le_of_ble_eq_true rfl, Nat.le_of_ble_eq_true rfl⟩ ⟨Nat.le_of_ble_eq_true rfl, Nat.le_of_ble_eq_true rfl⟩ hl (Nat.le_of_ble_eq_true rfl) rfl dX3_isSame_2 (fun H locs B => ?_)
  have q2_0 := B.1.2.2.2 ((f)).toNat
  refine lv_aload_n C.1 C.2.1 dX3_isSame_5 rfl (lv_at hl 0 rfl) ?_
  refine lv_iload_n C.1 C.2.1 dX3_isSame_6 rfl (lv_at hl 2 rfl) ?_
  by_cases hq7 : 0 ≤ (z) ∧ (z) ≤ 5
  rotate_left
  · exact zx_callI C B Zs htab hk (c_X3_polyIn_bad l hlq D cJ o a (c) ac re kn (z) (by first | omega | assumption) (by first | omega | assumption)) ml_X3_43 rfl ⟨Nat.le_of_ble_eq_true rfl, Nat.le_of_ble_eq_true rfl⟩ ⟨Nat.le_of_ble_eq_true rfl, Nat.le_of_ble_eq_true rfl⟩ ⟨Nat.le_of_ble_eq_true rfl, Nat.le_of_ble_eq_true rfl⟩ hl (Nat.le_of_ble_eq_true rfl) rfl dX3_isSame_7
  exfalso; omega

set_option maxHeartbeats 4000000 in
set_option maxRecDepth 100000 in
theorem c_X3_value_badc (l : Launch) (hlq : l.stackTraces = false) (D : va_G) (cJ : ClassId) (o a : Nat) (c : Nat → Nat) (ac : Int32) (re : Int32) (kn : Int32) (z : Int) (b : Bool) (r9z : -2147483648 ≤ z ∧ z ≤ 2147483647) (hbad : ¬ ((0 ≤ z ∧ z ≤ 5))) : zXI l yX3_value 8 148 D cJ o a [.int (iZ (z)), .int (iZ (zB (b)))] c [.int (ac), .int (re), .int (kn)] "java/lang/IndexOutOfBoundsException" := by
  refine zXI.intro (lo := 124) (nA := 2) (own := RX3) zi_X3_value (by decide) rfl rfl (by decide +kernel) rfl (Nat.le_of_ble_eq_true rfl) ?_
  intro p e s m below meth c0 ls C htab hk B Zs hl
  have hl : lv_has ls 5 [(0, .ref o), (1, .int (iZ (z))), (2, .int (iZ (zB (b))))] := hl
  refine lv_aload_n C.1 C.2.1 dX3_value_0 rfl (lv_at hl 0 rfl) ?_
  refine lv_iload_n C.1 C.2.1 dX3_value_1 rfl (lv_at hl 1 rfl) ?_
  by_cases hq2 : 0 ≤ (z) ∧ (z) ≤ 5
  rotate_left
  · exact zx_callI C B Zs htab hk (c_X3_polyIn_bad l hlq D cJ o a (c) ac re kn (z) (by first | omega | assumption) (by first | omega | assumption)) ml_X3_43 rfl ⟨Nat.le_of_ble_eq_true rfl, Nat.le_of_ble_eq_true rfl⟩ ⟨Nat.le_of_ble_eq_true rfl, Nat.le_of_ble_eq_true rfl⟩ ⟨Nat.le_of_ble_eq_true rfl, Nat.le_of_ble_eq_true rfl⟩ hl (Nat.le_of_ble_eq_true rfl) rfl dX3_value_2
  exfalso; omega

set_option maxHeartbeats 4000000 in
set_option maxRecDepth 100000 in
theorem c_X3_divides_badc (l : Launch) (hlq : l.stackTraces = false) (D : va_G) (cJ : ClassId) (o a : Nat) (c : Nat → Nat) (ac : Int32) (re : Int32) (kn : Int32) (f : Int) (z : Int) (r9f : -2147483648 ≤ f ∧ f ≤ 2147483647) (r9z : -2147483648 ≤ z ∧ z ≤ 2147483647) (hbad : ¬ ((0 ≤ f ∧ f ≤ 5) ∧ (0 ≤ z ∧ z ≤ 5))) : zXI l yX3_divides 8 146 D cJ o a [.int (iZ (f)), .int (iZ (z))] c [.int (ac), .int (re), .int (kn)] "java/lang/IndexOutOfBoundsException" := by
  refine zXI.intro (lo := 124) (nA := 2) (own := RX3) zi_X3_divides (by decide) rfl rfl (by decide +kernel) rfl (Nat.le_of_ble_eq_true rfl) ?_
  intro p e s m below meth c0 ls C htab hk B Zs hl
  have hl : lv_has ls 3 [(0, .ref o), (1, .int (iZ (f))), (2, .int (iZ (z)))] := hl
  refine lv_aload_n C.1 C.2.1 dX3_divides_0 rfl (lv_at hl 0 rfl) ?_
  refine lv_iload_n C.1 C.2.1 dX3_divides_1 rfl (lv_at hl 1 rfl) ?_
  by_cases hq2 : 0 ≤ (f) ∧ (f) ≤ 5
  rotate_left
  · exact zx_callI C B Zs htab hk (c_X3_polyIn_bad l hlq D cJ o a (c) ac re kn (f) (by first | omega | assumption) (by first | omega | assumption)) ml_X3_43 rfl ⟨Nat.le_of_ble_eq_true rfl, Nat.le_of_ble_eq_true rfl⟩ ⟨Nat.le_of_ble_eq_true rfl, Nat.le_of_ble_eq_true rfl⟩ ⟨Nat.le_of_ble_eq_true rfl, Nat.le_of_ble_eq_true rfl⟩ hl (Nat.le_of_ble_eq_true rfl) rfl dX3_divides_2
  refine zo_callD C B (r := some (.long (lN ((c) (f).toNat)))) (c_X3_polyIn l D cJ o a (c) (ac) (re) (kn) (f) (by first | assumption | omega | rfl | exact decide_eq_false (by omega) | exact decide_eq_true (by assumption) | exact decide_eq_true (by omega) | exact one_shl33 (by omega) | exact pm_lt _ _ | exact rm_lt (by first | assumption | exact pm_lt _ _) | exact Nat.lt_of_le_of_lt (Nat.shiftRight_le _ _) (by assumption) | exact Nat.lt_of_le_of_lt Nat.and_le_right (by omega))) ml_X3_43 rfl ⟨Nat.le_of_ble_eq_true rfl, Nat.le_of_ble_eq_true rfl⟩ ⟨Nat.le_of_ble_eq_true rfl, Nat.le_of_ble_eq_true rfl⟩ hl (Nat.le_of_ble_eq_true rfl) rfl dX3_divides_2 (fun H locs B => ?_)
  have q2_0 := B.1.2.2.2 ((f)).toNat
  refine lv_aload_n C.1 C.2.1 dX3_divides_5 rfl (lv_at hl 0 rfl) ?_
  refine lv_iload_n C.1 C.2.1 dX3_divides_6 rfl (lv_at hl 2 rfl) ?_
  by_cases hq7 : 0 ≤ (z) ∧ (z) ≤ 5
  rotate_left
  · exact zx_callI C B Zs htab hk (c_X3_polyIn_bad l hlq D cJ o a (c) ac re kn (z) (by first | omega | assumption) (by first | omega | assumption)) ml_X3_43 rfl ⟨Nat.le_of_ble_eq_true rfl, Nat.le_of_ble_eq_true rfl⟩ ⟨Nat.le_of_ble_eq_true rfl, Nat.le_of_ble_eq_true rfl⟩ ⟨Nat.le_of_ble_eq_true rfl, Nat.le_of_ble_eq_true rfl⟩ hl (Nat.le_of_ble_eq_true rfl) rfl dX3_divides_7
  exfalso; omega

set_option maxHeartbeats 4000000 in
set_option maxRecDepth 100000 in
theorem c_X3_isFree_badc (l : Launch) (hlq : l.stackTraces = false) (D : va_G) (cJ : ClassId) (o a : Nat) (c : Nat → Nat) (ac : Int32) (re : Int32) (kn : Int32) (z : Int) (r9z : -2147483648 ≤ z ∧ z ≤ 2147483647) (hbad : ¬ ((0 ≤ z ∧ z ≤ 5))) : zXI l yX3_isFree 8 147 D cJ o a [.int (iZ (z))] c [.int (ac), .int (re), .int (kn)] "java/lang/IndexOutOfBoundsException" := by
  refine zXI.intro (lo := 124) (nA := 1) (own := RX3) zi_X3_isFree (by decide) rfl rfl (by decide +kernel) rfl (Nat.le_of_ble_eq_true rfl) ?_
  intro p e s m below meth c0 ls C htab hk B Zs hl
  have hl : lv_has ls 4 [(0, .ref o), (1, .int (iZ (z)))] := hl
  refine lv_aload_n C.1 C.2.1 dX3_isFree_0 rfl (lv_at hl 0 rfl) ?_
  refine lv_iload_n C.1 C.2.1 dX3_isFree_1 rfl (lv_at hl 1 rfl) ?_
  by_cases hq2 : 0 ≤ (z) ∧ (z) ≤ 5
  rotate_left
  · exact zx_callI C B Zs htab hk (c_X3_polyIn_bad l hlq D cJ o a (c) ac re kn (z) (by first | omega | assumption) (by first | omega | assumption)) ml_X3_43 rfl ⟨Nat.le_of_ble_eq_true rfl, Nat.le_of_ble_eq_true rfl⟩ ⟨Nat.le_of_ble_eq_true rfl, Nat.le_of_ble_eq_true rfl⟩ ⟨Nat.le_of_ble_eq_true rfl, Nat.le_of_ble_eq_true rfl⟩ hl (Nat.le_of_ble_eq_true rfl) rfl dX3_isFree_2
  exfalso; omega

set_option maxHeartbeats 4000000 in
set_option maxRecDepth 100000 in
theorem c_X3_irreducible_badc (l : Launch) (hlq : l.stackTraces = false) (D : va_G) (cJ : ClassId) (o a : Nat) (c : Nat → Nat) (ac : Int32) (re : Int32) (kn : Int32) (z : Int) (r9z : -2147483648 ≤ z ∧ z ≤ 2147483647) (hbad : ¬ ((0 ≤ z ∧ z ≤ 5))) : zXI l yX3_irreducible 8 147 D cJ o a [.int (iZ (z))] c [.int (ac), .int (re), .int (kn)] "java/lang/IndexOutOfBoundsException" := by
  refine zXI.intro (lo := 124) (nA := 1) (own := RX3) zi_X3_irreducible (by decide) rfl rfl (by decide +kernel) rfl (Nat.le_of_ble_eq_true rfl) ?_
  intro p e s m below meth c0 ls C htab hk B Zs hl
  have hl : lv_has ls 4 [(0, .ref o), (1, .int (iZ (z)))] := hl
  refine lv_aload_n C.1 C.2.1 dX3_irreducible_0 rfl (lv_at hl 0 rfl) ?_
  refine lv_iload_n C.1 C.2.1 dX3_irreducible_1 rfl (lv_at hl 1 rfl) ?_
  by_cases hq2 : 0 ≤ (z) ∧ (z) ≤ 5
  rotate_left
  · exact zx_callI C B Zs htab hk (c_X3_polyIn_bad l hlq D cJ o a (c) ac re kn (z) (by first | omega | assumption) (by first | omega | assumption)) ml_X3_43 rfl ⟨Nat.le_of_ble_eq_true rfl, Nat.le_of_ble_eq_true rfl⟩ ⟨Nat.le_of_ble_eq_true rfl, Nat.le_of_ble_eq_true rfl⟩ ⟨Nat.le_of_ble_eq_true rfl, Nat.le_of_ble_eq_true rfl⟩ hl (Nat.le_of_ble_eq_true rfl) rfl dX3_irreducible_2
  exfalso; omega

set_option maxHeartbeats 4000000 in
set_option maxRecDepth 100000 in
theorem c_X3_rank_badc (l : Launch) (hlq : l.stackTraces = false) (D : va_G) (cJ : ClassId) (o a : Nat) (c : Nat → Nat) (ac : Int32) (re : Int32) (kn : Int32) (z : Int) (r9z : -2147483648 ≤ z ∧ z ≤ 2147483647) (hbad : ¬ ((0 ≤ z ∧ z ≤ 5))) : zXI l yX3_rank 8 147 D cJ o a [.int (iZ (z))] c [.int (ac), .int (re), .int (kn)] "java/lang/IndexOutOfBoundsException" := by
  refine zXI.intro (lo := 124) (nA := 1) (own := RX3) zi_X3_rank (by decide) rfl rfl (by decide +kernel) rfl (Nat.le_of_ble_eq_true rfl) ?_
  intro p e s m below meth c0 ls C htab hk B Zs hl
  have hl : lv_has ls 4 [(0, .ref o), (1, .int (iZ (z)))] := hl
  refine lv_aload_n C.1 C.2.1 dX3_rank_0 rfl (lv_at hl 0 rfl) ?_
  refine lv_iload_n C.1 C.2.1 dX3_rank_1 rfl (lv_at hl 1 rfl) ?_
  by_cases hq2 : 0 ≤ (z) ∧ (z) ≤ 5
  rotate_left
  · exact zx_callI C B Zs htab hk (c_X3_polyIn_bad l hlq D cJ o a (c) ac re kn (z) (by first | omega | assumption) (by first | omega | assumption)) ml_X3_43 rfl ⟨Nat.le_of_ble_eq_true rfl, Nat.le_of_ble_eq_true rfl⟩ ⟨Nat.le_of_ble_eq_true rfl, Nat.le_of_ble_eq_true rfl⟩ ⟨Nat.le_of_ble_eq_true rfl, Nat.le_of_ble_eq_true rfl⟩ hl (Nat.le_of_ble_eq_true rfl) rfl dX3_rank_2
  exfalso; omega

set_option maxHeartbeats 4000000 in
set_option maxRecDepth 100000 in
theorem c_X3_period_badc (l : Launch) (hlq : l.stackTraces = false) (D : va_G) (cJ : ClassId) (o a : Nat) (c : Nat → Nat) (ac : Int32) (re : Int32) (kn : Int32) (z : Int) (r9z : -2147483648 ≤ z ∧ z ≤ 2147483647) (hbad : ¬ ((0 ≤ z ∧ z ≤ 5))) : zXI l yX3_period 8 147 D cJ o a [.int (iZ (z))] c [.int (ac), .int (re), .int (kn)] "java/lang/IndexOutOfBoundsException" := by
  refine zXI.intro (lo := 124) (nA := 1) (own := RX3) zi_X3_period (by decide) rfl rfl (by decide +kernel) rfl (Nat.le_of_ble_eq_true rfl) ?_
  intro p e s m below meth c0 ls C htab hk B Zs hl
  have hl : lv_has ls 4 [(0, .ref o), (1, .int (iZ (z)))] := hl
  refine lv_aload_n C.1 C.2.1 dX3_period_0 rfl (lv_at hl 0 rfl) ?_
  refine lv_iload_n C.1 C.2.1 dX3_period_1 rfl (lv_at hl 1 rfl) ?_
  by_cases hq2 : 0 ≤ (z) ∧ (z) ≤ 5
  rotate_left
  · exact zx_callI C B Zs htab hk (c_X3_polyIn_bad l hlq D cJ o a (c) ac re kn (z) (by first | omega | assumption) (by first | omega | assumption)) ml_X3_43 rfl ⟨Nat.le_of_ble_eq_true rfl, Nat.le_of_ble_eq_true rfl⟩ ⟨Nat.le_of_ble_eq_true rfl, Nat.le_of_ble_eq_true rfl⟩ ⟨Nat.le_of_ble_eq_true rfl, Nat.le_of_ble_eq_true rfl⟩ hl (Nat.le_of_ble_eq_true rfl) rfl dX3_period_2
  exfalso; omega

set_option maxHeartbeats 4000000 in
set_option maxRecDepth 100000 in
theorem c_X3_find_badc (l : Launch) (hlq : l.stackTraces = false) (D : va_G) (cJ : ClassId) (o a : Nat) (c : Nat → Nat) (ac : Int32) (re : Int32) (kn : Int32) (z : Int) (b : Bool) (r9z : -2147483648 ≤ z ∧ z ≤ 2147483647) (hbad : ¬ ((0 ≤ z ∧ z ≤ 5))) : zXI l yX3_find 8 150 D cJ o a [.int (iZ (z)), .int (iZ (zB (b)))] c [.int (ac), .int (re), .int (kn)] "java/lang/IndexOutOfBoundsException" := by
  refine zXI.intro (lo := 124) (nA := 2) (own := RX3) zi_X3_find (by decide) rfl rfl (by decide +kernel) rfl (Nat.le_of_ble_eq_true rfl) ?_
  intro p e s m below meth c0 ls C htab hk B Zs hl
  have hl : lv_has ls 7 [(0, .ref o), (1, .int (iZ (z))), (2, .int (iZ (zB (b))))] := hl
  refine lv_aload_n C.1 C.2.1 dX3_find_0 rfl (lv_at hl 0 rfl) ?_
  refine lv_iload_n C.1 C.2.1 dX3_find_1 rfl (lv_at hl 1 rfl) ?_
  by_cases hq2 : 0 ≤ (z) ∧ (z) ≤ 5
  rotate_left
  · exact zx_callI C B Zs htab hk (c_X3_polyIn_bad l hlq D cJ o a (c) ac re kn (z) (by first | omega | assumption) (by first | omega | assumption)) ml_X3_43 rfl ⟨Nat.le_of_ble_eq_true rfl, Nat.le_of_ble_eq_true rfl⟩ ⟨Nat.le_of_ble_eq_true rfl, Nat.le_of_ble_eq_true rfl⟩ ⟨Nat.le_of_ble_eq_true rfl, Nat.le_of_ble_eq_true rfl⟩ hl (Nat.le_of_ble_eq_true rfl) rfl dX3_find_2
  exfalso; omega

set_option maxHeartbeats 4000000 in
set_option maxRecDepth 100000 in
theorem c_X3_text_badc (l : Launch) (hlq : l.stackTraces = false) (D : va_G) (cJ : ClassId) (o a : Nat) (c : Nat → Nat) (ac : Int32) (re : Int32) (kn : Int32) (z : Int) (r9z : -2147483648 ≤ z ∧ z ≤ 2147483647) (hbad : ¬ ((0 ≤ z ∧ z ≤ 5))) : zXI l yX3_text 8 145 D cJ o a [.int (iZ (z))] c [.int (ac), .int (re), .int (kn)] "java/lang/IndexOutOfBoundsException" := by
  refine zXI.intro (lo := 124) (nA := 1) (own := RX3) zi_X3_text (by decide) rfl rfl (by decide +kernel) rfl (Nat.le_of_ble_eq_true rfl) ?_
  intro p e s m below meth c0 ls C htab hk B Zs hl
  have hl : lv_has ls 2 [(0, .ref o), (1, .int (iZ (z)))] := hl
  refine lv_aload_n C.1 C.2.1 dX3_text_0 rfl (lv_at hl 0 rfl) ?_
  refine lv_iload_n C.1 C.2.1 dX3_text_1 rfl (lv_at hl 1 rfl) ?_
  by_cases hq2 : 0 ≤ (z) ∧ (z) ≤ 5
  rotate_left
  · exact zx_callI C B Zs htab hk (c_X3_polyIn_bad l hlq D cJ o a (c) ac re kn (z) (by first | omega | assumption) (by first | omega | assumption)) ml_X3_43 rfl ⟨Nat.le_of_ble_eq_true rfl, Nat.le_of_ble_eq_true rfl⟩ ⟨Nat.le_of_ble_eq_true rfl, Nat.le_of_ble_eq_true rfl⟩ ⟨Nat.le_of_ble_eq_true rfl, Nat.le_of_ble_eq_true rfl⟩ hl (Nat.le_of_ble_eq_true rfl) rfl dX3_text_2
  exfalso; omega

set_option maxHeartbeats 4000000 in
set_option maxRecDepth 100000 in
theorem c_X3_code_badc (l : Launch) (hlq : l.stackTraces = false) (D : va_G) (cJ : ClassId) (o a : Nat) (c : Nat → Nat) (ac : Int32) (re : Int32) (kn : Int32) (z : Int) (r : Int) (r9z : -2147483648 ≤ z ∧ z ≤ 2147483647) (r9r : -2147483648 ≤ r ∧ r ≤ 2147483647) (hbad : ¬ ((0 ≤ z ∧ z ≤ 5))) : zXI l yX3_code 8 148 D cJ o a [.int (iZ (z)), .int (iZ (r))] c [.int (ac), .int (re), .int (kn)] "java/lang/IndexOutOfBoundsException" := by
  refine zXI.intro (lo := 124) (nA := 2) (own := RX3) zi_X3_code (by decide) rfl rfl (by decide +kernel) rfl (Nat.le_of_ble_eq_true rfl) ?_
  intro p e s m below meth c0 ls C htab hk B Zs hl
  have hl : lv_has ls 5 [(0, .ref o), (1, .int (iZ (z))), (2, .int (iZ (r)))] := hl
  refine lv_aload_n C.1 C.2.1 dX3_code_0 rfl (lv_at hl 0 rfl) ?_
  refine lv_iload_n C.1 C.2.1 dX3_code_1 rfl (lv_at hl 1 rfl) ?_
  by_cases hq2 : 0 ≤ (z) ∧ (z) ≤ 5
  rotate_left
  · exact zx_callI C B Zs htab hk (c_X3_polyIn_bad l hlq D cJ o a (c) ac re kn (z) (by first | omega | assumption) (by first | omega | assumption)) ml_X3_43 rfl ⟨Nat.le_of_ble_eq_true rfl, Nat.le_of_ble_eq_true rfl⟩ ⟨Nat.le_of_ble_eq_true rfl, Nat.le_of_ble_eq_true rfl⟩ ⟨Nat.le_of_ble_eq_true rfl, Nat.le_of_ble_eq_true rfl⟩ hl (Nat.le_of_ble_eq_true rfl) rfl dX3_code_2
  exfalso; omega

set_option maxHeartbeats 4000000 in
set_option maxRecDepth 100000 in
theorem c_X3_code_badr (l : Launch) (hlq : l.stackTraces = false) (D : va_G) (cJ : ClassId) (o a : Nat) (c : Nat → Nat) (ac : Int32) (re : Int32) (kn : Int32) (z : Int) (r : Int) (r9z : -2147483648 ≤ z ∧ z ≤ 2147483647) (r9r : -2147483648 ≤ r ∧ r ≤ 2147483647) (hz : 0 ≤ z ∧ z ≤ 5) (hbad : ¬ ((2 ≤ r ∧ r ≤ 36))) : zXI l yX3_code 7 128 D cJ o a [.int (iZ (z)), .int (iZ (r))] c [.int (ac), .int (re), .int (kn)] "java/lang/IllegalArgumentException" := by
  refine zXI.intro (lo := 104) (nA := 2) (own := RX3) zi_X3_code (by decide) rfl rfl (by decide +kernel) rfl (Nat.le_of_ble_eq_true rfl) ?_
  intro p e s m below meth c0 ls C htab hk B Zs hl
  have hl : lv_has ls 5 [(0, .ref o), (1, .int (iZ (z))), (2, .int (iZ (r)))] := hl
  refine lv_aload_n C.1 C.2.1 dX3_code_0 rfl (lv_at hl 0 rfl) ?_
  refine lv_iload_n C.1 C.2.1 dX3_code_1 rfl (lv_at hl 1 rfl) ?_
  refine zo_callD C B (r := some (.long (lN ((c) (z).toNat)))) (c_X3_polyIn l D cJ o a (c) (ac) (re) (kn) (z) (by first | assumption | omega | rfl | exact decide_eq_false (by omega) | exact decide_eq_true (by assumption) | exact decide_eq_true (by omega) | exact one_shl33 (by omega) | exact pm_lt _ _ | exact rm_lt (by first | assumption | exact pm_lt _ _) | exact Nat.lt_of_le_of_lt (Nat.shiftRight_le _ _) (by assumption) | exact Nat.lt_of_le_of_lt Nat.and_le_right (by omega))) ml_X3_43 rfl ⟨Nat.le_of_ble_eq_true rfl, Nat.le_of_ble_eq_true rfl⟩ ⟨Nat.le_of_ble_eq_true rfl, Nat.le_of_ble_eq_true rfl⟩ hl (Nat.le_of_ble_eq_true rfl) rfl dX3_code_2 (fun H locs B => ?_)
  have q2_0 := B.1.2.2.2 ((z)).toNat
  refine lv_lstore_n (lv' := [(3, .long (lN ((c) (z).toNat))), (0, .ref o), (1, .int (iZ (z))), (2, .int (iZ (r)))]) C.1 C.2.1 dX3_code_5 rfl hl (by decide) rfl (fun ls hl => ?_)
  refine lv_iload_n C.1 C.2.1 dX3_code_6 rfl (lv_at hl 3 rfl) ?_
  refine z_iconst C dX3_code_7 ?_
  refine z_bipush C dX3_code_8 (by decide) ?_
  by_cases hq10 : (2 : Int) ≤ (r) ∧ (r) ≤ (36 : Int)
  rotate_left
  · exact zx_callS C B Zs htab hk (c_X3_checkRange_bad l hlq (r) (2 : Int) (36 : Int) (by first | omega | assumption) (by first | omega | assumption) (by first | omega | assumption) (by first | omega | assumption)) ml_X3_33 ⟨Nat.le_of_ble_eq_true rfl, Nat.le_of_ble_eq_true rfl⟩ ⟨Nat.le_of_ble_eq_true rfl, Nat.le_of_ble_eq_true rfl⟩ ⟨Nat.le_of_ble_eq_true rfl, Nat.le_of_ble_eq_true rfl⟩ hl (Nat.le_of_ble_eq_true rfl) rfl dX3_code_10
  exfalso; omega

set_option maxHeartbeats 4000000 in
set_option maxRecDepth 100000 in
theorem c_X3_factors_badc (l : Launch) (hlq : l.stackTraces = false) (D : va_G) (cJ : ClassId) (o a : Nat) (c : Nat → Nat) (ac : Int32) (re : Int32) (kn : Int32) (z : Int) (r9z : -2147483648 ≤ z ∧ z ≤ 2147483647) (hbad : ¬ ((0 ≤ z ∧ z ≤ 5))) : zXI l yX3_factors 8 147 D cJ o a [.int (iZ (z))] c [.int (ac), .int (re), .int (kn)] "java/lang/IndexOutOfBoundsException" := by
  refine zXI.intro (lo := 124) (nA := 1) (own := RX3) zi_X3_factors (by decide) rfl rfl (by decide +kernel) rfl (Nat.le_of_ble_eq_true rfl) ?_
  intro p e s m below meth c0 ls C htab hk B Zs hl
  have hl : lv_has ls 4 [(0, .ref o), (1, .int (iZ (z)))] := hl
  refine lv_aload_n C.1 C.2.1 dX3_factors_0 rfl (lv_at hl 0 rfl) ?_
  refine lv_iload_n C.1 C.2.1 dX3_factors_1 rfl (lv_at hl 1 rfl) ?_
  by_cases hq2 : 0 ≤ (z) ∧ (z) ≤ 5
  rotate_left
  · exact zx_callI C B Zs htab hk (c_X3_polyIn_bad l hlq D cJ o a (c) ac re kn (z) (by first | omega | assumption) (by first | omega | assumption)) ml_X3_43 rfl ⟨Nat.le_of_ble_eq_true rfl, Nat.le_of_ble_eq_true rfl⟩ ⟨Nat.le_of_ble_eq_true rfl, Nat.le_of_ble_eq_true rfl⟩ ⟨Nat.le_of_ble_eq_true rfl, Nat.le_of_ble_eq_true rfl⟩ hl (Nat.le_of_ble_eq_true rfl) rfl dX3_factors_2
  exfalso; omega

set_option maxHeartbeats 4000000 in
set_option maxRecDepth 100000 in
theorem c_X3_many_badr (l : Launch) (hlq : l.stackTraces = false) (D : va_G) (cJ : ClassId) (o a : Nat) (c : Nat → Nat) (ac : Int32) (re : Int32) (kn : Int32) (z : Int) (r9z : -2147483648 ≤ z ∧ z ≤ 2147483647) (hbad : ¬ (1 ≤ z ∧ z ≤ 8)) : zXI l yX3_many 7 125 D cJ o a [.int (iZ (z))] c [.int (ac), .int (re), .int (kn)] "java/lang/IllegalArgumentException" := by
  refine zXI.intro (lo := 104) (nA := 1) (own := RX3) zi_X3_many (by decide) rfl rfl (by decide +kernel) rfl (Nat.le_of_ble_eq_true rfl) ?_
  intro p e s m below meth c0 ls C htab hk B Zs hl
  have hl : lv_has ls 2 [(0, .ref o), (1, .int (iZ (z)))] := hl
  refine lv_iload_n C.1 C.2.1 dX3_many_0 rfl (lv_at hl 1 rfl) ?_
  refine z_iconst C dX3_many_1 ?_
  refine z_bipush C dX3_many_2 (by decide) ?_
  by_cases hq4 : (1 : Int) ≤ (z) ∧ (z) ≤ (8 : Int)
  rotate_left
  · exact zx_callS C B Zs htab hk (c_X3_checkRange_bad l hlq (z) (1 : Int) (8 : Int) (by first | omega | assumption) (by first | omega | assumption) (by first | omega | assumption) (by first | omega | assumption)) ml_X3_33 ⟨Nat.le_of_ble_eq_true rfl, Nat.le_of_ble_eq_true rfl⟩ ⟨Nat.le_of_ble_eq_true rfl, Nat.le_of_ble_eq_true rfl⟩ ⟨Nat.le_of_ble_eq_true rfl, Nat.le_of_ble_eq_true rfl⟩ hl (Nat.le_of_ble_eq_true rfl) rfl dX3_many_4
  exfalso; omega

set_option maxHeartbeats 4000000 in
set_option maxRecDepth 100000 in
theorem c_X3_house_badr (l : Launch) (hlq : l.stackTraces = false) (D : va_G) (cJ : ClassId) (o a : Nat) (c : Nat → Nat) (ac : Int32) (re : Int32) (kn : Int32) (z : Int) (r9z : -2147483648 ≤ z ∧ z ≤ 2147483647) (hbad : ¬ (0 ≤ z ∧ z ≤ 4)) : zXI l yX3_house 7 125 D cJ o a [.int (iZ (z))] c [.int (ac), .int (re), .int (kn)] "java/lang/IllegalArgumentException" := by
  refine zXI.intro (lo := 104) (nA := 1) (own := RX3) zi_X3_house (by decide) rfl rfl (by decide +kernel) rfl (Nat.le_of_ble_eq_true rfl) ?_
  intro p e s m below meth c0 ls C htab hk B Zs hl
  have hl : lv_has ls 2 [(0, .ref o), (1, .int (iZ (z)))] := hl
  refine lv_iload_n C.1 C.2.1 dX3_house_0 rfl (lv_at hl 1 rfl) ?_
  refine z_iconst C dX3_house_1 ?_
  refine z_iconst C dX3_house_2 ?_
  by_cases hq3 : (0 : Int) ≤ (z) ∧ (z) ≤ (4 : Int)
  rotate_left
  · exact zx_callS C B Zs htab hk (c_X3_checkRange_bad l hlq (z) (0 : Int) (4 : Int) (by first | omega | assumption) (by first | omega | assumption) (by first | omega | assumption) (by first | omega | assumption)) ml_X3_33 ⟨Nat.le_of_ble_eq_true rfl, Nat.le_of_ble_eq_true rfl⟩ ⟨Nat.le_of_ble_eq_true rfl, Nat.le_of_ble_eq_true rfl⟩ ⟨Nat.le_of_ble_eq_true rfl, Nat.le_of_ble_eq_true rfl⟩ hl (Nat.le_of_ble_eq_true rfl) rfl dX3_house_3
  exfalso; omega

set_option maxHeartbeats 4000000 in
set_option maxRecDepth 100000 in
theorem c_X3_formula_badr (l : Launch) (hlq : l.stackTraces = false) (D : va_G) (cJ : ClassId) (o a : Nat) (c : Nat → Nat) (ac : Int32) (re : Int32) (kn : Int32) (z : Int) (r9z : -2147483648 ≤ z ∧ z ≤ 2147483647) (hbad : ¬ (1 ≤ z ∧ z ≤ 8)) : zXI l yX3_formula 7 125 D cJ o a [.int (iZ (z))] c [.int (ac), .int (re), .int (kn)] "java/lang/IllegalArgumentException" := by
  refine zXI.intro (lo := 104) (nA := 1) (own := RX3) zi_X3_formula (by decide) rfl rfl (by decide +kernel) rfl (Nat.le_of_ble_eq_true rfl) ?_
  intro p e s m below meth c0 ls C htab hk B Zs hl
  have hl : lv_has ls 2 [(0, .ref o), (1, .int (iZ (z)))] := hl
  refine lv_iload_n C.1 C.2.1 dX3_formula_0 rfl (lv_at hl 1 rfl) ?_
  refine z_iconst C dX3_formula_1 ?_
  refine z_bipush C dX3_formula_2 (by decide) ?_
  by_cases hq4 : (1 : Int) ≤ (z) ∧ (z) ≤ (8 : Int)
  rotate_left
  · exact zx_callS C B Zs htab hk (c_X3_checkRange_bad l hlq (z) (1 : Int) (8 : Int) (by first | omega | assumption) (by first | omega | assumption) (by first | omega | assumption) (by first | omega | assumption)) ml_X3_33 ⟨Nat.le_of_ble_eq_true rfl, Nat.le_of_ble_eq_true rfl⟩ ⟨Nat.le_of_ble_eq_true rfl, Nat.le_of_ble_eq_true rfl⟩ ⟨Nat.le_of_ble_eq_true rfl, Nat.le_of_ble_eq_true rfl⟩ hl (Nat.le_of_ble_eq_true rfl) rfl dX3_formula_4
  exfalso; omega
/-! ===== the law's wrappers: their words and instructions ===== -/
def zSW (y : MethodName) (bytes : ByteArray) (maxL : Nat) (ret : Option FieldType) (hh : List (Nat × Nat × Nat × Nat)) : Prop := Cond.static y ∈ lw_tbl ∧ Cond.initialized y.cls ∈ lw_tbl ∧ Cond.codeWith y bytes maxL ret hh ∈ lw_tbl
def hL_put : List (Nat × Nat × Nat × Nat) := [(0, 11, 14, 19)]
theorem zw_L_put : zSW yL_put cL_put 5 (some .int) hL_put := ⟨tb2 (List.mem_of_getElem? (i := 4) rfl), tb1 (List.mem_of_getElem? (i := 0) rfl), tb2 (List.mem_of_getElem? (i := 5) rfl)⟩
def hL_mono : List (Nat × Nat × Nat × Nat) := [(0, 11, 14, 19), (0, 11, 18, 24)]
theorem zw_L_mono : zSW yL_mono cL_mono 5 (some .int) hL_mono := ⟨tb2 (List.mem_of_getElem? (i := 17) rfl), tb1 (List.mem_of_getElem? (i := 0) rfl), tb2 (List.mem_of_getElem? (i := 18) rfl)⟩
def hL_digit : List (Nat × Nat × Nat × Nat) := [(0, 20, 23, 19), (0, 20, 27, 24)]
theorem zw_L_digit : zSW yL_digit cL_digit 6 (some .int) hL_digit := ⟨tb2 (List.mem_of_getElem? (i := 26) rfl), tb1 (List.mem_of_getElem? (i := 0) rfl), tb2 (List.mem_of_getElem? (i := 27) rfl)⟩
def hL_flip : List (Nat × Nat × Nat × Nat) := [(0, 18, 21, 19), (0, 18, 25, 24)]
theorem zw_L_flip : zSW yL_flip cL_flip 5 (some .int) hL_flip := ⟨tb2 (List.mem_of_getElem? (i := 35) rfl), tb1 (List.mem_of_getElem? (i := 0) rfl), tb2 (List.mem_of_getElem? (i := 36) rfl)⟩
def hL_copy : List (Nat × Nat × Nat × Nat) := [(0, 11, 14, 19)]
theorem zw_L_copy : zSW yL_copy cL_copy 5 (some .int) hL_copy := ⟨tb2 (List.mem_of_getElem? (i := 42) rfl), tb1 (List.mem_of_getElem? (i := 0) rfl), tb2 (List.mem_of_getElem? (i := 43) rfl)⟩
def hL_swap : List (Nat × Nat × Nat × Nat) := [(0, 11, 14, 19)]
theorem zw_L_swap : zSW yL_swap cL_swap 5 (some .int) hL_swap := ⟨tb2 (List.mem_of_getElem? (i := 49) rfl), tb1 (List.mem_of_getElem? (i := 0) rfl), tb2 (List.mem_of_getElem? (i := 50) rfl)⟩
def hL_end : List (Nat × Nat × Nat × Nat) := [(0, 15, 18, 19)]
theorem zw_L_end : zSW yL_end cL_end 7 (some .int) hL_end := ⟨tb2 (List.mem_of_getElem? (i := 56) rfl), tb1 (List.mem_of_getElem? (i := 0) rfl), tb2 (List.mem_of_getElem? (i := 57) rfl)⟩
def hL_join : List (Nat × Nat × Nat × Nat) := [(0, 15, 18, 19), (0, 15, 22, 24)]
theorem zw_L_join : zSW yL_join cL_join 7 (some .int) hL_join := ⟨tb2 (List.mem_of_getElem? (i := 69) rfl), tb1 (List.mem_of_getElem? (i := 0) rfl), tb2 (List.mem_of_getElem? (i := 70) rfl)⟩
def hL_times : List (Nat × Nat × Nat × Nat) := [(0, 13, 16, 19)]
theorem zw_L_times : zSW yL_times cL_times 6 (some .int) hL_times := ⟨tb2 (List.mem_of_getElem? (i := 80) rfl), tb1 (List.mem_of_getElem? (i := 0) rfl), tb2 (List.mem_of_getElem? (i := 81) rfl)⟩
def hL_square : List (Nat × Nat × Nat × Nat) := [(0, 11, 14, 19)]
theorem zw_L_square : zSW yL_square cL_square 5 (some .int) hL_square := ⟨tb2 (List.mem_of_getElem? (i := 95) rfl), tb1 (List.mem_of_getElem? (i := 0) rfl), tb2 (List.mem_of_getElem? (i := 96) rfl)⟩
def hL_shift : List (Nat × Nat × Nat × Nat) := [(0, 13, 16, 19), (0, 13, 20, 24)]
theorem zw_L_shift : zSW yL_shift cL_shift 6 (some .int) hL_shift := ⟨tb2 (List.mem_of_getElem? (i := 102) rfl), tb1 (List.mem_of_getElem? (i := 0) rfl), tb2 (List.mem_of_getElem? (i := 103) rfl)⟩
def hL_quotient : List (Nat × Nat × Nat × Nat) := [(0, 13, 16, 19)]
theorem zw_L_quotient : zSW yL_quotient cL_quotient 6 (some .int) hL_quotient := ⟨tb2 (List.mem_of_getElem? (i := 109) rfl), tb1 (List.mem_of_getElem? (i := 0) rfl), tb2 (List.mem_of_getElem? (i := 110) rfl)⟩
def hL_rest : List (Nat × Nat × Nat × Nat) := [(0, 13, 16, 19)]
theorem zw_L_rest : zSW yL_rest cL_rest 6 (some .int) hL_rest := ⟨tb2 (List.mem_of_getElem? (i := 117) rfl), tb1 (List.mem_of_getElem? (i := 0) rfl), tb2 (List.mem_of_getElem? (i := 118) rfl)⟩
def hL_gcd : List (Nat × Nat × Nat × Nat) := [(0, 13, 16, 19)]
theorem zw_L_gcd : zSW yL_gcd cL_gcd 6 (some .int) hL_gcd := ⟨tb2 (List.mem_of_getElem? (i := 127) rfl), tb1 (List.mem_of_getElem? (i := 0) rfl), tb2 (List.mem_of_getElem? (i := 128) rfl)⟩
def hL_lcm : List (Nat × Nat × Nat × Nat) := [(0, 13, 16, 19)]
theorem zw_L_lcm : zSW yL_lcm cL_lcm 6 (some .int) hL_lcm := ⟨tb2 (List.mem_of_getElem? (i := 134) rfl), tb1 (List.mem_of_getElem? (i := 0) rfl), tb2 (List.mem_of_getElem? (i := 135) rfl)⟩
def hL_bezout : List (Nat × Nat × Nat × Nat) := [(0, 15, 18, 19)]
theorem zw_L_bezout : zSW yL_bezout cL_bezout 7 (some .int) hL_bezout := ⟨tb2 (List.mem_of_getElem? (i := 141) rfl), tb1 (List.mem_of_getElem? (i := 0) rfl), tb2 (List.mem_of_getElem? (i := 142) rfl)⟩
def hL_derive : List (Nat × Nat × Nat × Nat) := [(0, 11, 14, 19)]
theorem zw_L_derive : zSW yL_derive cL_derive 5 (some .int) hL_derive := ⟨tb2 (List.mem_of_getElem? (i := 148) rfl), tb1 (List.mem_of_getElem? (i := 0) rfl), tb2 (List.mem_of_getElem? (i := 149) rfl)⟩
def hL_root : List (Nat × Nat × Nat × Nat) := [(0, 11, 14, 19)]
theorem zw_L_root : zSW yL_root cL_root 5 (some .int) hL_root := ⟨tb2 (List.mem_of_getElem? (i := 159) rfl), tb1 (List.mem_of_getElem? (i := 0) rfl), tb2 (List.mem_of_getElem? (i := 160) rfl)⟩
def hL_turn : List (Nat × Nat × Nat × Nat) := [(0, 11, 14, 19)]
theorem zw_L_turn : zSW yL_turn cL_turn 5 (some .int) hL_turn := ⟨tb2 (List.mem_of_getElem? (i := 169) rfl), tb1 (List.mem_of_getElem? (i := 0) rfl), tb2 (List.mem_of_getElem? (i := 170) rfl)⟩
def hL_move : List (Nat × Nat × Nat × Nat) := [(0, 11, 14, 19)]
theorem zw_L_move : zSW yL_move cL_move 5 (some .int) hL_move := ⟨tb2 (List.mem_of_getElem? (i := 179) rfl), tb1 (List.mem_of_getElem? (i := 0) rfl), tb2 (List.mem_of_getElem? (i := 180) rfl)⟩
def hL_power : List (Nat × Nat × Nat × Nat) := [(0, 15, 18, 19), (0, 15, 22, 24)]
theorem zw_L_power : zSW yL_power cL_power 7 (some .int) hL_power := ⟨tb2 (List.mem_of_getElem? (i := 189) rfl), tb1 (List.mem_of_getElem? (i := 0) rfl), tb2 (List.mem_of_getElem? (i := 190) rfl)⟩
def hL_nth : List (Nat × Nat × Nat × Nat) := [(0, 13, 16, 19), (0, 13, 20, 24)]
theorem zw_L_nth : zSW yL_nth cL_nth 6 (some .int) hL_nth := ⟨tb2 (List.mem_of_getElem? (i := 203) rfl), tb1 (List.mem_of_getElem? (i := 0) rfl), tb2 (List.mem_of_getElem? (i := 204) rfl)⟩
def hL_field : List (Nat × Nat × Nat × Nat) := [(0, 11, 14, 19), (0, 11, 18, 24)]
theorem zw_L_field : zSW yL_field cL_field 5 (some .int) hL_field := ⟨tb2 (List.mem_of_getElem? (i := 222) rfl), tb1 (List.mem_of_getElem? (i := 0) rfl), tb2 (List.mem_of_getElem? (i := 223) rfl)⟩
def hL_again : List (Nat × Nat × Nat × Nat) := [(0, 13, 16, 19), (0, 13, 20, 24)]
theorem zw_L_again : zSW yL_again cL_again 6 (some .int) hL_again := ⟨tb2 (List.mem_of_getElem? (i := 236) rfl), tb1 (List.mem_of_getElem? (i := 0) rfl), tb2 (List.mem_of_getElem? (i := 237) rfl)⟩
def hL_degree : List (Nat × Nat × Nat × Nat) := [(0, 10, 13, 19)]
theorem zw_L_degree : zSW yL_degree cL_degree 4 (some .int) hL_degree := ⟨tb3 (List.mem_of_getElem? (i := 3) rfl), tb1 (List.mem_of_getElem? (i := 0) rfl), tb3 (List.mem_of_getElem? (i := 4) rfl)⟩
def hL_low : List (Nat × Nat × Nat × Nat) := [(0, 10, 13, 19)]
theorem zw_L_low : zSW yL_low cL_low 4 (some .int) hL_low := ⟨tb3 (List.mem_of_getElem? (i := 7) rfl), tb1 (List.mem_of_getElem? (i := 0) rfl), tb3 (List.mem_of_getElem? (i := 8) rfl)⟩
def hL_weight : List (Nat × Nat × Nat × Nat) := [(0, 10, 13, 19)]
theorem zw_L_weight : zSW yL_weight cL_weight 4 (some .int) hL_weight := ⟨tb3 (List.mem_of_getElem? (i := 11) rfl), tb1 (List.mem_of_getElem? (i := 0) rfl), tb3 (List.mem_of_getElem? (i := 12) rfl)⟩
def hL_at : List (Nat × Nat × Nat × Nat) := [(0, 18, 21, 19), (0, 18, 25, 24)]
theorem zw_L_at : zSW yL_at cL_at 5 (some .int) hL_at := ⟨tb3 (List.mem_of_getElem? (i := 15) rfl), tb1 (List.mem_of_getElem? (i := 0) rfl), tb3 (List.mem_of_getElem? (i := 16) rfl)⟩
def hL_digits : List (Nat × Nat × Nat × Nat) := [(0, 10, 13, 19)]
theorem zw_L_digits : zSW yL_digits cL_digits 4 (some .int) hL_digits := ⟨tb3 (List.mem_of_getElem? (i := 22) rfl), tb1 (List.mem_of_getElem? (i := 0) rfl), tb3 (List.mem_of_getElem? (i := 23) rfl)⟩
def hL_text : List (Nat × Nat × Nat × Nat) := [(0, 9, 12, 19)]
theorem zw_L_text : zSW yL_text cL_text 4 (some .int) hL_text := ⟨tb3 (List.mem_of_getElem? (i := 26) rfl), tb1 (List.mem_of_getElem? (i := 0) rfl), tb3 (List.mem_of_getElem? (i := 27) rfl)⟩
def hL_code : List (Nat × Nat × Nat × Nat) := [(0, 10, 13, 19), (0, 10, 17, 24)]
theorem zw_L_code : zSW yL_code cL_code 5 (some .int) hL_code := ⟨tb4 (List.mem_of_getElem? (i := 64) rfl), tb1 (List.mem_of_getElem? (i := 0) rfl), tb4 (List.mem_of_getElem? (i := 65) rfl)⟩
def hL_order : List (Nat × Nat × Nat × Nat) := [(0, 11, 14, 19)]
theorem zw_L_order : zSW yL_order cL_order 5 (some .int) hL_order := ⟨tb4 (List.mem_of_getElem? (i := 109) rfl), tb1 (List.mem_of_getElem? (i := 0) rfl), tb4 (List.mem_of_getElem? (i := 110) rfl)⟩
def hL_isSame : List (Nat × Nat × Nat × Nat) := [(0, 18, 21, 19)]
theorem zw_L_isSame : zSW yL_isSame cL_isSame 5 (some .int) hL_isSame := ⟨tb4 (List.mem_of_getElem? (i := 113) rfl), tb1 (List.mem_of_getElem? (i := 0) rfl), tb4 (List.mem_of_getElem? (i := 114) rfl)⟩
def hL_value : List (Nat × Nat × Nat × Nat) := [(0, 11, 14, 19)]
theorem zw_L_value : zSW yL_value cL_value 5 (some .int) hL_value := ⟨tb4 (List.mem_of_getElem? (i := 120) rfl), tb1 (List.mem_of_getElem? (i := 0) rfl), tb4 (List.mem_of_getElem? (i := 121) rfl)⟩
def hL_divides : List (Nat × Nat × Nat × Nat) := [(0, 18, 21, 19)]
theorem zw_L_divides : zSW yL_divides cL_divides 5 (some .int) hL_divides := ⟨tb4 (List.mem_of_getElem? (i := 127) rfl), tb1 (List.mem_of_getElem? (i := 0) rfl), tb4 (List.mem_of_getElem? (i := 128) rfl)⟩
def hL_isFree : List (Nat × Nat × Nat × Nat) := [(0, 17, 20, 19)]
theorem zw_L_isFree : zSW yL_isFree cL_isFree 4 (some .int) hL_isFree := ⟨tb4 (List.mem_of_getElem? (i := 135) rfl), tb1 (List.mem_of_getElem? (i := 0) rfl), tb4 (List.mem_of_getElem? (i := 136) rfl)⟩
def hL_irreducible : List (Nat × Nat × Nat × Nat) := [(0, 10, 13, 19)]
theorem zw_L_irreducible : zSW yL_irreducible cL_irreducible 4 (some .int) hL_irreducible := ⟨tb4 (List.mem_of_getElem? (i := 142) rfl), tb1 (List.mem_of_getElem? (i := 0) rfl), tb4 (List.mem_of_getElem? (i := 143) rfl)⟩
def hL_rank : List (Nat × Nat × Nat × Nat) := [(0, 10, 13, 19)]
theorem zw_L_rank : zSW yL_rank cL_rank 4 (some .int) hL_rank := ⟨tb4 (List.mem_of_getElem? (i := 150) rfl), tb1 (List.mem_of_getElem? (i := 0) rfl), tb4 (List.mem_of_getElem? (i := 151) rfl)⟩
def hL_factors : List (Nat × Nat × Nat × Nat) := [(0, 9, 12, 19)]
theorem zw_L_factors : zSW yL_factors cL_factors 4 (some .int) hL_factors := ⟨tb4 (List.mem_of_getElem? (i := 160) rfl), tb1 (List.mem_of_getElem? (i := 0) rfl), tb4 (List.mem_of_getElem? (i := 161) rfl)⟩
def hL_period : List (Nat × Nat × Nat × Nat) := [(0, 10, 13, 19)]
theorem zw_L_period : zSW yL_period cL_period 4 (some .int) hL_period := ⟨tb4 (List.mem_of_getElem? (i := 178) rfl), tb1 (List.mem_of_getElem? (i := 0) rfl), tb4 (List.mem_of_getElem? (i := 179) rfl)⟩
def hL_many : List (Nat × Nat × Nat × Nat) := [(0, 10, 13, 24)]
theorem zw_L_many : zSW yL_many cL_many 4 (some .int) hL_many := ⟨tb4 (List.mem_of_getElem? (i := 189) rfl), tb1 (List.mem_of_getElem? (i := 0) rfl), tb4 (List.mem_of_getElem? (i := 190) rfl)⟩
def hL_formula : List (Nat × Nat × Nat × Nat) := [(0, 10, 13, 24)]
theorem zw_L_formula : zSW yL_formula cL_formula 4 (some .int) hL_formula := ⟨tb4 (List.mem_of_getElem? (i := 196) rfl), tb1 (List.mem_of_getElem? (i := 0) rfl), tb4 (List.mem_of_getElem? (i := 197) rfl)⟩
def hL_find : List (Nat × Nat × Nat × Nat) := [(0, 11, 14, 19)]
theorem zw_L_find : zSW yL_find cL_find 5 (some .int) hL_find := ⟨tb4 (List.mem_of_getElem? (i := 209) rfl), tb1 (List.mem_of_getElem? (i := 0) rfl), tb4 (List.mem_of_getElem? (i := 210) rfl)⟩
def hL_house : List (Nat × Nat × Nat × Nat) := [(0, 10, 13, 24)]
theorem zw_L_house : zSW yL_house cL_house 4 (some .int) hL_house := ⟨tb4 (List.mem_of_getElem? (i := 213) rfl), tb1 (List.mem_of_getElem? (i := 0) rfl), tb4 (List.mem_of_getElem? (i := 214) rfl)⟩
theorem wtL_put_0 : dwcj cL_put 0 [(0, .aload_n 3, 1), (1, .aload_n 0, 1), (2, .iload_n 1, 1), (3, .iload_n 2, 1), (4, .invokevirtual 7, 3), (7, .i2l, 1), (8, .putfield 13, 3), (11, .goto 7, 3), (14, .astore 4, 2), (16, .iconst 1, 1), (17, .ireturn, 1), (18, .iconst 0, 1), (19, .ireturn, 1)] := dw_all (l := [45, 42, 27, 28, 182, 0, 7, 133, 181, 0, 13, 167, 0, 7, 58, 4, 4, 172, 3, 172]) (by decide +kernel)
theorem dL_put_0 : decode cL_put 0 = .ok (.aload_n 3, 1) := wtL_put_0.1
theorem dL_put_1 : decode cL_put 1 = .ok (.aload_n 0, 1) := wtL_put_0.2.1
theorem dL_put_2 : decode cL_put 2 = .ok (.iload_n 1, 1) := wtL_put_0.2.2.1
theorem dL_put_3 : decode cL_put 3 = .ok (.iload_n 2, 1) := wtL_put_0.2.2.2.1
theorem dL_put_4 : decode cL_put 4 = .ok (.invokevirtual 7, 3) := wtL_put_0.2.2.2.2.1
theorem dL_put_7 : decode cL_put 7 = .ok (.i2l, 1) := wtL_put_0.2.2.2.2.2.1
theorem dL_put_8 : decode cL_put 8 = .ok (.putfield 13, 3) := wtL_put_0.2.2.2.2.2.2.1
theorem dL_put_11 : decode cL_put 11 = .ok (.goto 7, 3) := wtL_put_0.2.2.2.2.2.2.2.1
theorem dL_put_14 : decode cL_put 14 = .ok (.astore 4, 2) := wtL_put_0.2.2.2.2.2.2.2.2.1
theorem dL_put_16 : decode cL_put 16 = .ok (.iconst 1, 1) := wtL_put_0.2.2.2.2.2.2.2.2.2.1
theorem dL_put_17 : decode cL_put 17 = .ok (.ireturn, 1) := wtL_put_0.2.2.2.2.2.2.2.2.2.2.1
theorem dL_put_18 : decode cL_put 18 = .ok (.iconst 0, 1) := wtL_put_0.2.2.2.2.2.2.2.2.2.2.2.1
theorem dL_put_19 : decode cL_put 19 = .ok (.ireturn, 1) := wtL_put_0.2.2.2.2.2.2.2.2.2.2.2.2.1
theorem wtL_mono_0 : dwcj cL_mono 0 [(0, .aload_n 3, 1), (1, .aload_n 0, 1), (2, .iload_n 1, 1), (3, .iload_n 2, 1), (4, .invokevirtual 21, 3), (7, .i2l, 1), (8, .putfield 13, 3), (11, .goto 11, 3), (14, .astore 4, 2), (16, .iconst 1, 1), (17, .ireturn, 1), (18, .astore 4, 2), (20, .iconst 2, 1), (21, .ireturn, 1), (22, .iconst 0, 1), (23, .ireturn, 1)] := dw_all (l := [45, 42, 27, 28, 182, 0, 21, 133, 181, 0, 13, 167, 0, 11, 58, 4, 4, 172, 58, 4, 5, 172, 3, 172]) (by decide +kernel)
theorem dL_mono_0 : decode cL_mono 0 = .ok (.aload_n 3, 1) := wtL_mono_0.1
theorem dL_mono_1 : decode cL_mono 1 = .ok (.aload_n 0, 1) := wtL_mono_0.2.1
theorem dL_mono_2 : decode cL_mono 2 = .ok (.iload_n 1, 1) := wtL_mono_0.2.2.1
theorem dL_mono_3 : decode cL_mono 3 = .ok (.iload_n 2, 1) := wtL_mono_0.2.2.2.1
theorem dL_mono_4 : decode cL_mono 4 = .ok (.invokevirtual 21, 3) := wtL_mono_0.2.2.2.2.1
theorem dL_mono_7 : decode cL_mono 7 = .ok (.i2l, 1) := wtL_mono_0.2.2.2.2.2.1
theorem dL_mono_8 : decode cL_mono 8 = .ok (.putfield 13, 3) := wtL_mono_0.2.2.2.2.2.2.1
theorem dL_mono_11 : decode cL_mono 11 = .ok (.goto 11, 3) := wtL_mono_0.2.2.2.2.2.2.2.1
theorem dL_mono_14 : decode cL_mono 14 = .ok (.astore 4, 2) := wtL_mono_0.2.2.2.2.2.2.2.2.1
theorem dL_mono_16 : decode cL_mono 16 = .ok (.iconst 1, 1) := wtL_mono_0.2.2.2.2.2.2.2.2.2.1
theorem dL_mono_17 : decode cL_mono 17 = .ok (.ireturn, 1) := wtL_mono_0.2.2.2.2.2.2.2.2.2.2.1
theorem dL_mono_18 : decode cL_mono 18 = .ok (.astore 4, 2) := wtL_mono_0.2.2.2.2.2.2.2.2.2.2.2.1
theorem dL_mono_20 : decode cL_mono 20 = .ok (.iconst 2, 1) := wtL_mono_0.2.2.2.2.2.2.2.2.2.2.2.2.1
theorem dL_mono_21 : decode cL_mono 21 = .ok (.ireturn, 1) := wtL_mono_0.2.2.2.2.2.2.2.2.2.2.2.2.2.1
theorem dL_mono_22 : decode cL_mono 22 = .ok (.iconst 0, 1) := wtL_mono_0.2.2.2.2.2.2.2.2.2.2.2.2.2.2.1
theorem dL_mono_23 : decode cL_mono 23 = .ok (.ireturn, 1) := wtL_mono_0.2.2.2.2.2.2.2.2.2.2.2.2.2.2.2.1
theorem wtL_digit_0 : dwcj cL_digit 0 [(0, .aload 4, 2), (2, .aload_n 0, 1), (3, .iload_n 1, 1), (4, .iload_n 2, 1), (5, .iload_n 3, 1), (6, .invokevirtual 26, 3), (9, .ifCond .eq 7, 3), (12, .lconst 1, 1), (13, .goto 4, 3), (16, .lconst 0, 1), (17, .putfield 13, 3), (20, .goto 11, 3), (23, .astore 5, 2)] := dw_all (l := [25, 4, 42, 27, 28, 29, 182, 0, 26, 153, 0, 7, 10, 167, 0, 4, 9, 181, 0, 13, 167, 0, 11, 58, 5]) (by decide +kernel)
theorem dL_digit_0 : decode cL_digit 0 = .ok (.aload 4, 2) := wtL_digit_0.1
theorem dL_digit_2 : decode cL_digit 2 = .ok (.aload_n 0, 1) := wtL_digit_0.2.1
theorem dL_digit_3 : decode cL_digit 3 = .ok (.iload_n 1, 1) := wtL_digit_0.2.2.1
theorem dL_digit_4 : decode cL_digit 4 = .ok (.iload_n 2, 1) := wtL_digit_0.2.2.2.1
theorem dL_digit_5 : decode cL_digit 5 = .ok (.iload_n 3, 1) := wtL_digit_0.2.2.2.2.1
theorem dL_digit_6 : decode cL_digit 6 = .ok (.invokevirtual 26, 3) := wtL_digit_0.2.2.2.2.2.1
theorem dL_digit_9 : decode cL_digit 9 = .ok (.ifCond .eq 7, 3) := wtL_digit_0.2.2.2.2.2.2.1
theorem dL_digit_12 : decode cL_digit 12 = .ok (.lconst 1, 1) := wtL_digit_0.2.2.2.2.2.2.2.1
theorem dL_digit_13 : decode cL_digit 13 = .ok (.goto 4, 3) := wtL_digit_0.2.2.2.2.2.2.2.2.1
theorem dL_digit_16 : decode cL_digit 16 = .ok (.lconst 0, 1) := wtL_digit_0.2.2.2.2.2.2.2.2.2.1
theorem dL_digit_17 : decode cL_digit 17 = .ok (.putfield 13, 3) := wtL_digit_0.2.2.2.2.2.2.2.2.2.2.1
theorem dL_digit_20 : decode cL_digit 20 = .ok (.goto 11, 3) := wtL_digit_0.2.2.2.2.2.2.2.2.2.2.2.1
theorem dL_digit_23 : decode cL_digit 23 = .ok (.astore 5, 2) := wtL_digit_0.2.2.2.2.2.2.2.2.2.2.2.2.1
theorem wtL_digit_25 : dwcj cL_digit 25 [(0, .iconst 1, 1), (1, .ireturn, 1), (2, .astore 5, 2), (4, .iconst 2, 1), (5, .ireturn, 1), (6, .iconst 0, 1), (7, .ireturn, 1)] := dw_all (l := [4, 172, 58, 5, 5, 172, 3, 172]) (by decide +kernel)
theorem dL_digit_25 : decode cL_digit 25 = .ok (.iconst 1, 1) := wtL_digit_25.1
theorem dL_digit_26 : decode cL_digit 26 = .ok (.ireturn, 1) := wtL_digit_25.2.1
theorem dL_digit_27 : decode cL_digit 27 = .ok (.astore 5, 2) := wtL_digit_25.2.2.1
theorem dL_digit_29 : decode cL_digit 29 = .ok (.iconst 2, 1) := wtL_digit_25.2.2.2.1
theorem dL_digit_30 : decode cL_digit 30 = .ok (.ireturn, 1) := wtL_digit_25.2.2.2.2.1
theorem dL_digit_31 : decode cL_digit 31 = .ok (.iconst 0, 1) := wtL_digit_25.2.2.2.2.2.1
theorem dL_digit_32 : decode cL_digit 32 = .ok (.ireturn, 1) := wtL_digit_25.2.2.2.2.2.2.1
theorem wtL_flip_0 : dwcj cL_flip 0 [(0, .aload_n 3, 1), (1, .aload_n 0, 1), (2, .iload_n 1, 1), (3, .iload_n 2, 1), (4, .invokevirtual 30, 3), (7, .ifCond .eq 7, 3), (10, .lconst 1, 1), (11, .goto 4, 3), (14, .lconst 0, 1), (15, .putfield 13, 3), (18, .goto 11, 3), (21, .astore 4, 2), (23, .iconst 1, 1)] := dw_all (l := [45, 42, 27, 28, 182, 0, 30, 153, 0, 7, 10, 167, 0, 4, 9, 181, 0, 13, 167, 0, 11, 58, 4, 4]) (by decide +kernel)
theorem dL_flip_0 : decode cL_flip 0 = .ok (.aload_n 3, 1) := wtL_flip_0.1
theorem dL_flip_1 : decode cL_flip 1 = .ok (.aload_n 0, 1) := wtL_flip_0.2.1
theorem dL_flip_2 : decode cL_flip 2 = .ok (.iload_n 1, 1) := wtL_flip_0.2.2.1
theorem dL_flip_3 : decode cL_flip 3 = .ok (.iload_n 2, 1) := wtL_flip_0.2.2.2.1
theorem dL_flip_4 : decode cL_flip 4 = .ok (.invokevirtual 30, 3) := wtL_flip_0.2.2.2.2.1
theorem dL_flip_7 : decode cL_flip 7 = .ok (.ifCond .eq 7, 3) := wtL_flip_0.2.2.2.2.2.1
theorem dL_flip_10 : decode cL_flip 10 = .ok (.lconst 1, 1) := wtL_flip_0.2.2.2.2.2.2.1
theorem dL_flip_11 : decode cL_flip 11 = .ok (.goto 4, 3) := wtL_flip_0.2.2.2.2.2.2.2.1
theorem dL_flip_14 : decode cL_flip 14 = .ok (.lconst 0, 1) := wtL_flip_0.2.2.2.2.2.2.2.2.1
theorem dL_flip_15 : decode cL_flip 15 = .ok (.putfield 13, 3) := wtL_flip_0.2.2.2.2.2.2.2.2.2.1
theorem dL_flip_18 : decode cL_flip 18 = .ok (.goto 11, 3) := wtL_flip_0.2.2.2.2.2.2.2.2.2.2.1
theorem dL_flip_21 : decode cL_flip 21 = .ok (.astore 4, 2) := wtL_flip_0.2.2.2.2.2.2.2.2.2.2.2.1
theorem dL_flip_23 : decode cL_flip 23 = .ok (.iconst 1, 1) := wtL_flip_0.2.2.2.2.2.2.2.2.2.2.2.2.1
theorem wtL_flip_24 : dwcj cL_flip 24 [(0, .ireturn, 1), (1, .astore 4, 2), (3, .iconst 2, 1), (4, .ireturn, 1), (5, .iconst 0, 1), (6, .ireturn, 1)] := dw_all (l := [172, 58, 4, 5, 172, 3, 172]) (by decide +kernel)
theorem dL_flip_24 : decode cL_flip 24 = .ok (.ireturn, 1) := wtL_flip_24.1
theorem dL_flip_25 : decode cL_flip 25 = .ok (.astore 4, 2) := wtL_flip_24.2.1
theorem dL_flip_27 : decode cL_flip 27 = .ok (.iconst 2, 1) := wtL_flip_24.2.2.1
theorem dL_flip_28 : decode cL_flip 28 = .ok (.ireturn, 1) := wtL_flip_24.2.2.2.1
theorem dL_flip_29 : decode cL_flip 29 = .ok (.iconst 0, 1) := wtL_flip_24.2.2.2.2.1
theorem dL_flip_30 : decode cL_flip 30 = .ok (.ireturn, 1) := wtL_flip_24.2.2.2.2.2.1
theorem wtL_copy_0 : dwcj cL_copy 0 [(0, .aload_n 3, 1), (1, .aload_n 0, 1), (2, .iload_n 1, 1), (3, .iload_n 2, 1), (4, .invokevirtual 34, 3), (7, .i2l, 1), (8, .putfield 13, 3), (11, .goto 7, 3), (14, .astore 4, 2), (16, .iconst 1, 1), (17, .ireturn, 1), (18, .iconst 0, 1), (19, .ireturn, 1)] := dw_all (l := [45, 42, 27, 28, 182, 0, 34, 133, 181, 0, 13, 167, 0, 7, 58, 4, 4, 172, 3, 172]) (by decide +kernel)
theorem dL_copy_0 : decode cL_copy 0 = .ok (.aload_n 3, 1) := wtL_copy_0.1
theorem dL_copy_1 : decode cL_copy 1 = .ok (.aload_n 0, 1) := wtL_copy_0.2.1
theorem dL_copy_2 : decode cL_copy 2 = .ok (.iload_n 1, 1) := wtL_copy_0.2.2.1
theorem dL_copy_3 : decode cL_copy 3 = .ok (.iload_n 2, 1) := wtL_copy_0.2.2.2.1
theorem dL_copy_4 : decode cL_copy 4 = .ok (.invokevirtual 34, 3) := wtL_copy_0.2.2.2.2.1
theorem dL_copy_7 : decode cL_copy 7 = .ok (.i2l, 1) := wtL_copy_0.2.2.2.2.2.1
theorem dL_copy_8 : decode cL_copy 8 = .ok (.putfield 13, 3) := wtL_copy_0.2.2.2.2.2.2.1
theorem dL_copy_11 : decode cL_copy 11 = .ok (.goto 7, 3) := wtL_copy_0.2.2.2.2.2.2.2.1
theorem dL_copy_14 : decode cL_copy 14 = .ok (.astore 4, 2) := wtL_copy_0.2.2.2.2.2.2.2.2.1
theorem dL_copy_16 : decode cL_copy 16 = .ok (.iconst 1, 1) := wtL_copy_0.2.2.2.2.2.2.2.2.2.1
theorem dL_copy_17 : decode cL_copy 17 = .ok (.ireturn, 1) := wtL_copy_0.2.2.2.2.2.2.2.2.2.2.1
theorem dL_copy_18 : decode cL_copy 18 = .ok (.iconst 0, 1) := wtL_copy_0.2.2.2.2.2.2.2.2.2.2.2.1
theorem dL_copy_19 : decode cL_copy 19 = .ok (.ireturn, 1) := wtL_copy_0.2.2.2.2.2.2.2.2.2.2.2.2.1
theorem wtL_swap_0 : dwcj cL_swap 0 [(0, .aload_n 3, 1), (1, .aload_n 0, 1), (2, .iload_n 1, 1), (3, .iload_n 2, 1), (4, .invokevirtual 37, 3), (7, .i2l, 1), (8, .putfield 13, 3), (11, .goto 7, 3), (14, .astore 4, 2), (16, .iconst 1, 1), (17, .ireturn, 1), (18, .iconst 0, 1), (19, .ireturn, 1)] := dw_all (l := [45, 42, 27, 28, 182, 0, 37, 133, 181, 0, 13, 167, 0, 7, 58, 4, 4, 172, 3, 172]) (by decide +kernel)
theorem dL_swap_0 : decode cL_swap 0 = .ok (.aload_n 3, 1) := wtL_swap_0.1
theorem dL_swap_1 : decode cL_swap 1 = .ok (.aload_n 0, 1) := wtL_swap_0.2.1
theorem dL_swap_2 : decode cL_swap 2 = .ok (.iload_n 1, 1) := wtL_swap_0.2.2.1
theorem dL_swap_3 : decode cL_swap 3 = .ok (.iload_n 2, 1) := wtL_swap_0.2.2.2.1
theorem dL_swap_4 : decode cL_swap 4 = .ok (.invokevirtual 37, 3) := wtL_swap_0.2.2.2.2.1
theorem dL_swap_7 : decode cL_swap 7 = .ok (.i2l, 1) := wtL_swap_0.2.2.2.2.2.1
theorem dL_swap_8 : decode cL_swap 8 = .ok (.putfield 13, 3) := wtL_swap_0.2.2.2.2.2.2.1
theorem dL_swap_11 : decode cL_swap 11 = .ok (.goto 7, 3) := wtL_swap_0.2.2.2.2.2.2.2.1
theorem dL_swap_14 : decode cL_swap 14 = .ok (.astore 4, 2) := wtL_swap_0.2.2.2.2.2.2.2.2.1
theorem dL_swap_16 : decode cL_swap 16 = .ok (.iconst 1, 1) := wtL_swap_0.2.2.2.2.2.2.2.2.2.1
theorem dL_swap_17 : decode cL_swap 17 = .ok (.ireturn, 1) := wtL_swap_0.2.2.2.2.2.2.2.2.2.2.1
theorem dL_swap_18 : decode cL_swap 18 = .ok (.iconst 0, 1) := wtL_swap_0.2.2.2.2.2.2.2.2.2.2.2.1
theorem dL_swap_19 : decode cL_swap 19 = .ok (.ireturn, 1) := wtL_swap_0.2.2.2.2.2.2.2.2.2.2.2.2.1
theorem wtL_end_0 : dwcj cL_end 0 [(0, .aload 5, 2), (2, .aload_n 0, 1), (3, .iload_n 1, 1), (4, .iload_n 2, 1), (5, .iload_n 3, 1), (6, .iload 4, 2), (8, .invokevirtual 40, 3), (11, .i2l, 1), (12, .putfield 13, 3), (15, .goto 7, 3), (18, .astore 6, 2), (20, .iconst 1, 1), (21, .ireturn, 1), (22, .iconst 0, 1), (23, .ireturn, 1)] := dw_all (l := [25, 5, 42, 27, 28, 29, 21, 4, 182, 0, 40, 133, 181, 0, 13, 167, 0, 7, 58, 6, 4, 172, 3, 172]) (by decide +kernel)
theorem dL_end_0 : decode cL_end 0 = .ok (.aload 5, 2) := wtL_end_0.1
theorem dL_end_2 : decode cL_end 2 = .ok (.aload_n 0, 1) := wtL_end_0.2.1
theorem dL_end_3 : decode cL_end 3 = .ok (.iload_n 1, 1) := wtL_end_0.2.2.1
theorem dL_end_4 : decode cL_end 4 = .ok (.iload_n 2, 1) := wtL_end_0.2.2.2.1
theorem dL_end_5 : decode cL_end 5 = .ok (.iload_n 3, 1) := wtL_end_0.2.2.2.2.1
theorem dL_end_6 : decode cL_end 6 = .ok (.iload 4, 2) := wtL_end_0.2.2.2.2.2.1
theorem dL_end_8 : decode cL_end 8 = .ok (.invokevirtual 40, 3) := wtL_end_0.2.2.2.2.2.2.1
theorem dL_end_11 : decode cL_end 11 = .ok (.i2l, 1) := wtL_end_0.2.2.2.2.2.2.2.1
theorem dL_end_12 : decode cL_end 12 = .ok (.putfield 13, 3) := wtL_end_0.2.2.2.2.2.2.2.2.1
theorem dL_end_15 : decode cL_end 15 = .ok (.goto 7, 3) := wtL_end_0.2.2.2.2.2.2.2.2.2.1
theorem dL_end_18 : decode cL_end 18 = .ok (.astore 6, 2) := wtL_end_0.2.2.2.2.2.2.2.2.2.2.1
theorem dL_end_20 : decode cL_end 20 = .ok (.iconst 1, 1) := wtL_end_0.2.2.2.2.2.2.2.2.2.2.2.1
theorem dL_end_21 : decode cL_end 21 = .ok (.ireturn, 1) := wtL_end_0.2.2.2.2.2.2.2.2.2.2.2.2.1
theorem dL_end_22 : decode cL_end 22 = .ok (.iconst 0, 1) := wtL_end_0.2.2.2.2.2.2.2.2.2.2.2.2.2.1
theorem dL_end_23 : decode cL_end 23 = .ok (.ireturn, 1) := wtL_end_0.2.2.2.2.2.2.2.2.2.2.2.2.2.2.1
theorem wtL_join_0 : dwcj cL_join 0 [(0, .aload 5, 2), (2, .aload_n 0, 1), (3, .iload_n 1, 1), (4, .iload_n 2, 1), (5, .iload_n 3, 1), (6, .iload 4, 2), (8, .invokevirtual 44, 3), (11, .i2l, 1), (12, .putfield 13, 3), (15, .goto 11, 3), (18, .astore 6, 2), (20, .iconst 1, 1), (21, .ireturn, 1), (22, .astore 6, 2)] := dw_all (l := [25, 5, 42, 27, 28, 29, 21, 4, 182, 0, 44, 133, 181, 0, 13, 167, 0, 11, 58, 6, 4, 172, 58, 6]) (by decide +kernel)
theorem dL_join_0 : decode cL_join 0 = .ok (.aload 5, 2) := wtL_join_0.1
theorem dL_join_2 : decode cL_join 2 = .ok (.aload_n 0, 1) := wtL_join_0.2.1
theorem dL_join_3 : decode cL_join 3 = .ok (.iload_n 1, 1) := wtL_join_0.2.2.1
theorem dL_join_4 : decode cL_join 4 = .ok (.iload_n 2, 1) := wtL_join_0.2.2.2.1
theorem dL_join_5 : decode cL_join 5 = .ok (.iload_n 3, 1) := wtL_join_0.2.2.2.2.1
theorem dL_join_6 : decode cL_join 6 = .ok (.iload 4, 2) := wtL_join_0.2.2.2.2.2.1
theorem dL_join_8 : decode cL_join 8 = .ok (.invokevirtual 44, 3) := wtL_join_0.2.2.2.2.2.2.1
theorem dL_join_11 : decode cL_join 11 = .ok (.i2l, 1) := wtL_join_0.2.2.2.2.2.2.2.1
theorem dL_join_12 : decode cL_join 12 = .ok (.putfield 13, 3) := wtL_join_0.2.2.2.2.2.2.2.2.1
theorem dL_join_15 : decode cL_join 15 = .ok (.goto 11, 3) := wtL_join_0.2.2.2.2.2.2.2.2.2.1
theorem dL_join_18 : decode cL_join 18 = .ok (.astore 6, 2) := wtL_join_0.2.2.2.2.2.2.2.2.2.2.1
theorem dL_join_20 : decode cL_join 20 = .ok (.iconst 1, 1) := wtL_join_0.2.2.2.2.2.2.2.2.2.2.2.1
theorem dL_join_21 : decode cL_join 21 = .ok (.ireturn, 1) := wtL_join_0.2.2.2.2.2.2.2.2.2.2.2.2.1
theorem dL_join_22 : decode cL_join 22 = .ok (.astore 6, 2) := wtL_join_0.2.2.2.2.2.2.2.2.2.2.2.2.2.1
theorem wtL_join_24 : dwcj cL_join 24 [(0, .iconst 2, 1), (1, .ireturn, 1), (2, .iconst 0, 1), (3, .ireturn, 1)] := dw_all (l := [5, 172, 3, 172]) (by decide +kernel)
theorem dL_join_24 : decode cL_join 24 = .ok (.iconst 2, 1) := wtL_join_24.1
theorem dL_join_25 : decode cL_join 25 = .ok (.ireturn, 1) := wtL_join_24.2.1
theorem dL_join_26 : decode cL_join 26 = .ok (.iconst 0, 1) := wtL_join_24.2.2.1
theorem dL_join_27 : decode cL_join 27 = .ok (.ireturn, 1) := wtL_join_24.2.2.2.1
theorem wtL_times_0 : dwcj cL_times 0 [(0, .aload 4, 2), (2, .aload_n 0, 1), (3, .iload_n 1, 1), (4, .iload_n 2, 1), (5, .iload_n 3, 1), (6, .invokevirtual 48, 3), (9, .i2l, 1), (10, .putfield 13, 3), (13, .goto 7, 3), (16, .astore 5, 2), (18, .iconst 1, 1), (19, .ireturn, 1), (20, .iconst 0, 1), (21, .ireturn, 1)] := dw_all (l := [25, 4, 42, 27, 28, 29, 182, 0, 48, 133, 181, 0, 13, 167, 0, 7, 58, 5, 4, 172, 3, 172]) (by decide +kernel)
theorem dL_times_0 : decode cL_times 0 = .ok (.aload 4, 2) := wtL_times_0.1
theorem dL_times_2 : decode cL_times 2 = .ok (.aload_n 0, 1) := wtL_times_0.2.1
theorem dL_times_3 : decode cL_times 3 = .ok (.iload_n 1, 1) := wtL_times_0.2.2.1
theorem dL_times_4 : decode cL_times 4 = .ok (.iload_n 2, 1) := wtL_times_0.2.2.2.1
theorem dL_times_5 : decode cL_times 5 = .ok (.iload_n 3, 1) := wtL_times_0.2.2.2.2.1
theorem dL_times_6 : decode cL_times 6 = .ok (.invokevirtual 48, 3) := wtL_times_0.2.2.2.2.2.1
theorem dL_times_9 : decode cL_times 9 = .ok (.i2l, 1) := wtL_times_0.2.2.2.2.2.2.1
theorem dL_times_10 : decode cL_times 10 = .ok (.putfield 13, 3) := wtL_times_0.2.2.2.2.2.2.2.1
theorem dL_times_13 : decode cL_times 13 = .ok (.goto 7, 3) := wtL_times_0.2.2.2.2.2.2.2.2.1
theorem dL_times_16 : decode cL_times 16 = .ok (.astore 5, 2) := wtL_times_0.2.2.2.2.2.2.2.2.2.1
theorem dL_times_18 : decode cL_times 18 = .ok (.iconst 1, 1) := wtL_times_0.2.2.2.2.2.2.2.2.2.2.1
theorem dL_times_19 : decode cL_times 19 = .ok (.ireturn, 1) := wtL_times_0.2.2.2.2.2.2.2.2.2.2.2.1
theorem dL_times_20 : decode cL_times 20 = .ok (.iconst 0, 1) := wtL_times_0.2.2.2.2.2.2.2.2.2.2.2.2.1
theorem dL_times_21 : decode cL_times 21 = .ok (.ireturn, 1) := wtL_times_0.2.2.2.2.2.2.2.2.2.2.2.2.2.1
theorem wtL_square_0 : dwcj cL_square 0 [(0, .aload_n 3, 1), (1, .aload_n 0, 1), (2, .iload_n 1, 1), (3, .iload_n 2, 1), (4, .invokevirtual 52, 3), (7, .i2l, 1), (8, .putfield 13, 3), (11, .goto 7, 3), (14, .astore 4, 2), (16, .iconst 1, 1), (17, .ireturn, 1), (18, .iconst 0, 1), (19, .ireturn, 1)] := dw_all (l := [45, 42, 27, 28, 182, 0, 52, 133, 181, 0, 13, 167, 0, 7, 58, 4, 4, 172, 3, 172]) (by decide +kernel)
theorem dL_square_0 : decode cL_square 0 = .ok (.aload_n 3, 1) := wtL_square_0.1
theorem dL_square_1 : decode cL_square 1 = .ok (.aload_n 0, 1) := wtL_square_0.2.1
theorem dL_square_2 : decode cL_square 2 = .ok (.iload_n 1, 1) := wtL_square_0.2.2.1
theorem dL_square_3 : decode cL_square 3 = .ok (.iload_n 2, 1) := wtL_square_0.2.2.2.1
theorem dL_square_4 : decode cL_square 4 = .ok (.invokevirtual 52, 3) := wtL_square_0.2.2.2.2.1
theorem dL_square_7 : decode cL_square 7 = .ok (.i2l, 1) := wtL_square_0.2.2.2.2.2.1
theorem dL_square_8 : decode cL_square 8 = .ok (.putfield 13, 3) := wtL_square_0.2.2.2.2.2.2.1
theorem dL_square_11 : decode cL_square 11 = .ok (.goto 7, 3) := wtL_square_0.2.2.2.2.2.2.2.1
theorem dL_square_14 : decode cL_square 14 = .ok (.astore 4, 2) := wtL_square_0.2.2.2.2.2.2.2.2.1
theorem dL_square_16 : decode cL_square 16 = .ok (.iconst 1, 1) := wtL_square_0.2.2.2.2.2.2.2.2.2.1
theorem dL_square_17 : decode cL_square 17 = .ok (.ireturn, 1) := wtL_square_0.2.2.2.2.2.2.2.2.2.2.1
theorem dL_square_18 : decode cL_square 18 = .ok (.iconst 0, 1) := wtL_square_0.2.2.2.2.2.2.2.2.2.2.2.1
theorem dL_square_19 : decode cL_square 19 = .ok (.ireturn, 1) := wtL_square_0.2.2.2.2.2.2.2.2.2.2.2.2.1
theorem wtL_shift_0 : dwcj cL_shift 0 [(0, .aload 4, 2), (2, .aload_n 0, 1), (3, .iload_n 1, 1), (4, .iload_n 2, 1), (5, .iload_n 3, 1), (6, .invokevirtual 55, 3), (9, .i2l, 1), (10, .putfield 13, 3), (13, .goto 11, 3), (16, .astore 5, 2), (18, .iconst 1, 1), (19, .ireturn, 1), (20, .astore 5, 2), (22, .iconst 2, 1), (23, .ireturn, 1)] := dw_all (l := [25, 4, 42, 27, 28, 29, 182, 0, 55, 133, 181, 0, 13, 167, 0, 11, 58, 5, 4, 172, 58, 5, 5, 172]) (by decide +kernel)
theorem dL_shift_0 : decode cL_shift 0 = .ok (.aload 4, 2) := wtL_shift_0.1
theorem dL_shift_2 : decode cL_shift 2 = .ok (.aload_n 0, 1) := wtL_shift_0.2.1
theorem dL_shift_3 : decode cL_shift 3 = .ok (.iload_n 1, 1) := wtL_shift_0.2.2.1
theorem dL_shift_4 : decode cL_shift 4 = .ok (.iload_n 2, 1) := wtL_shift_0.2.2.2.1
theorem dL_shift_5 : decode cL_shift 5 = .ok (.iload_n 3, 1) := wtL_shift_0.2.2.2.2.1
theorem dL_shift_6 : decode cL_shift 6 = .ok (.invokevirtual 55, 3) := wtL_shift_0.2.2.2.2.2.1
theorem dL_shift_9 : decode cL_shift 9 = .ok (.i2l, 1) := wtL_shift_0.2.2.2.2.2.2.1
theorem dL_shift_10 : decode cL_shift 10 = .ok (.putfield 13, 3) := wtL_shift_0.2.2.2.2.2.2.2.1
theorem dL_shift_13 : decode cL_shift 13 = .ok (.goto 11, 3) := wtL_shift_0.2.2.2.2.2.2.2.2.1
theorem dL_shift_16 : decode cL_shift 16 = .ok (.astore 5, 2) := wtL_shift_0.2.2.2.2.2.2.2.2.2.1
theorem dL_shift_18 : decode cL_shift 18 = .ok (.iconst 1, 1) := wtL_shift_0.2.2.2.2.2.2.2.2.2.2.1
theorem dL_shift_19 : decode cL_shift 19 = .ok (.ireturn, 1) := wtL_shift_0.2.2.2.2.2.2.2.2.2.2.2.1
theorem dL_shift_20 : decode cL_shift 20 = .ok (.astore 5, 2) := wtL_shift_0.2.2.2.2.2.2.2.2.2.2.2.2.1
theorem dL_shift_22 : decode cL_shift 22 = .ok (.iconst 2, 1) := wtL_shift_0.2.2.2.2.2.2.2.2.2.2.2.2.2.1
theorem dL_shift_23 : decode cL_shift 23 = .ok (.ireturn, 1) := wtL_shift_0.2.2.2.2.2.2.2.2.2.2.2.2.2.2.1
theorem wtL_shift_24 : dwcj cL_shift 24 [(0, .iconst 0, 1), (1, .ireturn, 1)] := dw_all (l := [3, 172]) (by decide +kernel)
theorem dL_shift_24 : decode cL_shift 24 = .ok (.iconst 0, 1) := wtL_shift_24.1
theorem dL_shift_25 : decode cL_shift 25 = .ok (.ireturn, 1) := wtL_shift_24.2.1
theorem wtL_quotient_0 : dwcj cL_quotient 0 [(0, .aload 4, 2), (2, .aload_n 0, 1), (3, .iload_n 1, 1), (4, .iload_n 2, 1), (5, .iload_n 3, 1), (6, .invokevirtual 58, 3), (9, .i2l, 1), (10, .putfield 13, 3), (13, .goto 7, 3), (16, .astore 5, 2), (18, .iconst 1, 1), (19, .ireturn, 1), (20, .iconst 0, 1), (21, .ireturn, 1)] := dw_all (l := [25, 4, 42, 27, 28, 29, 182, 0, 58, 133, 181, 0, 13, 167, 0, 7, 58, 5, 4, 172, 3, 172]) (by decide +kernel)
theorem dL_quotient_0 : decode cL_quotient 0 = .ok (.aload 4, 2) := wtL_quotient_0.1
theorem dL_quotient_2 : decode cL_quotient 2 = .ok (.aload_n 0, 1) := wtL_quotient_0.2.1
theorem dL_quotient_3 : decode cL_quotient 3 = .ok (.iload_n 1, 1) := wtL_quotient_0.2.2.1
theorem dL_quotient_4 : decode cL_quotient 4 = .ok (.iload_n 2, 1) := wtL_quotient_0.2.2.2.1
theorem dL_quotient_5 : decode cL_quotient 5 = .ok (.iload_n 3, 1) := wtL_quotient_0.2.2.2.2.1
theorem dL_quotient_6 : decode cL_quotient 6 = .ok (.invokevirtual 58, 3) := wtL_quotient_0.2.2.2.2.2.1
theorem dL_quotient_9 : decode cL_quotient 9 = .ok (.i2l, 1) := wtL_quotient_0.2.2.2.2.2.2.1
theorem dL_quotient_10 : decode cL_quotient 10 = .ok (.putfield 13, 3) := wtL_quotient_0.2.2.2.2.2.2.2.1
theorem dL_quotient_13 : decode cL_quotient 13 = .ok (.goto 7, 3) := wtL_quotient_0.2.2.2.2.2.2.2.2.1
theorem dL_quotient_16 : decode cL_quotient 16 = .ok (.astore 5, 2) := wtL_quotient_0.2.2.2.2.2.2.2.2.2.1
theorem dL_quotient_18 : decode cL_quotient 18 = .ok (.iconst 1, 1) := wtL_quotient_0.2.2.2.2.2.2.2.2.2.2.1
theorem dL_quotient_19 : decode cL_quotient 19 = .ok (.ireturn, 1) := wtL_quotient_0.2.2.2.2.2.2.2.2.2.2.2.1
theorem dL_quotient_20 : decode cL_quotient 20 = .ok (.iconst 0, 1) := wtL_quotient_0.2.2.2.2.2.2.2.2.2.2.2.2.1
theorem dL_quotient_21 : decode cL_quotient 21 = .ok (.ireturn, 1) := wtL_quotient_0.2.2.2.2.2.2.2.2.2.2.2.2.2.1
theorem wtL_rest_0 : dwcj cL_rest 0 [(0, .aload 4, 2), (2, .aload_n 0, 1), (3, .iload_n 1, 1), (4, .iload_n 2, 1), (5, .iload_n 3, 1), (6, .invokevirtual 61, 3), (9, .i2l, 1), (10, .putfield 13, 3), (13, .goto 7, 3), (16, .astore 5, 2), (18, .iconst 1, 1), (19, .ireturn, 1), (20, .iconst 0, 1), (21, .ireturn, 1)] := dw_all (l := [25, 4, 42, 27, 28, 29, 182, 0, 61, 133, 181, 0, 13, 167, 0, 7, 58, 5, 4, 172, 3, 172]) (by decide +kernel)
theorem dL_rest_0 : decode cL_rest 0 = .ok (.aload 4, 2) := wtL_rest_0.1
theorem dL_rest_2 : decode cL_rest 2 = .ok (.aload_n 0, 1) := wtL_rest_0.2.1
theorem dL_rest_3 : decode cL_rest 3 = .ok (.iload_n 1, 1) := wtL_rest_0.2.2.1
theorem dL_rest_4 : decode cL_rest 4 = .ok (.iload_n 2, 1) := wtL_rest_0.2.2.2.1
theorem dL_rest_5 : decode cL_rest 5 = .ok (.iload_n 3, 1) := wtL_rest_0.2.2.2.2.1
theorem dL_rest_6 : decode cL_rest 6 = .ok (.invokevirtual 61, 3) := wtL_rest_0.2.2.2.2.2.1
theorem dL_rest_9 : decode cL_rest 9 = .ok (.i2l, 1) := wtL_rest_0.2.2.2.2.2.2.1
theorem dL_rest_10 : decode cL_rest 10 = .ok (.putfield 13, 3) := wtL_rest_0.2.2.2.2.2.2.2.1
theorem dL_rest_13 : decode cL_rest 13 = .ok (.goto 7, 3) := wtL_rest_0.2.2.2.2.2.2.2.2.1
theorem dL_rest_16 : decode cL_rest 16 = .ok (.astore 5, 2) := wtL_rest_0.2.2.2.2.2.2.2.2.2.1
theorem dL_rest_18 : decode cL_rest 18 = .ok (.iconst 1, 1) := wtL_rest_0.2.2.2.2.2.2.2.2.2.2.1
theorem dL_rest_19 : decode cL_rest 19 = .ok (.ireturn, 1) := wtL_rest_0.2.2.2.2.2.2.2.2.2.2.2.1
theorem dL_rest_20 : decode cL_rest 20 = .ok (.iconst 0, 1) := wtL_rest_0.2.2.2.2.2.2.2.2.2.2.2.2.1
theorem dL_rest_21 : decode cL_rest 21 = .ok (.ireturn, 1) := wtL_rest_0.2.2.2.2.2.2.2.2.2.2.2.2.2.1
theorem wtL_gcd_0 : dwcj cL_gcd 0 [(0, .aload 4, 2), (2, .aload_n 0, 1), (3, .iload_n 1, 1), (4, .iload_n 2, 1), (5, .iload_n 3, 1), (6, .invokevirtual 64, 3), (9, .i2l, 1), (10, .putfield 13, 3), (13, .goto 7, 3), (16, .astore 5, 2), (18, .iconst 1, 1), (19, .ireturn, 1), (20, .iconst 0, 1), (21, .ireturn, 1)] := dw_all (l := [25, 4, 42, 27, 28, 29, 182, 0, 64, 133, 181, 0, 13, 167, 0, 7, 58, 5, 4, 172, 3, 172]) (by decide +kernel)
theorem dL_gcd_0 : decode cL_gcd 0 = .ok (.aload 4, 2) := wtL_gcd_0.1
theorem dL_gcd_2 : decode cL_gcd 2 = .ok (.aload_n 0, 1) := wtL_gcd_0.2.1
theorem dL_gcd_3 : decode cL_gcd 3 = .ok (.iload_n 1, 1) := wtL_gcd_0.2.2.1
theorem dL_gcd_4 : decode cL_gcd 4 = .ok (.iload_n 2, 1) := wtL_gcd_0.2.2.2.1
theorem dL_gcd_5 : decode cL_gcd 5 = .ok (.iload_n 3, 1) := wtL_gcd_0.2.2.2.2.1
theorem dL_gcd_6 : decode cL_gcd 6 = .ok (.invokevirtual 64, 3) := wtL_gcd_0.2.2.2.2.2.1
theorem dL_gcd_9 : decode cL_gcd 9 = .ok (.i2l, 1) := wtL_gcd_0.2.2.2.2.2.2.1
theorem dL_gcd_10 : decode cL_gcd 10 = .ok (.putfield 13, 3) := wtL_gcd_0.2.2.2.2.2.2.2.1
theorem dL_gcd_13 : decode cL_gcd 13 = .ok (.goto 7, 3) := wtL_gcd_0.2.2.2.2.2.2.2.2.1
theorem dL_gcd_16 : decode cL_gcd 16 = .ok (.astore 5, 2) := wtL_gcd_0.2.2.2.2.2.2.2.2.2.1
theorem dL_gcd_18 : decode cL_gcd 18 = .ok (.iconst 1, 1) := wtL_gcd_0.2.2.2.2.2.2.2.2.2.2.1
theorem dL_gcd_19 : decode cL_gcd 19 = .ok (.ireturn, 1) := wtL_gcd_0.2.2.2.2.2.2.2.2.2.2.2.1
theorem dL_gcd_20 : decode cL_gcd 20 = .ok (.iconst 0, 1) := wtL_gcd_0.2.2.2.2.2.2.2.2.2.2.2.2.1
theorem dL_gcd_21 : decode cL_gcd 21 = .ok (.ireturn, 1) := wtL_gcd_0.2.2.2.2.2.2.2.2.2.2.2.2.2.1
theorem wtL_lcm_0 : dwcj cL_lcm 0 [(0, .aload 4, 2), (2, .aload_n 0, 1), (3, .iload_n 1, 1), (4, .iload_n 2, 1), (5, .iload_n 3, 1), (6, .invokevirtual 67, 3), (9, .i2l, 1), (10, .putfield 13, 3), (13, .goto 7, 3), (16, .astore 5, 2), (18, .iconst 1, 1), (19, .ireturn, 1), (20, .iconst 0, 1), (21, .ireturn, 1)] := dw_all (l := [25, 4, 42, 27, 28, 29, 182, 0, 67, 133, 181, 0, 13, 167, 0, 7, 58, 5, 4, 172, 3, 172]) (by decide +kernel)
theorem dL_lcm_0 : decode cL_lcm 0 = .ok (.aload 4, 2) := wtL_lcm_0.1
theorem dL_lcm_2 : decode cL_lcm 2 = .ok (.aload_n 0, 1) := wtL_lcm_0.2.1
theorem dL_lcm_3 : decode cL_lcm 3 = .ok (.iload_n 1, 1) := wtL_lcm_0.2.2.1
theorem dL_lcm_4 : decode cL_lcm 4 = .ok (.iload_n 2, 1) := wtL_lcm_0.2.2.2.1
theorem dL_lcm_5 : decode cL_lcm 5 = .ok (.iload_n 3, 1) := wtL_lcm_0.2.2.2.2.1
theorem dL_lcm_6 : decode cL_lcm 6 = .ok (.invokevirtual 67, 3) := wtL_lcm_0.2.2.2.2.2.1
theorem dL_lcm_9 : decode cL_lcm 9 = .ok (.i2l, 1) := wtL_lcm_0.2.2.2.2.2.2.1
theorem dL_lcm_10 : decode cL_lcm 10 = .ok (.putfield 13, 3) := wtL_lcm_0.2.2.2.2.2.2.2.1
theorem dL_lcm_13 : decode cL_lcm 13 = .ok (.goto 7, 3) := wtL_lcm_0.2.2.2.2.2.2.2.2.1
theorem dL_lcm_16 : decode cL_lcm 16 = .ok (.astore 5, 2) := wtL_lcm_0.2.2.2.2.2.2.2.2.2.1
theorem dL_lcm_18 : decode cL_lcm 18 = .ok (.iconst 1, 1) := wtL_lcm_0.2.2.2.2.2.2.2.2.2.2.1
theorem dL_lcm_19 : decode cL_lcm 19 = .ok (.ireturn, 1) := wtL_lcm_0.2.2.2.2.2.2.2.2.2.2.2.1
theorem dL_lcm_20 : decode cL_lcm 20 = .ok (.iconst 0, 1) := wtL_lcm_0.2.2.2.2.2.2.2.2.2.2.2.2.1
theorem dL_lcm_21 : decode cL_lcm 21 = .ok (.ireturn, 1) := wtL_lcm_0.2.2.2.2.2.2.2.2.2.2.2.2.2.1
theorem wtL_bezout_0 : dwcj cL_bezout 0 [(0, .aload 5, 2), (2, .aload_n 0, 1), (3, .iload_n 1, 1), (4, .iload_n 2, 1), (5, .iload_n 3, 1), (6, .iload 4, 2), (8, .invokevirtual 70, 3), (11, .i2l, 1), (12, .putfield 13, 3), (15, .goto 7, 3), (18, .astore 6, 2), (20, .iconst 1, 1), (21, .ireturn, 1), (22, .iconst 0, 1), (23, .ireturn, 1)] := dw_all (l := [25, 5, 42, 27, 28, 29, 21, 4, 182, 0, 70, 133, 181, 0, 13, 167, 0, 7, 58, 6, 4, 172, 3, 172]) (by decide +kernel)
theorem dL_bezout_0 : decode cL_bezout 0 = .ok (.aload 5, 2) := wtL_bezout_0.1
theorem dL_bezout_2 : decode cL_bezout 2 = .ok (.aload_n 0, 1) := wtL_bezout_0.2.1
theorem dL_bezout_3 : decode cL_bezout 3 = .ok (.iload_n 1, 1) := wtL_bezout_0.2.2.1
theorem dL_bezout_4 : decode cL_bezout 4 = .ok (.iload_n 2, 1) := wtL_bezout_0.2.2.2.1
theorem dL_bezout_5 : decode cL_bezout 5 = .ok (.iload_n 3, 1) := wtL_bezout_0.2.2.2.2.1
theorem dL_bezout_6 : decode cL_bezout 6 = .ok (.iload 4, 2) := wtL_bezout_0.2.2.2.2.2.1
theorem dL_bezout_8 : decode cL_bezout 8 = .ok (.invokevirtual 70, 3) := wtL_bezout_0.2.2.2.2.2.2.1
theorem dL_bezout_11 : decode cL_bezout 11 = .ok (.i2l, 1) := wtL_bezout_0.2.2.2.2.2.2.2.1
theorem dL_bezout_12 : decode cL_bezout 12 = .ok (.putfield 13, 3) := wtL_bezout_0.2.2.2.2.2.2.2.2.1
theorem dL_bezout_15 : decode cL_bezout 15 = .ok (.goto 7, 3) := wtL_bezout_0.2.2.2.2.2.2.2.2.2.1
theorem dL_bezout_18 : decode cL_bezout 18 = .ok (.astore 6, 2) := wtL_bezout_0.2.2.2.2.2.2.2.2.2.2.1
theorem dL_bezout_20 : decode cL_bezout 20 = .ok (.iconst 1, 1) := wtL_bezout_0.2.2.2.2.2.2.2.2.2.2.2.1
theorem dL_bezout_21 : decode cL_bezout 21 = .ok (.ireturn, 1) := wtL_bezout_0.2.2.2.2.2.2.2.2.2.2.2.2.1
theorem dL_bezout_22 : decode cL_bezout 22 = .ok (.iconst 0, 1) := wtL_bezout_0.2.2.2.2.2.2.2.2.2.2.2.2.2.1
theorem dL_bezout_23 : decode cL_bezout 23 = .ok (.ireturn, 1) := wtL_bezout_0.2.2.2.2.2.2.2.2.2.2.2.2.2.2.1
theorem wtL_derive_0 : dwcj cL_derive 0 [(0, .aload_n 3, 1), (1, .aload_n 0, 1), (2, .iload_n 1, 1), (3, .iload_n 2, 1), (4, .invokevirtual 73, 3), (7, .i2l, 1), (8, .putfield 13, 3), (11, .goto 7, 3), (14, .astore 4, 2), (16, .iconst 1, 1), (17, .ireturn, 1), (18, .iconst 0, 1), (19, .ireturn, 1)] := dw_all (l := [45, 42, 27, 28, 182, 0, 73, 133, 181, 0, 13, 167, 0, 7, 58, 4, 4, 172, 3, 172]) (by decide +kernel)
theorem dL_derive_0 : decode cL_derive 0 = .ok (.aload_n 3, 1) := wtL_derive_0.1
theorem dL_derive_1 : decode cL_derive 1 = .ok (.aload_n 0, 1) := wtL_derive_0.2.1
theorem dL_derive_2 : decode cL_derive 2 = .ok (.iload_n 1, 1) := wtL_derive_0.2.2.1
theorem dL_derive_3 : decode cL_derive 3 = .ok (.iload_n 2, 1) := wtL_derive_0.2.2.2.1
theorem dL_derive_4 : decode cL_derive 4 = .ok (.invokevirtual 73, 3) := wtL_derive_0.2.2.2.2.1
theorem dL_derive_7 : decode cL_derive 7 = .ok (.i2l, 1) := wtL_derive_0.2.2.2.2.2.1
theorem dL_derive_8 : decode cL_derive 8 = .ok (.putfield 13, 3) := wtL_derive_0.2.2.2.2.2.2.1
theorem dL_derive_11 : decode cL_derive 11 = .ok (.goto 7, 3) := wtL_derive_0.2.2.2.2.2.2.2.1
theorem dL_derive_14 : decode cL_derive 14 = .ok (.astore 4, 2) := wtL_derive_0.2.2.2.2.2.2.2.2.1
theorem dL_derive_16 : decode cL_derive 16 = .ok (.iconst 1, 1) := wtL_derive_0.2.2.2.2.2.2.2.2.2.1
theorem dL_derive_17 : decode cL_derive 17 = .ok (.ireturn, 1) := wtL_derive_0.2.2.2.2.2.2.2.2.2.2.1
theorem dL_derive_18 : decode cL_derive 18 = .ok (.iconst 0, 1) := wtL_derive_0.2.2.2.2.2.2.2.2.2.2.2.1
theorem dL_derive_19 : decode cL_derive 19 = .ok (.ireturn, 1) := wtL_derive_0.2.2.2.2.2.2.2.2.2.2.2.2.1
theorem wtL_root_0 : dwcj cL_root 0 [(0, .aload_n 3, 1), (1, .aload_n 0, 1), (2, .iload_n 1, 1), (3, .iload_n 2, 1), (4, .invokevirtual 76, 3), (7, .i2l, 1), (8, .putfield 13, 3), (11, .goto 7, 3), (14, .astore 4, 2), (16, .iconst 1, 1), (17, .ireturn, 1), (18, .iconst 0, 1), (19, .ireturn, 1)] := dw_all (l := [45, 42, 27, 28, 182, 0, 76, 133, 181, 0, 13, 167, 0, 7, 58, 4, 4, 172, 3, 172]) (by decide +kernel)
theorem dL_root_0 : decode cL_root 0 = .ok (.aload_n 3, 1) := wtL_root_0.1
theorem dL_root_1 : decode cL_root 1 = .ok (.aload_n 0, 1) := wtL_root_0.2.1
theorem dL_root_2 : decode cL_root 2 = .ok (.iload_n 1, 1) := wtL_root_0.2.2.1
theorem dL_root_3 : decode cL_root 3 = .ok (.iload_n 2, 1) := wtL_root_0.2.2.2.1
theorem dL_root_4 : decode cL_root 4 = .ok (.invokevirtual 76, 3) := wtL_root_0.2.2.2.2.1
theorem dL_root_7 : decode cL_root 7 = .ok (.i2l, 1) := wtL_root_0.2.2.2.2.2.1
theorem dL_root_8 : decode cL_root 8 = .ok (.putfield 13, 3) := wtL_root_0.2.2.2.2.2.2.1
theorem dL_root_11 : decode cL_root 11 = .ok (.goto 7, 3) := wtL_root_0.2.2.2.2.2.2.2.1
theorem dL_root_14 : decode cL_root 14 = .ok (.astore 4, 2) := wtL_root_0.2.2.2.2.2.2.2.2.1
theorem dL_root_16 : decode cL_root 16 = .ok (.iconst 1, 1) := wtL_root_0.2.2.2.2.2.2.2.2.2.1
theorem dL_root_17 : decode cL_root 17 = .ok (.ireturn, 1) := wtL_root_0.2.2.2.2.2.2.2.2.2.2.1
theorem dL_root_18 : decode cL_root 18 = .ok (.iconst 0, 1) := wtL_root_0.2.2.2.2.2.2.2.2.2.2.2.1
theorem dL_root_19 : decode cL_root 19 = .ok (.ireturn, 1) := wtL_root_0.2.2.2.2.2.2.2.2.2.2.2.2.1
theorem wtL_turn_0 : dwcj cL_turn 0 [(0, .aload_n 3, 1), (1, .aload_n 0, 1), (2, .iload_n 1, 1), (3, .iload_n 2, 1), (4, .invokevirtual 79, 3), (7, .i2l, 1), (8, .putfield 13, 3), (11, .goto 7, 3), (14, .astore 4, 2), (16, .iconst 1, 1), (17, .ireturn, 1), (18, .iconst 0, 1), (19, .ireturn, 1)] := dw_all (l := [45, 42, 27, 28, 182, 0, 79, 133, 181, 0, 13, 167, 0, 7, 58, 4, 4, 172, 3, 172]) (by decide +kernel)
theorem dL_turn_0 : decode cL_turn 0 = .ok (.aload_n 3, 1) := wtL_turn_0.1
theorem dL_turn_1 : decode cL_turn 1 = .ok (.aload_n 0, 1) := wtL_turn_0.2.1
theorem dL_turn_2 : decode cL_turn 2 = .ok (.iload_n 1, 1) := wtL_turn_0.2.2.1
theorem dL_turn_3 : decode cL_turn 3 = .ok (.iload_n 2, 1) := wtL_turn_0.2.2.2.1
theorem dL_turn_4 : decode cL_turn 4 = .ok (.invokevirtual 79, 3) := wtL_turn_0.2.2.2.2.1
theorem dL_turn_7 : decode cL_turn 7 = .ok (.i2l, 1) := wtL_turn_0.2.2.2.2.2.1
theorem dL_turn_8 : decode cL_turn 8 = .ok (.putfield 13, 3) := wtL_turn_0.2.2.2.2.2.2.1
theorem dL_turn_11 : decode cL_turn 11 = .ok (.goto 7, 3) := wtL_turn_0.2.2.2.2.2.2.2.1
theorem dL_turn_14 : decode cL_turn 14 = .ok (.astore 4, 2) := wtL_turn_0.2.2.2.2.2.2.2.2.1
theorem dL_turn_16 : decode cL_turn 16 = .ok (.iconst 1, 1) := wtL_turn_0.2.2.2.2.2.2.2.2.2.1
theorem dL_turn_17 : decode cL_turn 17 = .ok (.ireturn, 1) := wtL_turn_0.2.2.2.2.2.2.2.2.2.2.1
theorem dL_turn_18 : decode cL_turn 18 = .ok (.iconst 0, 1) := wtL_turn_0.2.2.2.2.2.2.2.2.2.2.2.1
theorem dL_turn_19 : decode cL_turn 19 = .ok (.ireturn, 1) := wtL_turn_0.2.2.2.2.2.2.2.2.2.2.2.2.1
theorem wtL_move_0 : dwcj cL_move 0 [(0, .aload_n 3, 1), (1, .aload_n 0, 1), (2, .iload_n 1, 1), (3, .iload_n 2, 1), (4, .invokevirtual 82, 3), (7, .i2l, 1), (8, .putfield 13, 3), (11, .goto 7, 3), (14, .astore 4, 2), (16, .iconst 1, 1), (17, .ireturn, 1), (18, .iconst 0, 1), (19, .ireturn, 1)] := dw_all (l := [45, 42, 27, 28, 182, 0, 82, 133, 181, 0, 13, 167, 0, 7, 58, 4, 4, 172, 3, 172]) (by decide +kernel)
theorem dL_move_0 : decode cL_move 0 = .ok (.aload_n 3, 1) := wtL_move_0.1
theorem dL_move_1 : decode cL_move 1 = .ok (.aload_n 0, 1) := wtL_move_0.2.1
theorem dL_move_2 : decode cL_move 2 = .ok (.iload_n 1, 1) := wtL_move_0.2.2.1
theorem dL_move_3 : decode cL_move 3 = .ok (.iload_n 2, 1) := wtL_move_0.2.2.2.1
theorem dL_move_4 : decode cL_move 4 = .ok (.invokevirtual 82, 3) := wtL_move_0.2.2.2.2.1
theorem dL_move_7 : decode cL_move 7 = .ok (.i2l, 1) := wtL_move_0.2.2.2.2.2.1
theorem dL_move_8 : decode cL_move 8 = .ok (.putfield 13, 3) := wtL_move_0.2.2.2.2.2.2.1
theorem dL_move_11 : decode cL_move 11 = .ok (.goto 7, 3) := wtL_move_0.2.2.2.2.2.2.2.1
theorem dL_move_14 : decode cL_move 14 = .ok (.astore 4, 2) := wtL_move_0.2.2.2.2.2.2.2.2.1
theorem dL_move_16 : decode cL_move 16 = .ok (.iconst 1, 1) := wtL_move_0.2.2.2.2.2.2.2.2.2.1
theorem dL_move_17 : decode cL_move 17 = .ok (.ireturn, 1) := wtL_move_0.2.2.2.2.2.2.2.2.2.2.1
theorem dL_move_18 : decode cL_move 18 = .ok (.iconst 0, 1) := wtL_move_0.2.2.2.2.2.2.2.2.2.2.2.1
theorem dL_move_19 : decode cL_move 19 = .ok (.ireturn, 1) := wtL_move_0.2.2.2.2.2.2.2.2.2.2.2.2.1
theorem wtL_power_0 : dwcj cL_power 0 [(0, .aload 5, 2), (2, .aload_n 0, 1), (3, .iload_n 1, 1), (4, .iload_n 2, 1), (5, .iload_n 3, 1), (6, .iload 4, 2), (8, .invokevirtual 85, 3), (11, .i2l, 1), (12, .putfield 13, 3), (15, .goto 11, 3), (18, .astore 6, 2), (20, .iconst 1, 1), (21, .ireturn, 1), (22, .astore 6, 2)] := dw_all (l := [25, 5, 42, 27, 28, 29, 21, 4, 182, 0, 85, 133, 181, 0, 13, 167, 0, 11, 58, 6, 4, 172, 58, 6]) (by decide +kernel)
theorem dL_power_0 : decode cL_power 0 = .ok (.aload 5, 2) := wtL_power_0.1
theorem dL_power_2 : decode cL_power 2 = .ok (.aload_n 0, 1) := wtL_power_0.2.1
theorem dL_power_3 : decode cL_power 3 = .ok (.iload_n 1, 1) := wtL_power_0.2.2.1
theorem dL_power_4 : decode cL_power 4 = .ok (.iload_n 2, 1) := wtL_power_0.2.2.2.1
theorem dL_power_5 : decode cL_power 5 = .ok (.iload_n 3, 1) := wtL_power_0.2.2.2.2.1
theorem dL_power_6 : decode cL_power 6 = .ok (.iload 4, 2) := wtL_power_0.2.2.2.2.2.1
theorem dL_power_8 : decode cL_power 8 = .ok (.invokevirtual 85, 3) := wtL_power_0.2.2.2.2.2.2.1
theorem dL_power_11 : decode cL_power 11 = .ok (.i2l, 1) := wtL_power_0.2.2.2.2.2.2.2.1
theorem dL_power_12 : decode cL_power 12 = .ok (.putfield 13, 3) := wtL_power_0.2.2.2.2.2.2.2.2.1
theorem dL_power_15 : decode cL_power 15 = .ok (.goto 11, 3) := wtL_power_0.2.2.2.2.2.2.2.2.2.1
theorem dL_power_18 : decode cL_power 18 = .ok (.astore 6, 2) := wtL_power_0.2.2.2.2.2.2.2.2.2.2.1
theorem dL_power_20 : decode cL_power 20 = .ok (.iconst 1, 1) := wtL_power_0.2.2.2.2.2.2.2.2.2.2.2.1
theorem dL_power_21 : decode cL_power 21 = .ok (.ireturn, 1) := wtL_power_0.2.2.2.2.2.2.2.2.2.2.2.2.1
theorem dL_power_22 : decode cL_power 22 = .ok (.astore 6, 2) := wtL_power_0.2.2.2.2.2.2.2.2.2.2.2.2.2.1
theorem wtL_power_24 : dwcj cL_power 24 [(0, .iconst 2, 1), (1, .ireturn, 1), (2, .iconst 0, 1), (3, .ireturn, 1)] := dw_all (l := [5, 172, 3, 172]) (by decide +kernel)
theorem dL_power_24 : decode cL_power 24 = .ok (.iconst 2, 1) := wtL_power_24.1
theorem dL_power_25 : decode cL_power 25 = .ok (.ireturn, 1) := wtL_power_24.2.1
theorem dL_power_26 : decode cL_power 26 = .ok (.iconst 0, 1) := wtL_power_24.2.2.1
theorem dL_power_27 : decode cL_power 27 = .ok (.ireturn, 1) := wtL_power_24.2.2.2.1
theorem wtL_nth_0 : dwcj cL_nth 0 [(0, .aload 4, 2), (2, .aload_n 0, 1), (3, .iload_n 1, 1), (4, .iload_n 2, 1), (5, .iload_n 3, 1), (6, .invokevirtual 88, 3), (9, .i2l, 1), (10, .putfield 13, 3), (13, .goto 11, 3), (16, .astore 5, 2), (18, .iconst 1, 1), (19, .ireturn, 1), (20, .astore 5, 2), (22, .iconst 2, 1), (23, .ireturn, 1)] := dw_all (l := [25, 4, 42, 27, 28, 29, 182, 0, 88, 133, 181, 0, 13, 167, 0, 11, 58, 5, 4, 172, 58, 5, 5, 172]) (by decide +kernel)
theorem dL_nth_0 : decode cL_nth 0 = .ok (.aload 4, 2) := wtL_nth_0.1
theorem dL_nth_2 : decode cL_nth 2 = .ok (.aload_n 0, 1) := wtL_nth_0.2.1
theorem dL_nth_3 : decode cL_nth 3 = .ok (.iload_n 1, 1) := wtL_nth_0.2.2.1
theorem dL_nth_4 : decode cL_nth 4 = .ok (.iload_n 2, 1) := wtL_nth_0.2.2.2.1
theorem dL_nth_5 : decode cL_nth 5 = .ok (.iload_n 3, 1) := wtL_nth_0.2.2.2.2.1
theorem dL_nth_6 : decode cL_nth 6 = .ok (.invokevirtual 88, 3) := wtL_nth_0.2.2.2.2.2.1
theorem dL_nth_9 : decode cL_nth 9 = .ok (.i2l, 1) := wtL_nth_0.2.2.2.2.2.2.1
theorem dL_nth_10 : decode cL_nth 10 = .ok (.putfield 13, 3) := wtL_nth_0.2.2.2.2.2.2.2.1
theorem dL_nth_13 : decode cL_nth 13 = .ok (.goto 11, 3) := wtL_nth_0.2.2.2.2.2.2.2.2.1
theorem dL_nth_16 : decode cL_nth 16 = .ok (.astore 5, 2) := wtL_nth_0.2.2.2.2.2.2.2.2.2.1
theorem dL_nth_18 : decode cL_nth 18 = .ok (.iconst 1, 1) := wtL_nth_0.2.2.2.2.2.2.2.2.2.2.1
theorem dL_nth_19 : decode cL_nth 19 = .ok (.ireturn, 1) := wtL_nth_0.2.2.2.2.2.2.2.2.2.2.2.1
theorem dL_nth_20 : decode cL_nth 20 = .ok (.astore 5, 2) := wtL_nth_0.2.2.2.2.2.2.2.2.2.2.2.2.1
theorem dL_nth_22 : decode cL_nth 22 = .ok (.iconst 2, 1) := wtL_nth_0.2.2.2.2.2.2.2.2.2.2.2.2.2.1
theorem dL_nth_23 : decode cL_nth 23 = .ok (.ireturn, 1) := wtL_nth_0.2.2.2.2.2.2.2.2.2.2.2.2.2.2.1
theorem wtL_nth_24 : dwcj cL_nth 24 [(0, .iconst 0, 1), (1, .ireturn, 1)] := dw_all (l := [3, 172]) (by decide +kernel)
theorem dL_nth_24 : decode cL_nth 24 = .ok (.iconst 0, 1) := wtL_nth_24.1
theorem dL_nth_25 : decode cL_nth 25 = .ok (.ireturn, 1) := wtL_nth_24.2.1
theorem wtL_field_0 : dwcj cL_field 0 [(0, .aload_n 3, 1), (1, .aload_n 0, 1), (2, .iload_n 1, 1), (3, .iload_n 2, 1), (4, .invokevirtual 91, 3), (7, .i2l, 1), (8, .putfield 13, 3), (11, .goto 11, 3), (14, .astore 4, 2), (16, .iconst 1, 1), (17, .ireturn, 1), (18, .astore 4, 2), (20, .iconst 2, 1), (21, .ireturn, 1), (22, .iconst 0, 1), (23, .ireturn, 1)] := dw_all (l := [45, 42, 27, 28, 182, 0, 91, 133, 181, 0, 13, 167, 0, 11, 58, 4, 4, 172, 58, 4, 5, 172, 3, 172]) (by decide +kernel)
theorem dL_field_0 : decode cL_field 0 = .ok (.aload_n 3, 1) := wtL_field_0.1
theorem dL_field_1 : decode cL_field 1 = .ok (.aload_n 0, 1) := wtL_field_0.2.1
theorem dL_field_2 : decode cL_field 2 = .ok (.iload_n 1, 1) := wtL_field_0.2.2.1
theorem dL_field_3 : decode cL_field 3 = .ok (.iload_n 2, 1) := wtL_field_0.2.2.2.1
theorem dL_field_4 : decode cL_field 4 = .ok (.invokevirtual 91, 3) := wtL_field_0.2.2.2.2.1
theorem dL_field_7 : decode cL_field 7 = .ok (.i2l, 1) := wtL_field_0.2.2.2.2.2.1
theorem dL_field_8 : decode cL_field 8 = .ok (.putfield 13, 3) := wtL_field_0.2.2.2.2.2.2.1
theorem dL_field_11 : decode cL_field 11 = .ok (.goto 11, 3) := wtL_field_0.2.2.2.2.2.2.2.1
theorem dL_field_14 : decode cL_field 14 = .ok (.astore 4, 2) := wtL_field_0.2.2.2.2.2.2.2.2.1
theorem dL_field_16 : decode cL_field 16 = .ok (.iconst 1, 1) := wtL_field_0.2.2.2.2.2.2.2.2.2.1
theorem dL_field_17 : decode cL_field 17 = .ok (.ireturn, 1) := wtL_field_0.2.2.2.2.2.2.2.2.2.2.1
theorem dL_field_18 : decode cL_field 18 = .ok (.astore 4, 2) := wtL_field_0.2.2.2.2.2.2.2.2.2.2.2.1
theorem dL_field_20 : decode cL_field 20 = .ok (.iconst 2, 1) := wtL_field_0.2.2.2.2.2.2.2.2.2.2.2.2.1
theorem dL_field_21 : decode cL_field 21 = .ok (.ireturn, 1) := wtL_field_0.2.2.2.2.2.2.2.2.2.2.2.2.2.1
theorem dL_field_22 : decode cL_field 22 = .ok (.iconst 0, 1) := wtL_field_0.2.2.2.2.2.2.2.2.2.2.2.2.2.2.1
theorem dL_field_23 : decode cL_field 23 = .ok (.ireturn, 1) := wtL_field_0.2.2.2.2.2.2.2.2.2.2.2.2.2.2.2.1
theorem wtL_again_0 : dwcj cL_again 0 [(0, .aload 4, 2), (2, .aload_n 0, 1), (3, .iload_n 1, 1), (4, .iload_n 2, 1), (5, .iload_n 3, 1), (6, .invokevirtual 94, 3), (9, .i2l, 1), (10, .putfield 13, 3), (13, .goto 11, 3), (16, .astore 5, 2), (18, .iconst 1, 1), (19, .ireturn, 1), (20, .astore 5, 2), (22, .iconst 2, 1), (23, .ireturn, 1)] := dw_all (l := [25, 4, 42, 27, 28, 29, 182, 0, 94, 133, 181, 0, 13, 167, 0, 11, 58, 5, 4, 172, 58, 5, 5, 172]) (by decide +kernel)
theorem dL_again_0 : decode cL_again 0 = .ok (.aload 4, 2) := wtL_again_0.1
theorem dL_again_2 : decode cL_again 2 = .ok (.aload_n 0, 1) := wtL_again_0.2.1
theorem dL_again_3 : decode cL_again 3 = .ok (.iload_n 1, 1) := wtL_again_0.2.2.1
theorem dL_again_4 : decode cL_again 4 = .ok (.iload_n 2, 1) := wtL_again_0.2.2.2.1
theorem dL_again_5 : decode cL_again 5 = .ok (.iload_n 3, 1) := wtL_again_0.2.2.2.2.1
theorem dL_again_6 : decode cL_again 6 = .ok (.invokevirtual 94, 3) := wtL_again_0.2.2.2.2.2.1
theorem dL_again_9 : decode cL_again 9 = .ok (.i2l, 1) := wtL_again_0.2.2.2.2.2.2.1
theorem dL_again_10 : decode cL_again 10 = .ok (.putfield 13, 3) := wtL_again_0.2.2.2.2.2.2.2.1
theorem dL_again_13 : decode cL_again 13 = .ok (.goto 11, 3) := wtL_again_0.2.2.2.2.2.2.2.2.1
theorem dL_again_16 : decode cL_again 16 = .ok (.astore 5, 2) := wtL_again_0.2.2.2.2.2.2.2.2.2.1
theorem dL_again_18 : decode cL_again 18 = .ok (.iconst 1, 1) := wtL_again_0.2.2.2.2.2.2.2.2.2.2.1
theorem dL_again_19 : decode cL_again 19 = .ok (.ireturn, 1) := wtL_again_0.2.2.2.2.2.2.2.2.2.2.2.1
theorem dL_again_20 : decode cL_again 20 = .ok (.astore 5, 2) := wtL_again_0.2.2.2.2.2.2.2.2.2.2.2.2.1
theorem dL_again_22 : decode cL_again 22 = .ok (.iconst 2, 1) := wtL_again_0.2.2.2.2.2.2.2.2.2.2.2.2.2.1
theorem dL_again_23 : decode cL_again 23 = .ok (.ireturn, 1) := wtL_again_0.2.2.2.2.2.2.2.2.2.2.2.2.2.2.1
theorem wtL_again_24 : dwcj cL_again 24 [(0, .iconst 0, 1), (1, .ireturn, 1)] := dw_all (l := [3, 172]) (by decide +kernel)
theorem dL_again_24 : decode cL_again 24 = .ok (.iconst 0, 1) := wtL_again_24.1
theorem dL_again_25 : decode cL_again 25 = .ok (.ireturn, 1) := wtL_again_24.2.1
theorem wtL_degree_0 : dwcj cL_degree 0 [(0, .aload_n 2, 1), (1, .aload_n 0, 1), (2, .iload_n 1, 1), (3, .invokevirtual 97, 3), (6, .i2l, 1), (7, .putfield 13, 3), (10, .goto 6, 3), (13, .astore_n 3, 1), (14, .iconst 1, 1), (15, .ireturn, 1), (16, .iconst 0, 1), (17, .ireturn, 1)] := dw_all (l := [44, 42, 27, 182, 0, 97, 133, 181, 0, 13, 167, 0, 6, 78, 4, 172, 3, 172]) (by decide +kernel)
theorem dL_degree_0 : decode cL_degree 0 = .ok (.aload_n 2, 1) := wtL_degree_0.1
theorem dL_degree_1 : decode cL_degree 1 = .ok (.aload_n 0, 1) := wtL_degree_0.2.1
theorem dL_degree_2 : decode cL_degree 2 = .ok (.iload_n 1, 1) := wtL_degree_0.2.2.1
theorem dL_degree_3 : decode cL_degree 3 = .ok (.invokevirtual 97, 3) := wtL_degree_0.2.2.2.1
theorem dL_degree_6 : decode cL_degree 6 = .ok (.i2l, 1) := wtL_degree_0.2.2.2.2.1
theorem dL_degree_7 : decode cL_degree 7 = .ok (.putfield 13, 3) := wtL_degree_0.2.2.2.2.2.1
theorem dL_degree_10 : decode cL_degree 10 = .ok (.goto 6, 3) := wtL_degree_0.2.2.2.2.2.2.1
theorem dL_degree_13 : decode cL_degree 13 = .ok (.astore_n 3, 1) := wtL_degree_0.2.2.2.2.2.2.2.1
theorem dL_degree_14 : decode cL_degree 14 = .ok (.iconst 1, 1) := wtL_degree_0.2.2.2.2.2.2.2.2.1
theorem dL_degree_15 : decode cL_degree 15 = .ok (.ireturn, 1) := wtL_degree_0.2.2.2.2.2.2.2.2.2.1
theorem dL_degree_16 : decode cL_degree 16 = .ok (.iconst 0, 1) := wtL_degree_0.2.2.2.2.2.2.2.2.2.2.1
theorem dL_degree_17 : decode cL_degree 17 = .ok (.ireturn, 1) := wtL_degree_0.2.2.2.2.2.2.2.2.2.2.2.1
theorem wtL_low_0 : dwcj cL_low 0 [(0, .aload_n 2, 1), (1, .aload_n 0, 1), (2, .iload_n 1, 1), (3, .invokevirtual 101, 3), (6, .i2l, 1), (7, .putfield 13, 3), (10, .goto 6, 3), (13, .astore_n 3, 1), (14, .iconst 1, 1), (15, .ireturn, 1), (16, .iconst 0, 1), (17, .ireturn, 1)] := dw_all (l := [44, 42, 27, 182, 0, 101, 133, 181, 0, 13, 167, 0, 6, 78, 4, 172, 3, 172]) (by decide +kernel)
theorem dL_low_0 : decode cL_low 0 = .ok (.aload_n 2, 1) := wtL_low_0.1
theorem dL_low_1 : decode cL_low 1 = .ok (.aload_n 0, 1) := wtL_low_0.2.1
theorem dL_low_2 : decode cL_low 2 = .ok (.iload_n 1, 1) := wtL_low_0.2.2.1
theorem dL_low_3 : decode cL_low 3 = .ok (.invokevirtual 101, 3) := wtL_low_0.2.2.2.1
theorem dL_low_6 : decode cL_low 6 = .ok (.i2l, 1) := wtL_low_0.2.2.2.2.1
theorem dL_low_7 : decode cL_low 7 = .ok (.putfield 13, 3) := wtL_low_0.2.2.2.2.2.1
theorem dL_low_10 : decode cL_low 10 = .ok (.goto 6, 3) := wtL_low_0.2.2.2.2.2.2.1
theorem dL_low_13 : decode cL_low 13 = .ok (.astore_n 3, 1) := wtL_low_0.2.2.2.2.2.2.2.1
theorem dL_low_14 : decode cL_low 14 = .ok (.iconst 1, 1) := wtL_low_0.2.2.2.2.2.2.2.2.1
theorem dL_low_15 : decode cL_low 15 = .ok (.ireturn, 1) := wtL_low_0.2.2.2.2.2.2.2.2.2.1
theorem dL_low_16 : decode cL_low 16 = .ok (.iconst 0, 1) := wtL_low_0.2.2.2.2.2.2.2.2.2.2.1
theorem dL_low_17 : decode cL_low 17 = .ok (.ireturn, 1) := wtL_low_0.2.2.2.2.2.2.2.2.2.2.2.1
theorem wtL_weight_0 : dwcj cL_weight 0 [(0, .aload_n 2, 1), (1, .aload_n 0, 1), (2, .iload_n 1, 1), (3, .invokevirtual 104, 3), (6, .i2l, 1), (7, .putfield 13, 3), (10, .goto 6, 3), (13, .astore_n 3, 1), (14, .iconst 1, 1), (15, .ireturn, 1), (16, .iconst 0, 1), (17, .ireturn, 1)] := dw_all (l := [44, 42, 27, 182, 0, 104, 133, 181, 0, 13, 167, 0, 6, 78, 4, 172, 3, 172]) (by decide +kernel)
theorem dL_weight_0 : decode cL_weight 0 = .ok (.aload_n 2, 1) := wtL_weight_0.1
theorem dL_weight_1 : decode cL_weight 1 = .ok (.aload_n 0, 1) := wtL_weight_0.2.1
theorem dL_weight_2 : decode cL_weight 2 = .ok (.iload_n 1, 1) := wtL_weight_0.2.2.1
theorem dL_weight_3 : decode cL_weight 3 = .ok (.invokevirtual 104, 3) := wtL_weight_0.2.2.2.1
theorem dL_weight_6 : decode cL_weight 6 = .ok (.i2l, 1) := wtL_weight_0.2.2.2.2.1
theorem dL_weight_7 : decode cL_weight 7 = .ok (.putfield 13, 3) := wtL_weight_0.2.2.2.2.2.1
theorem dL_weight_10 : decode cL_weight 10 = .ok (.goto 6, 3) := wtL_weight_0.2.2.2.2.2.2.1
theorem dL_weight_13 : decode cL_weight 13 = .ok (.astore_n 3, 1) := wtL_weight_0.2.2.2.2.2.2.2.1
theorem dL_weight_14 : decode cL_weight 14 = .ok (.iconst 1, 1) := wtL_weight_0.2.2.2.2.2.2.2.2.1
theorem dL_weight_15 : decode cL_weight 15 = .ok (.ireturn, 1) := wtL_weight_0.2.2.2.2.2.2.2.2.2.1
theorem dL_weight_16 : decode cL_weight 16 = .ok (.iconst 0, 1) := wtL_weight_0.2.2.2.2.2.2.2.2.2.2.1
theorem dL_weight_17 : decode cL_weight 17 = .ok (.ireturn, 1) := wtL_weight_0.2.2.2.2.2.2.2.2.2.2.2.1
theorem wtL_at_0 : dwcj cL_at 0 [(0, .aload_n 3, 1), (1, .aload_n 0, 1), (2, .iload_n 1, 1), (3, .iload_n 2, 1), (4, .invokevirtual 107, 3), (7, .ifCond .eq 7, 3), (10, .lconst 1, 1), (11, .goto 4, 3), (14, .lconst 0, 1), (15, .putfield 13, 3), (18, .goto 11, 3), (21, .astore 4, 2), (23, .iconst 1, 1)] := dw_all (l := [45, 42, 27, 28, 182, 0, 107, 153, 0, 7, 10, 167, 0, 4, 9, 181, 0, 13, 167, 0, 11, 58, 4, 4]) (by decide +kernel)
theorem dL_at_0 : decode cL_at 0 = .ok (.aload_n 3, 1) := wtL_at_0.1
theorem dL_at_1 : decode cL_at 1 = .ok (.aload_n 0, 1) := wtL_at_0.2.1
theorem dL_at_2 : decode cL_at 2 = .ok (.iload_n 1, 1) := wtL_at_0.2.2.1
theorem dL_at_3 : decode cL_at 3 = .ok (.iload_n 2, 1) := wtL_at_0.2.2.2.1
theorem dL_at_4 : decode cL_at 4 = .ok (.invokevirtual 107, 3) := wtL_at_0.2.2.2.2.1
theorem dL_at_7 : decode cL_at 7 = .ok (.ifCond .eq 7, 3) := wtL_at_0.2.2.2.2.2.1
theorem dL_at_10 : decode cL_at 10 = .ok (.lconst 1, 1) := wtL_at_0.2.2.2.2.2.2.1
theorem dL_at_11 : decode cL_at 11 = .ok (.goto 4, 3) := wtL_at_0.2.2.2.2.2.2.2.1
theorem dL_at_14 : decode cL_at 14 = .ok (.lconst 0, 1) := wtL_at_0.2.2.2.2.2.2.2.2.1
theorem dL_at_15 : decode cL_at 15 = .ok (.putfield 13, 3) := wtL_at_0.2.2.2.2.2.2.2.2.2.1
theorem dL_at_18 : decode cL_at 18 = .ok (.goto 11, 3) := wtL_at_0.2.2.2.2.2.2.2.2.2.2.1
theorem dL_at_21 : decode cL_at 21 = .ok (.astore 4, 2) := wtL_at_0.2.2.2.2.2.2.2.2.2.2.2.1
theorem dL_at_23 : decode cL_at 23 = .ok (.iconst 1, 1) := wtL_at_0.2.2.2.2.2.2.2.2.2.2.2.2.1
theorem wtL_at_24 : dwcj cL_at 24 [(0, .ireturn, 1), (1, .astore 4, 2), (3, .iconst 2, 1), (4, .ireturn, 1), (5, .iconst 0, 1), (6, .ireturn, 1)] := dw_all (l := [172, 58, 4, 5, 172, 3, 172]) (by decide +kernel)
theorem dL_at_24 : decode cL_at 24 = .ok (.ireturn, 1) := wtL_at_24.1
theorem dL_at_25 : decode cL_at 25 = .ok (.astore 4, 2) := wtL_at_24.2.1
theorem dL_at_27 : decode cL_at 27 = .ok (.iconst 2, 1) := wtL_at_24.2.2.1
theorem dL_at_28 : decode cL_at 28 = .ok (.ireturn, 1) := wtL_at_24.2.2.2.1
theorem dL_at_29 : decode cL_at 29 = .ok (.iconst 0, 1) := wtL_at_24.2.2.2.2.1
theorem dL_at_30 : decode cL_at 30 = .ok (.ireturn, 1) := wtL_at_24.2.2.2.2.2.1
theorem wtL_digits_0 : dwcj cL_digits 0 [(0, .aload_n 2, 1), (1, .aload_n 0, 1), (2, .iload_n 1, 1), (3, .invokevirtual 110, 3), (6, .i2l, 1), (7, .putfield 13, 3), (10, .goto 6, 3), (13, .astore_n 3, 1), (14, .iconst 1, 1), (15, .ireturn, 1), (16, .iconst 0, 1), (17, .ireturn, 1)] := dw_all (l := [44, 42, 27, 182, 0, 110, 133, 181, 0, 13, 167, 0, 6, 78, 4, 172, 3, 172]) (by decide +kernel)
theorem dL_digits_0 : decode cL_digits 0 = .ok (.aload_n 2, 1) := wtL_digits_0.1
theorem dL_digits_1 : decode cL_digits 1 = .ok (.aload_n 0, 1) := wtL_digits_0.2.1
theorem dL_digits_2 : decode cL_digits 2 = .ok (.iload_n 1, 1) := wtL_digits_0.2.2.1
theorem dL_digits_3 : decode cL_digits 3 = .ok (.invokevirtual 110, 3) := wtL_digits_0.2.2.2.1
theorem dL_digits_6 : decode cL_digits 6 = .ok (.i2l, 1) := wtL_digits_0.2.2.2.2.1
theorem dL_digits_7 : decode cL_digits 7 = .ok (.putfield 13, 3) := wtL_digits_0.2.2.2.2.2.1
theorem dL_digits_10 : decode cL_digits 10 = .ok (.goto 6, 3) := wtL_digits_0.2.2.2.2.2.2.1
theorem dL_digits_13 : decode cL_digits 13 = .ok (.astore_n 3, 1) := wtL_digits_0.2.2.2.2.2.2.2.1
theorem dL_digits_14 : decode cL_digits 14 = .ok (.iconst 1, 1) := wtL_digits_0.2.2.2.2.2.2.2.2.1
theorem dL_digits_15 : decode cL_digits 15 = .ok (.ireturn, 1) := wtL_digits_0.2.2.2.2.2.2.2.2.2.1
theorem dL_digits_16 : decode cL_digits 16 = .ok (.iconst 0, 1) := wtL_digits_0.2.2.2.2.2.2.2.2.2.2.1
theorem dL_digits_17 : decode cL_digits 17 = .ok (.ireturn, 1) := wtL_digits_0.2.2.2.2.2.2.2.2.2.2.2.1
theorem wtL_text_0 : dwcj cL_text 0 [(0, .aload_n 2, 1), (1, .aload_n 0, 1), (2, .iload_n 1, 1), (3, .invokevirtual 113, 3), (6, .putfield 117, 3), (9, .goto 6, 3), (12, .astore_n 3, 1), (13, .iconst 1, 1), (14, .ireturn, 1), (15, .iconst 0, 1), (16, .ireturn, 1)] := dw_all (l := [44, 42, 27, 182, 0, 113, 181, 0, 117, 167, 0, 6, 78, 4, 172, 3, 172]) (by decide +kernel)
theorem dL_text_0 : decode cL_text 0 = .ok (.aload_n 2, 1) := wtL_text_0.1
theorem dL_text_1 : decode cL_text 1 = .ok (.aload_n 0, 1) := wtL_text_0.2.1
theorem dL_text_2 : decode cL_text 2 = .ok (.iload_n 1, 1) := wtL_text_0.2.2.1
theorem dL_text_3 : decode cL_text 3 = .ok (.invokevirtual 113, 3) := wtL_text_0.2.2.2.1
theorem dL_text_6 : decode cL_text 6 = .ok (.putfield 117, 3) := wtL_text_0.2.2.2.2.1
theorem dL_text_9 : decode cL_text 9 = .ok (.goto 6, 3) := wtL_text_0.2.2.2.2.2.1
theorem dL_text_12 : decode cL_text 12 = .ok (.astore_n 3, 1) := wtL_text_0.2.2.2.2.2.2.1
theorem dL_text_13 : decode cL_text 13 = .ok (.iconst 1, 1) := wtL_text_0.2.2.2.2.2.2.2.1
theorem dL_text_14 : decode cL_text 14 = .ok (.ireturn, 1) := wtL_text_0.2.2.2.2.2.2.2.2.1
theorem dL_text_15 : decode cL_text 15 = .ok (.iconst 0, 1) := wtL_text_0.2.2.2.2.2.2.2.2.2.1
theorem dL_text_16 : decode cL_text 16 = .ok (.ireturn, 1) := wtL_text_0.2.2.2.2.2.2.2.2.2.2.1
theorem wtL_code_0 : dwcj cL_code 0 [(0, .aload_n 3, 1), (1, .aload_n 0, 1), (2, .iload_n 1, 1), (3, .iload_n 2, 1), (4, .invokevirtual 121, 3), (7, .putfield 117, 3), (10, .goto 11, 3), (13, .astore 4, 2), (15, .iconst 1, 1), (16, .ireturn, 1), (17, .astore 4, 2), (19, .iconst 2, 1), (20, .ireturn, 1), (21, .iconst 0, 1), (22, .ireturn, 1)] := dw_all (l := [45, 42, 27, 28, 182, 0, 121, 181, 0, 117, 167, 0, 11, 58, 4, 4, 172, 58, 4, 5, 172, 3, 172]) (by decide +kernel)
theorem dL_code_0 : decode cL_code 0 = .ok (.aload_n 3, 1) := wtL_code_0.1
theorem dL_code_1 : decode cL_code 1 = .ok (.aload_n 0, 1) := wtL_code_0.2.1
theorem dL_code_2 : decode cL_code 2 = .ok (.iload_n 1, 1) := wtL_code_0.2.2.1
theorem dL_code_3 : decode cL_code 3 = .ok (.iload_n 2, 1) := wtL_code_0.2.2.2.1
theorem dL_code_4 : decode cL_code 4 = .ok (.invokevirtual 121, 3) := wtL_code_0.2.2.2.2.1
theorem dL_code_7 : decode cL_code 7 = .ok (.putfield 117, 3) := wtL_code_0.2.2.2.2.2.1
theorem dL_code_10 : decode cL_code 10 = .ok (.goto 11, 3) := wtL_code_0.2.2.2.2.2.2.1
theorem dL_code_13 : decode cL_code 13 = .ok (.astore 4, 2) := wtL_code_0.2.2.2.2.2.2.2.1
theorem dL_code_15 : decode cL_code 15 = .ok (.iconst 1, 1) := wtL_code_0.2.2.2.2.2.2.2.2.1
theorem dL_code_16 : decode cL_code 16 = .ok (.ireturn, 1) := wtL_code_0.2.2.2.2.2.2.2.2.2.1
theorem dL_code_17 : decode cL_code 17 = .ok (.astore 4, 2) := wtL_code_0.2.2.2.2.2.2.2.2.2.2.1
theorem dL_code_19 : decode cL_code 19 = .ok (.iconst 2, 1) := wtL_code_0.2.2.2.2.2.2.2.2.2.2.2.1
theorem dL_code_20 : decode cL_code 20 = .ok (.ireturn, 1) := wtL_code_0.2.2.2.2.2.2.2.2.2.2.2.2.1
theorem dL_code_21 : decode cL_code 21 = .ok (.iconst 0, 1) := wtL_code_0.2.2.2.2.2.2.2.2.2.2.2.2.2.1
theorem dL_code_22 : decode cL_code 22 = .ok (.ireturn, 1) := wtL_code_0.2.2.2.2.2.2.2.2.2.2.2.2.2.2.1
theorem wtL_order_0 : dwcj cL_order 0 [(0, .aload_n 3, 1), (1, .aload_n 0, 1), (2, .iload_n 1, 1), (3, .iload_n 2, 1), (4, .invokevirtual 125, 3), (7, .i2l, 1), (8, .putfield 13, 3), (11, .goto 7, 3), (14, .astore 4, 2), (16, .iconst 1, 1), (17, .ireturn, 1), (18, .iconst 0, 1), (19, .ireturn, 1)] := dw_all (l := [45, 42, 27, 28, 182, 0, 125, 133, 181, 0, 13, 167, 0, 7, 58, 4, 4, 172, 3, 172]) (by decide +kernel)
theorem dL_order_0 : decode cL_order 0 = .ok (.aload_n 3, 1) := wtL_order_0.1
theorem dL_order_1 : decode cL_order 1 = .ok (.aload_n 0, 1) := wtL_order_0.2.1
theorem dL_order_2 : decode cL_order 2 = .ok (.iload_n 1, 1) := wtL_order_0.2.2.1
theorem dL_order_3 : decode cL_order 3 = .ok (.iload_n 2, 1) := wtL_order_0.2.2.2.1
theorem dL_order_4 : decode cL_order 4 = .ok (.invokevirtual 125, 3) := wtL_order_0.2.2.2.2.1
theorem dL_order_7 : decode cL_order 7 = .ok (.i2l, 1) := wtL_order_0.2.2.2.2.2.1
theorem dL_order_8 : decode cL_order 8 = .ok (.putfield 13, 3) := wtL_order_0.2.2.2.2.2.2.1
theorem dL_order_11 : decode cL_order 11 = .ok (.goto 7, 3) := wtL_order_0.2.2.2.2.2.2.2.1
theorem dL_order_14 : decode cL_order 14 = .ok (.astore 4, 2) := wtL_order_0.2.2.2.2.2.2.2.2.1
theorem dL_order_16 : decode cL_order 16 = .ok (.iconst 1, 1) := wtL_order_0.2.2.2.2.2.2.2.2.2.1
theorem dL_order_17 : decode cL_order 17 = .ok (.ireturn, 1) := wtL_order_0.2.2.2.2.2.2.2.2.2.2.1
theorem dL_order_18 : decode cL_order 18 = .ok (.iconst 0, 1) := wtL_order_0.2.2.2.2.2.2.2.2.2.2.2.1
theorem dL_order_19 : decode cL_order 19 = .ok (.ireturn, 1) := wtL_order_0.2.2.2.2.2.2.2.2.2.2.2.2.1
theorem wtL_isSame_0 : dwcj cL_isSame 0 [(0, .aload_n 3, 1), (1, .aload_n 0, 1), (2, .iload_n 1, 1), (3, .iload_n 2, 1), (4, .invokevirtual 128, 3), (7, .ifCond .eq 7, 3), (10, .lconst 1, 1), (11, .goto 4, 3), (14, .lconst 0, 1), (15, .putfield 13, 3), (18, .goto 7, 3), (21, .astore 4, 2), (23, .iconst 1, 1)] := dw_all (l := [45, 42, 27, 28, 182, 0, 128, 153, 0, 7, 10, 167, 0, 4, 9, 181, 0, 13, 167, 0, 7, 58, 4, 4]) (by decide +kernel)
theorem dL_isSame_0 : decode cL_isSame 0 = .ok (.aload_n 3, 1) := wtL_isSame_0.1
theorem dL_isSame_1 : decode cL_isSame 1 = .ok (.aload_n 0, 1) := wtL_isSame_0.2.1
theorem dL_isSame_2 : decode cL_isSame 2 = .ok (.iload_n 1, 1) := wtL_isSame_0.2.2.1
theorem dL_isSame_3 : decode cL_isSame 3 = .ok (.iload_n 2, 1) := wtL_isSame_0.2.2.2.1
theorem dL_isSame_4 : decode cL_isSame 4 = .ok (.invokevirtual 128, 3) := wtL_isSame_0.2.2.2.2.1
theorem dL_isSame_7 : decode cL_isSame 7 = .ok (.ifCond .eq 7, 3) := wtL_isSame_0.2.2.2.2.2.1
theorem dL_isSame_10 : decode cL_isSame 10 = .ok (.lconst 1, 1) := wtL_isSame_0.2.2.2.2.2.2.1
theorem dL_isSame_11 : decode cL_isSame 11 = .ok (.goto 4, 3) := wtL_isSame_0.2.2.2.2.2.2.2.1
theorem dL_isSame_14 : decode cL_isSame 14 = .ok (.lconst 0, 1) := wtL_isSame_0.2.2.2.2.2.2.2.2.1
theorem dL_isSame_15 : decode cL_isSame 15 = .ok (.putfield 13, 3) := wtL_isSame_0.2.2.2.2.2.2.2.2.2.1
theorem dL_isSame_18 : decode cL_isSame 18 = .ok (.goto 7, 3) := wtL_isSame_0.2.2.2.2.2.2.2.2.2.2.1
theorem dL_isSame_21 : decode cL_isSame 21 = .ok (.astore 4, 2) := wtL_isSame_0.2.2.2.2.2.2.2.2.2.2.2.1
theorem dL_isSame_23 : decode cL_isSame 23 = .ok (.iconst 1, 1) := wtL_isSame_0.2.2.2.2.2.2.2.2.2.2.2.2.1
theorem wtL_isSame_24 : dwcj cL_isSame 24 [(0, .ireturn, 1), (1, .iconst 0, 1), (2, .ireturn, 1)] := dw_all (l := [172, 3, 172]) (by decide +kernel)
theorem dL_isSame_24 : decode cL_isSame 24 = .ok (.ireturn, 1) := wtL_isSame_24.1
theorem dL_isSame_25 : decode cL_isSame 25 = .ok (.iconst 0, 1) := wtL_isSame_24.2.1
theorem dL_isSame_26 : decode cL_isSame 26 = .ok (.ireturn, 1) := wtL_isSame_24.2.2.1
theorem wtL_value_0 : dwcj cL_value 0 [(0, .aload_n 3, 1), (1, .aload_n 0, 1), (2, .iload_n 1, 1), (3, .iload_n 2, 1), (4, .invokevirtual 131, 3), (7, .i2l, 1), (8, .putfield 13, 3), (11, .goto 7, 3), (14, .astore 4, 2), (16, .iconst 1, 1), (17, .ireturn, 1), (18, .iconst 0, 1), (19, .ireturn, 1)] := dw_all (l := [45, 42, 27, 28, 182, 0, 131, 133, 181, 0, 13, 167, 0, 7, 58, 4, 4, 172, 3, 172]) (by decide +kernel)
theorem dL_value_0 : decode cL_value 0 = .ok (.aload_n 3, 1) := wtL_value_0.1
theorem dL_value_1 : decode cL_value 1 = .ok (.aload_n 0, 1) := wtL_value_0.2.1
theorem dL_value_2 : decode cL_value 2 = .ok (.iload_n 1, 1) := wtL_value_0.2.2.1
theorem dL_value_3 : decode cL_value 3 = .ok (.iload_n 2, 1) := wtL_value_0.2.2.2.1
theorem dL_value_4 : decode cL_value 4 = .ok (.invokevirtual 131, 3) := wtL_value_0.2.2.2.2.1
theorem dL_value_7 : decode cL_value 7 = .ok (.i2l, 1) := wtL_value_0.2.2.2.2.2.1
theorem dL_value_8 : decode cL_value 8 = .ok (.putfield 13, 3) := wtL_value_0.2.2.2.2.2.2.1
theorem dL_value_11 : decode cL_value 11 = .ok (.goto 7, 3) := wtL_value_0.2.2.2.2.2.2.2.1
theorem dL_value_14 : decode cL_value 14 = .ok (.astore 4, 2) := wtL_value_0.2.2.2.2.2.2.2.2.1
theorem dL_value_16 : decode cL_value 16 = .ok (.iconst 1, 1) := wtL_value_0.2.2.2.2.2.2.2.2.2.1
theorem dL_value_17 : decode cL_value 17 = .ok (.ireturn, 1) := wtL_value_0.2.2.2.2.2.2.2.2.2.2.1
theorem dL_value_18 : decode cL_value 18 = .ok (.iconst 0, 1) := wtL_value_0.2.2.2.2.2.2.2.2.2.2.2.1
theorem dL_value_19 : decode cL_value 19 = .ok (.ireturn, 1) := wtL_value_0.2.2.2.2.2.2.2.2.2.2.2.2.1
theorem wtL_divides_0 : dwcj cL_divides 0 [(0, .aload_n 3, 1), (1, .aload_n 0, 1), (2, .iload_n 1, 1), (3, .iload_n 2, 1), (4, .invokevirtual 135, 3), (7, .ifCond .eq 7, 3), (10, .lconst 1, 1), (11, .goto 4, 3), (14, .lconst 0, 1), (15, .putfield 13, 3), (18, .goto 7, 3), (21, .astore 4, 2), (23, .iconst 1, 1)] := dw_all (l := [45, 42, 27, 28, 182, 0, 135, 153, 0, 7, 10, 167, 0, 4, 9, 181, 0, 13, 167, 0, 7, 58, 4, 4]) (by decide +kernel)
theorem dL_divides_0 : decode cL_divides 0 = .ok (.aload_n 3, 1) := wtL_divides_0.1
theorem dL_divides_1 : decode cL_divides 1 = .ok (.aload_n 0, 1) := wtL_divides_0.2.1
theorem dL_divides_2 : decode cL_divides 2 = .ok (.iload_n 1, 1) := wtL_divides_0.2.2.1
theorem dL_divides_3 : decode cL_divides 3 = .ok (.iload_n 2, 1) := wtL_divides_0.2.2.2.1
theorem dL_divides_4 : decode cL_divides 4 = .ok (.invokevirtual 135, 3) := wtL_divides_0.2.2.2.2.1
theorem dL_divides_7 : decode cL_divides 7 = .ok (.ifCond .eq 7, 3) := wtL_divides_0.2.2.2.2.2.1
theorem dL_divides_10 : decode cL_divides 10 = .ok (.lconst 1, 1) := wtL_divides_0.2.2.2.2.2.2.1
theorem dL_divides_11 : decode cL_divides 11 = .ok (.goto 4, 3) := wtL_divides_0.2.2.2.2.2.2.2.1
theorem dL_divides_14 : decode cL_divides 14 = .ok (.lconst 0, 1) := wtL_divides_0.2.2.2.2.2.2.2.2.1
theorem dL_divides_15 : decode cL_divides 15 = .ok (.putfield 13, 3) := wtL_divides_0.2.2.2.2.2.2.2.2.2.1
theorem dL_divides_18 : decode cL_divides 18 = .ok (.goto 7, 3) := wtL_divides_0.2.2.2.2.2.2.2.2.2.2.1
theorem dL_divides_21 : decode cL_divides 21 = .ok (.astore 4, 2) := wtL_divides_0.2.2.2.2.2.2.2.2.2.2.2.1
theorem dL_divides_23 : decode cL_divides 23 = .ok (.iconst 1, 1) := wtL_divides_0.2.2.2.2.2.2.2.2.2.2.2.2.1
theorem wtL_divides_24 : dwcj cL_divides 24 [(0, .ireturn, 1), (1, .iconst 0, 1), (2, .ireturn, 1)] := dw_all (l := [172, 3, 172]) (by decide +kernel)
theorem dL_divides_24 : decode cL_divides 24 = .ok (.ireturn, 1) := wtL_divides_24.1
theorem dL_divides_25 : decode cL_divides 25 = .ok (.iconst 0, 1) := wtL_divides_24.2.1
theorem dL_divides_26 : decode cL_divides 26 = .ok (.ireturn, 1) := wtL_divides_24.2.2.1
theorem wtL_isFree_0 : dwcj cL_isFree 0 [(0, .aload_n 2, 1), (1, .aload_n 0, 1), (2, .iload_n 1, 1), (3, .invokevirtual 138, 3), (6, .ifCond .eq 7, 3), (9, .lconst 1, 1), (10, .goto 4, 3), (13, .lconst 0, 1), (14, .putfield 13, 3), (17, .goto 6, 3), (20, .astore_n 3, 1), (21, .iconst 1, 1), (22, .ireturn, 1), (23, .iconst 0, 1)] := dw_all (l := [44, 42, 27, 182, 0, 138, 153, 0, 7, 10, 167, 0, 4, 9, 181, 0, 13, 167, 0, 6, 78, 4, 172, 3]) (by decide +kernel)
theorem dL_isFree_0 : decode cL_isFree 0 = .ok (.aload_n 2, 1) := wtL_isFree_0.1
theorem dL_isFree_1 : decode cL_isFree 1 = .ok (.aload_n 0, 1) := wtL_isFree_0.2.1
theorem dL_isFree_2 : decode cL_isFree 2 = .ok (.iload_n 1, 1) := wtL_isFree_0.2.2.1
theorem dL_isFree_3 : decode cL_isFree 3 = .ok (.invokevirtual 138, 3) := wtL_isFree_0.2.2.2.1
theorem dL_isFree_6 : decode cL_isFree 6 = .ok (.ifCond .eq 7, 3) := wtL_isFree_0.2.2.2.2.1
theorem dL_isFree_9 : decode cL_isFree 9 = .ok (.lconst 1, 1) := wtL_isFree_0.2.2.2.2.2.1
theorem dL_isFree_10 : decode cL_isFree 10 = .ok (.goto 4, 3) := wtL_isFree_0.2.2.2.2.2.2.1
theorem dL_isFree_13 : decode cL_isFree 13 = .ok (.lconst 0, 1) := wtL_isFree_0.2.2.2.2.2.2.2.1
theorem dL_isFree_14 : decode cL_isFree 14 = .ok (.putfield 13, 3) := wtL_isFree_0.2.2.2.2.2.2.2.2.1
theorem dL_isFree_17 : decode cL_isFree 17 = .ok (.goto 6, 3) := wtL_isFree_0.2.2.2.2.2.2.2.2.2.1
theorem dL_isFree_20 : decode cL_isFree 20 = .ok (.astore_n 3, 1) := wtL_isFree_0.2.2.2.2.2.2.2.2.2.2.1
theorem dL_isFree_21 : decode cL_isFree 21 = .ok (.iconst 1, 1) := wtL_isFree_0.2.2.2.2.2.2.2.2.2.2.2.1
theorem dL_isFree_22 : decode cL_isFree 22 = .ok (.ireturn, 1) := wtL_isFree_0.2.2.2.2.2.2.2.2.2.2.2.2.1
theorem dL_isFree_23 : decode cL_isFree 23 = .ok (.iconst 0, 1) := wtL_isFree_0.2.2.2.2.2.2.2.2.2.2.2.2.2.1
theorem wtL_isFree_24 : dwcj cL_isFree 24 [(0, .ireturn, 1)] := dw_all (l := [172]) (by decide +kernel)
theorem dL_isFree_24 : decode cL_isFree 24 = .ok (.ireturn, 1) := wtL_isFree_24.1
theorem wtL_irreducible_0 : dwcj cL_irreducible 0 [(0, .aload_n 2, 1), (1, .aload_n 0, 1), (2, .iload_n 1, 1), (3, .invokevirtual 142, 3), (6, .i2l, 1), (7, .putfield 13, 3), (10, .goto 6, 3), (13, .astore_n 3, 1), (14, .iconst 1, 1), (15, .ireturn, 1), (16, .iconst 0, 1), (17, .ireturn, 1)] := dw_all (l := [44, 42, 27, 182, 0, 142, 133, 181, 0, 13, 167, 0, 6, 78, 4, 172, 3, 172]) (by decide +kernel)
theorem dL_irreducible_0 : decode cL_irreducible 0 = .ok (.aload_n 2, 1) := wtL_irreducible_0.1
theorem dL_irreducible_1 : decode cL_irreducible 1 = .ok (.aload_n 0, 1) := wtL_irreducible_0.2.1
theorem dL_irreducible_2 : decode cL_irreducible 2 = .ok (.iload_n 1, 1) := wtL_irreducible_0.2.2.1
theorem dL_irreducible_3 : decode cL_irreducible 3 = .ok (.invokevirtual 142, 3) := wtL_irreducible_0.2.2.2.1
theorem dL_irreducible_6 : decode cL_irreducible 6 = .ok (.i2l, 1) := wtL_irreducible_0.2.2.2.2.1
theorem dL_irreducible_7 : decode cL_irreducible 7 = .ok (.putfield 13, 3) := wtL_irreducible_0.2.2.2.2.2.1
theorem dL_irreducible_10 : decode cL_irreducible 10 = .ok (.goto 6, 3) := wtL_irreducible_0.2.2.2.2.2.2.1
theorem dL_irreducible_13 : decode cL_irreducible 13 = .ok (.astore_n 3, 1) := wtL_irreducible_0.2.2.2.2.2.2.2.1
theorem dL_irreducible_14 : decode cL_irreducible 14 = .ok (.iconst 1, 1) := wtL_irreducible_0.2.2.2.2.2.2.2.2.1
theorem dL_irreducible_15 : decode cL_irreducible 15 = .ok (.ireturn, 1) := wtL_irreducible_0.2.2.2.2.2.2.2.2.2.1
theorem dL_irreducible_16 : decode cL_irreducible 16 = .ok (.iconst 0, 1) := wtL_irreducible_0.2.2.2.2.2.2.2.2.2.2.1
theorem dL_irreducible_17 : decode cL_irreducible 17 = .ok (.ireturn, 1) := wtL_irreducible_0.2.2.2.2.2.2.2.2.2.2.2.1
theorem wtL_rank_0 : dwcj cL_rank 0 [(0, .aload_n 2, 1), (1, .aload_n 0, 1), (2, .iload_n 1, 1), (3, .invokevirtual 145, 3), (6, .i2l, 1), (7, .putfield 13, 3), (10, .goto 6, 3), (13, .astore_n 3, 1), (14, .iconst 1, 1), (15, .ireturn, 1), (16, .iconst 0, 1), (17, .ireturn, 1)] := dw_all (l := [44, 42, 27, 182, 0, 145, 133, 181, 0, 13, 167, 0, 6, 78, 4, 172, 3, 172]) (by decide +kernel)
theorem dL_rank_0 : decode cL_rank 0 = .ok (.aload_n 2, 1) := wtL_rank_0.1
theorem dL_rank_1 : decode cL_rank 1 = .ok (.aload_n 0, 1) := wtL_rank_0.2.1
theorem dL_rank_2 : decode cL_rank 2 = .ok (.iload_n 1, 1) := wtL_rank_0.2.2.1
theorem dL_rank_3 : decode cL_rank 3 = .ok (.invokevirtual 145, 3) := wtL_rank_0.2.2.2.1
theorem dL_rank_6 : decode cL_rank 6 = .ok (.i2l, 1) := wtL_rank_0.2.2.2.2.1
theorem dL_rank_7 : decode cL_rank 7 = .ok (.putfield 13, 3) := wtL_rank_0.2.2.2.2.2.1
theorem dL_rank_10 : decode cL_rank 10 = .ok (.goto 6, 3) := wtL_rank_0.2.2.2.2.2.2.1
theorem dL_rank_13 : decode cL_rank 13 = .ok (.astore_n 3, 1) := wtL_rank_0.2.2.2.2.2.2.2.1
theorem dL_rank_14 : decode cL_rank 14 = .ok (.iconst 1, 1) := wtL_rank_0.2.2.2.2.2.2.2.2.1
theorem dL_rank_15 : decode cL_rank 15 = .ok (.ireturn, 1) := wtL_rank_0.2.2.2.2.2.2.2.2.2.1
theorem dL_rank_16 : decode cL_rank 16 = .ok (.iconst 0, 1) := wtL_rank_0.2.2.2.2.2.2.2.2.2.2.1
theorem dL_rank_17 : decode cL_rank 17 = .ok (.ireturn, 1) := wtL_rank_0.2.2.2.2.2.2.2.2.2.2.2.1
theorem wtL_factors_0 : dwcj cL_factors 0 [(0, .aload_n 2, 1), (1, .aload_n 0, 1), (2, .iload_n 1, 1), (3, .invokevirtual 148, 3), (6, .putfield 117, 3), (9, .goto 6, 3), (12, .astore_n 3, 1), (13, .iconst 1, 1), (14, .ireturn, 1), (15, .iconst 0, 1), (16, .ireturn, 1)] := dw_all (l := [44, 42, 27, 182, 0, 148, 181, 0, 117, 167, 0, 6, 78, 4, 172, 3, 172]) (by decide +kernel)
theorem dL_factors_0 : decode cL_factors 0 = .ok (.aload_n 2, 1) := wtL_factors_0.1
theorem dL_factors_1 : decode cL_factors 1 = .ok (.aload_n 0, 1) := wtL_factors_0.2.1
theorem dL_factors_2 : decode cL_factors 2 = .ok (.iload_n 1, 1) := wtL_factors_0.2.2.1
theorem dL_factors_3 : decode cL_factors 3 = .ok (.invokevirtual 148, 3) := wtL_factors_0.2.2.2.1
theorem dL_factors_6 : decode cL_factors 6 = .ok (.putfield 117, 3) := wtL_factors_0.2.2.2.2.1
theorem dL_factors_9 : decode cL_factors 9 = .ok (.goto 6, 3) := wtL_factors_0.2.2.2.2.2.1
theorem dL_factors_12 : decode cL_factors 12 = .ok (.astore_n 3, 1) := wtL_factors_0.2.2.2.2.2.2.1
theorem dL_factors_13 : decode cL_factors 13 = .ok (.iconst 1, 1) := wtL_factors_0.2.2.2.2.2.2.2.1
theorem dL_factors_14 : decode cL_factors 14 = .ok (.ireturn, 1) := wtL_factors_0.2.2.2.2.2.2.2.2.1
theorem dL_factors_15 : decode cL_factors 15 = .ok (.iconst 0, 1) := wtL_factors_0.2.2.2.2.2.2.2.2.2.1
theorem dL_factors_16 : decode cL_factors 16 = .ok (.ireturn, 1) := wtL_factors_0.2.2.2.2.2.2.2.2.2.2.1
theorem wtL_period_0 : dwcj cL_period 0 [(0, .aload_n 2, 1), (1, .aload_n 0, 1), (2, .iload_n 1, 1), (3, .invokevirtual 151, 3), (6, .i2l, 1), (7, .putfield 13, 3), (10, .goto 6, 3), (13, .astore_n 3, 1), (14, .iconst 1, 1), (15, .ireturn, 1), (16, .iconst 0, 1), (17, .ireturn, 1)] := dw_all (l := [44, 42, 27, 182, 0, 151, 133, 181, 0, 13, 167, 0, 6, 78, 4, 172, 3, 172]) (by decide +kernel)
theorem dL_period_0 : decode cL_period 0 = .ok (.aload_n 2, 1) := wtL_period_0.1
theorem dL_period_1 : decode cL_period 1 = .ok (.aload_n 0, 1) := wtL_period_0.2.1
theorem dL_period_2 : decode cL_period 2 = .ok (.iload_n 1, 1) := wtL_period_0.2.2.1
theorem dL_period_3 : decode cL_period 3 = .ok (.invokevirtual 151, 3) := wtL_period_0.2.2.2.1
theorem dL_period_6 : decode cL_period 6 = .ok (.i2l, 1) := wtL_period_0.2.2.2.2.1
theorem dL_period_7 : decode cL_period 7 = .ok (.putfield 13, 3) := wtL_period_0.2.2.2.2.2.1
theorem dL_period_10 : decode cL_period 10 = .ok (.goto 6, 3) := wtL_period_0.2.2.2.2.2.2.1
theorem dL_period_13 : decode cL_period 13 = .ok (.astore_n 3, 1) := wtL_period_0.2.2.2.2.2.2.2.1
theorem dL_period_14 : decode cL_period 14 = .ok (.iconst 1, 1) := wtL_period_0.2.2.2.2.2.2.2.2.1
theorem dL_period_15 : decode cL_period 15 = .ok (.ireturn, 1) := wtL_period_0.2.2.2.2.2.2.2.2.2.1
theorem dL_period_16 : decode cL_period 16 = .ok (.iconst 0, 1) := wtL_period_0.2.2.2.2.2.2.2.2.2.2.1
theorem dL_period_17 : decode cL_period 17 = .ok (.ireturn, 1) := wtL_period_0.2.2.2.2.2.2.2.2.2.2.2.1
theorem wtL_many_0 : dwcj cL_many 0 [(0, .aload_n 2, 1), (1, .aload_n 0, 1), (2, .iload_n 1, 1), (3, .invokevirtual 154, 3), (6, .i2l, 1), (7, .putfield 13, 3), (10, .goto 6, 3), (13, .astore_n 3, 1), (14, .iconst 1, 1), (15, .ireturn, 1), (16, .iconst 0, 1), (17, .ireturn, 1)] := dw_all (l := [44, 42, 27, 182, 0, 154, 133, 181, 0, 13, 167, 0, 6, 78, 4, 172, 3, 172]) (by decide +kernel)
theorem dL_many_0 : decode cL_many 0 = .ok (.aload_n 2, 1) := wtL_many_0.1
theorem dL_many_1 : decode cL_many 1 = .ok (.aload_n 0, 1) := wtL_many_0.2.1
theorem dL_many_2 : decode cL_many 2 = .ok (.iload_n 1, 1) := wtL_many_0.2.2.1
theorem dL_many_3 : decode cL_many 3 = .ok (.invokevirtual 154, 3) := wtL_many_0.2.2.2.1
theorem dL_many_6 : decode cL_many 6 = .ok (.i2l, 1) := wtL_many_0.2.2.2.2.1
theorem dL_many_7 : decode cL_many 7 = .ok (.putfield 13, 3) := wtL_many_0.2.2.2.2.2.1
theorem dL_many_10 : decode cL_many 10 = .ok (.goto 6, 3) := wtL_many_0.2.2.2.2.2.2.1
theorem dL_many_13 : decode cL_many 13 = .ok (.astore_n 3, 1) := wtL_many_0.2.2.2.2.2.2.2.1
theorem dL_many_14 : decode cL_many 14 = .ok (.iconst 1, 1) := wtL_many_0.2.2.2.2.2.2.2.2.1
theorem dL_many_15 : decode cL_many 15 = .ok (.ireturn, 1) := wtL_many_0.2.2.2.2.2.2.2.2.2.1
theorem dL_many_16 : decode cL_many 16 = .ok (.iconst 0, 1) := wtL_many_0.2.2.2.2.2.2.2.2.2.2.1
theorem dL_many_17 : decode cL_many 17 = .ok (.ireturn, 1) := wtL_many_0.2.2.2.2.2.2.2.2.2.2.2.1
theorem wtL_formula_0 : dwcj cL_formula 0 [(0, .aload_n 2, 1), (1, .aload_n 0, 1), (2, .iload_n 1, 1), (3, .invokevirtual 157, 3), (6, .i2l, 1), (7, .putfield 13, 3), (10, .goto 6, 3), (13, .astore_n 3, 1), (14, .iconst 1, 1), (15, .ireturn, 1), (16, .iconst 0, 1), (17, .ireturn, 1)] := dw_all (l := [44, 42, 27, 182, 0, 157, 133, 181, 0, 13, 167, 0, 6, 78, 4, 172, 3, 172]) (by decide +kernel)
theorem dL_formula_0 : decode cL_formula 0 = .ok (.aload_n 2, 1) := wtL_formula_0.1
theorem dL_formula_1 : decode cL_formula 1 = .ok (.aload_n 0, 1) := wtL_formula_0.2.1
theorem dL_formula_2 : decode cL_formula 2 = .ok (.iload_n 1, 1) := wtL_formula_0.2.2.1
theorem dL_formula_3 : decode cL_formula 3 = .ok (.invokevirtual 157, 3) := wtL_formula_0.2.2.2.1
theorem dL_formula_6 : decode cL_formula 6 = .ok (.i2l, 1) := wtL_formula_0.2.2.2.2.1
theorem dL_formula_7 : decode cL_formula 7 = .ok (.putfield 13, 3) := wtL_formula_0.2.2.2.2.2.1
theorem dL_formula_10 : decode cL_formula 10 = .ok (.goto 6, 3) := wtL_formula_0.2.2.2.2.2.2.1
theorem dL_formula_13 : decode cL_formula 13 = .ok (.astore_n 3, 1) := wtL_formula_0.2.2.2.2.2.2.2.1
theorem dL_formula_14 : decode cL_formula 14 = .ok (.iconst 1, 1) := wtL_formula_0.2.2.2.2.2.2.2.2.1
theorem dL_formula_15 : decode cL_formula 15 = .ok (.ireturn, 1) := wtL_formula_0.2.2.2.2.2.2.2.2.2.1
theorem dL_formula_16 : decode cL_formula 16 = .ok (.iconst 0, 1) := wtL_formula_0.2.2.2.2.2.2.2.2.2.2.1
theorem dL_formula_17 : decode cL_formula 17 = .ok (.ireturn, 1) := wtL_formula_0.2.2.2.2.2.2.2.2.2.2.2.1
theorem wtL_find_0 : dwcj cL_find 0 [(0, .aload_n 3, 1), (1, .aload_n 0, 1), (2, .iload_n 1, 1), (3, .iload_n 2, 1), (4, .invokevirtual 160, 3), (7, .i2l, 1), (8, .putfield 13, 3), (11, .goto 7, 3), (14, .astore 4, 2), (16, .iconst 1, 1), (17, .ireturn, 1), (18, .iconst 0, 1), (19, .ireturn, 1)] := dw_all (l := [45, 42, 27, 28, 182, 0, 160, 133, 181, 0, 13, 167, 0, 7, 58, 4, 4, 172, 3, 172]) (by decide +kernel)
theorem dL_find_0 : decode cL_find 0 = .ok (.aload_n 3, 1) := wtL_find_0.1
theorem dL_find_1 : decode cL_find 1 = .ok (.aload_n 0, 1) := wtL_find_0.2.1
theorem dL_find_2 : decode cL_find 2 = .ok (.iload_n 1, 1) := wtL_find_0.2.2.1
theorem dL_find_3 : decode cL_find 3 = .ok (.iload_n 2, 1) := wtL_find_0.2.2.2.1
theorem dL_find_4 : decode cL_find 4 = .ok (.invokevirtual 160, 3) := wtL_find_0.2.2.2.2.1
theorem dL_find_7 : decode cL_find 7 = .ok (.i2l, 1) := wtL_find_0.2.2.2.2.2.1
theorem dL_find_8 : decode cL_find 8 = .ok (.putfield 13, 3) := wtL_find_0.2.2.2.2.2.2.1
theorem dL_find_11 : decode cL_find 11 = .ok (.goto 7, 3) := wtL_find_0.2.2.2.2.2.2.2.1
theorem dL_find_14 : decode cL_find 14 = .ok (.astore 4, 2) := wtL_find_0.2.2.2.2.2.2.2.2.1
theorem dL_find_16 : decode cL_find 16 = .ok (.iconst 1, 1) := wtL_find_0.2.2.2.2.2.2.2.2.2.1
theorem dL_find_17 : decode cL_find 17 = .ok (.ireturn, 1) := wtL_find_0.2.2.2.2.2.2.2.2.2.2.1
theorem dL_find_18 : decode cL_find 18 = .ok (.iconst 0, 1) := wtL_find_0.2.2.2.2.2.2.2.2.2.2.2.1
theorem dL_find_19 : decode cL_find 19 = .ok (.ireturn, 1) := wtL_find_0.2.2.2.2.2.2.2.2.2.2.2.2.1
theorem wtL_house_0 : dwcj cL_house 0 [(0, .aload_n 2, 1), (1, .aload_n 0, 1), (2, .iload_n 1, 1), (3, .invokevirtual 163, 3), (6, .i2l, 1), (7, .putfield 13, 3), (10, .goto 6, 3), (13, .astore_n 3, 1), (14, .iconst 1, 1), (15, .ireturn, 1), (16, .iconst 0, 1), (17, .ireturn, 1)] := dw_all (l := [44, 42, 27, 182, 0, 163, 133, 181, 0, 13, 167, 0, 6, 78, 4, 172, 3, 172]) (by decide +kernel)
theorem dL_house_0 : decode cL_house 0 = .ok (.aload_n 2, 1) := wtL_house_0.1
theorem dL_house_1 : decode cL_house 1 = .ok (.aload_n 0, 1) := wtL_house_0.2.1
theorem dL_house_2 : decode cL_house 2 = .ok (.iload_n 1, 1) := wtL_house_0.2.2.1
theorem dL_house_3 : decode cL_house 3 = .ok (.invokevirtual 163, 3) := wtL_house_0.2.2.2.1
theorem dL_house_6 : decode cL_house 6 = .ok (.i2l, 1) := wtL_house_0.2.2.2.2.1
theorem dL_house_7 : decode cL_house 7 = .ok (.putfield 13, 3) := wtL_house_0.2.2.2.2.2.1
theorem dL_house_10 : decode cL_house 10 = .ok (.goto 6, 3) := wtL_house_0.2.2.2.2.2.2.1
theorem dL_house_13 : decode cL_house 13 = .ok (.astore_n 3, 1) := wtL_house_0.2.2.2.2.2.2.2.1
theorem dL_house_14 : decode cL_house 14 = .ok (.iconst 1, 1) := wtL_house_0.2.2.2.2.2.2.2.2.1
theorem dL_house_15 : decode cL_house 15 = .ok (.ireturn, 1) := wtL_house_0.2.2.2.2.2.2.2.2.2.1
theorem dL_house_16 : decode cL_house 16 = .ok (.iconst 0, 1) := wtL_house_0.2.2.2.2.2.2.2.2.2.2.1
theorem dL_house_17 : decode cL_house 17 = .ok (.ireturn, 1) := wtL_house_0.2.2.2.2.2.2.2.2.2.2.2.1
/-! ===== the law's own layer: its notebook (Out), calls in a wider world, methods with a table ===== -/
section WA
/-- the notebook: its number and its text -/
def wOut (w : Nat) (n : Int64) (sv : Value) : va_W := [(w, .inr (3, [.long n, sv]))]
def AtW (D : va_G) (w : Nat) (n : Int64) (sv : Value) (U : State) (H : Heap) : Prop := va_P D vwCl (wOut w n sv) H ∧ va_K D vwCl [] U ∧ (sv = .null ∨ ∃ q, sv = .ref q)
theorem AtW.D {D : va_G} {w : Nat} {n : Int64} {sv : Value} {U : State} {H : Heap} {A : Nat → Prop} (_ : AtW D w n sv U H) (hw : A w) : va_D A (wOut w n sv) := by
  refine ⟨fun i j p q hp hq _ => ?_, fun k q hk => ?_⟩
  · match i, j, hp, hq with
    | 0, 0, _, _ => rfl
    | i + 1, _, hp, _ => simp [wOut] at hp
    | 0, j + 1, _, hq => simp [wOut] at hq
  · match k, hk with
    | 0, hk => cases hk; exact hw
    | k + 1, hk => simp [wOut] at hk
theorem AtW.moved {D : va_G} {w : Nat} {n : Int64} {sv : Value} {u U : State} {H : Heap} (hvm : u.vm.Alike U.vm) (h : AtW D w n sv u H) : AtW D w n sv U H := ⟨h.1, va_K.moved hvm h.2.1, h.2.2⟩
theorem AtW.lt {D : va_G} {w : Nat} {n : Int64} {sv : Value} {U : State} {H : Heap} (h : AtW D w n sv U H) : w < H.size := (h.1 0 _ rfl).lt
theorem AtW.kept {D : va_G} {w : Nat} {n : Int64} {sv : Value} {U : State} {H H1 : Heap} (h : AtW D w n sv U H) (hw : H1[w]? = H[w]?) : AtW D w n sv U H1 := by
  refine ⟨h.1.kept (fun k q hk => ?_), h.2⟩
  match k, hk with
  | 0, hk => cases hk; exact hw
  | k + 1, hk => simp [wOut] at hk
end WA
section WB
variable {p : Program} {l : Launch} {e : Env} {R : Room} {s : State} {m : MethodId} {args : Array Value} {below : List Frame} {meth : Method} {c : Code} {H : Heap} {locs : List Loc} {cells slots : Nat} {Q : State → Prop}
variable {cc : ByteArray} {pc nL : Nat} {ls : Array Slot} {rest st : List Value} {own : String} {lv : List (Nat × Value)} {D : va_G} {ci : Nat} {cJ : ClassId} {o a : Nat} {ce : Nat → Nat} {fs : List Value} {A : Nat → Prop} {E : String}
/-- a call of an object's method, from any world: what isn't the object's stays -/
theorem zg_call (C : CallFix p m c cc nL s args T0 own) (hAt : AtO D ci cJ o a ce fs s H) (hS : va_S A s.heap H locs) (hA : ∀ q, zF o a H.size q → A q) {y : MethodName} {fr need mc ms idx : Nat} {as : List Value} {rv : Option Value → Prop} {c2 : Nat → Nat} {fs2 : List Value} {T : u_T} {N : Nat} (hM : zA l y fr need mc ms D ci cJ o a as ce fs rv c2 fs2) (hG : Cond.methodLink own idx y ∈ lw_tbl) (hcl : vwCl[ci]? = some (y.cls, T, N))
    (hR : fr + 1 ≤ R.frames ∧ need ≤ R.locals) (hf : cells + mc ≤ R.cells ∧ slots + ms ≤ R.slots) (hl : lv_has ls nL lv) (hcat : (rest.map fun v => v.category).sum ≤ 8) (hst : st = as.reverse ++ .ref o :: rest) (d : decode cc pc = .ok (.invokevirtual idx, 3))
    (k : ∀ v H1 locs1, rv v → AtO D ci cJ o a c2 fs2 s H1 → va_S A s.heap H1 locs1 → (∀ q : Nat, q < H.size → ¬ (q = o ∨ q = a) → H1[q]? = H[q]?) → H.size ≤ H1.size → W p l e R s m args below meth c H1 locs1 (cells + mc) (slots + ms) Q (F0 m (pc + 3) ls (v.toList ++ rest))) : W p l e R s m args below meth c H locs cells slots Q (F0 m pc ls st) := by
  obtain ⟨bytes, maxL, lo, ret, hz, hn, hd, hM⟩ := hM
  have hM := hM H.size
  have cw := cwV (R := R) (own := own) (index := idx) (C := y.cls) (y := y) (bytes := bytes) (maxL := maxL) (ret := ret) (ws := Cond.code y bytes maxL ret :: T0) (ws' := T0) (rm := { frames := fr, cells := mc, slots := ms, locals := lo }) (mc := mc) (ms := ms) as.length C.2.2.2.2 (zgV hG hz) rfl rfl rfl hd ⟨hR.1, by rw [hn] at hR; exact hR.2⟩
  have hr := va_runV (p := p) (l := l) (e := e) (below := below) (meth := meth) (c := c) (H := H) (locs := locs) (cells := cells) (slots := slots) (g := F0 m pc ls st) (rest := rest) C hM cw ⟨fun A U g mk q => ⟨q.1, q.2.1, q.2.2.moved (U := U.calling g mk A) (Vm.Alike.refl U.vm)⟩, va_recv hAt.2.1 hAt.1 (ci := ci) (q0 := 0) hcl rfl, fun U hU hW => ⟨rfl, by rw [hU], by rw [hU]; exact hAt.moved hW.alike⟩⟩ rfl rfl hl.1 hst (lv_room hcat) d hf
  intro T9 hT X
  obtain ⟨v2, st₀, t, T', L, h0, X', hL, e1, e2, ⟨⟨v3, hv, hrv⟩, hAt2, hF⟩, st2⟩ := hr T9 hT X
  cases hv
  obtain ⟨hz2, hk2⟩ := hF
  rw [h0] at hz2 hk2
  have hss : s.heap.size ≤ H.size := hS.1
  have hS2 : va_S A s.heap T'.heap (locs ++ L) := by
    refine ⟨Nat.le_trans hss (by rw [e1]; exact hz2), fun q h1 h2 => ?_, fun q hq => ?_⟩
    · rw [e1, hk2 q (Nat.lt_of_lt_of_le h1 hss) (fun z => h2 (hA q z))]
      exact hS.2.1 q h1 h2
    · rcases List.mem_append.mp hq with h | h
      · exact hS.2.2 q h
      · exact hA _ (hL q h)
  obtain ⟨t2, a1, b1⟩ := k v2 T'.heap (locs ++ L) hrv (by rw [e1]; exact hAt2.moved (by rw [← e2]; exact X'.warmed.alike.symm)) hS2 (fun q h1 h2 => by rw [e1]; exact hk2 q h1 (fun z => by rcases z with z | z | z; exact h2 (Or.inl z); exact h2 (Or.inr z); omega)) (by rw [e1]; exact hz2) T' rfl X'
  exact ⟨t2, st2 t2 a1, b1⟩
/-- .. that throws: what comes then is the caller's business (vx_W) -/
theorem zg_callX (C : CallFix p m c cc nL s args T0 own) (hAt : AtO D 2 cJ o a ce fs s H) (hE : zE (zoa o a) s H) (hS : va_S A s.heap H locs) (hA : ∀ q, zF o a H.size q → A q) {y : MethodName} {fr need idx : Nat} {as : List Value} {T : u_T} {N : Nat} (hM : zXI l y fr need D cJ o a as ce fs E) (hG : Cond.methodLink own idx y ∈ lw_tbl) (hcl : vwCl[2]? = some (y.cls, T, N))
    (hR : fr + 1 ≤ R.frames ∧ need ≤ R.locals) (hf : cells + 1 ≤ R.cells ∧ slots + 6 ≤ R.slots) (hl : lv_has ls nL lv) (hcat : (rest.map fun v => v.category).sum ≤ 8) (hst : st = as.reverse ++ .ref o :: rest) (d : decode cc pc = .ok (.invokevirtual idx, 3))
    (k : ∀ H1 locs1 ce1 q1, AtO D 2 cJ o a ce fs s H1 → va_S A s.heap H1 locs1 → (∀ q : Nat, q < H.size → ¬ (q = o ∨ q = a) → H1[q]? = H[q]?) → H.size ≤ H1.size → H1[q1]? = some ce1 → ce1.vm = .none → s.vm.findClass E = some ce1.cls → vx_W p l e R s m args below meth c H1 locs1 (cells + 1) (slots + 6) Q (F0 m pc ls rest) q1) : W p l e R s m args below meth c H locs cells slots Q (F0 m pc ls st) := by
  obtain ⟨bytes, maxL, lo, ret, hz, hn, hd, hM⟩ := hM
  have hM := hM H.size
  have cw := cwV (R := R) (own := own) (index := idx) (C := y.cls) (y := y) (bytes := bytes) (maxL := maxL) (ret := ret) (ws := Cond.code y bytes maxL ret :: T0) (ws' := T0) (rm := { frames := fr, cells := 1, slots := 6, locals := lo }) (mc := 1) (ms := 6) as.length C.2.2.2.2 (zgV hG hz) rfl rfl rfl hd ⟨hR.1, by rw [hn] at hR; exact hR.2⟩
  have hr := vx_runV (p := p) (l := l) (e := e) (below := below) (meth := meth) (c := c) (H := H) (locs := locs) (cells := cells) (slots := slots) (g := F0 m pc ls st) (rest := rest) C hM cw ⟨fun A U g mk q => ⟨q.1, q.2.1, q.2.2.1.moved (U := U.calling g mk A) (Vm.Alike.refl U.vm), q.2.2.2.warm (State.WarmedH.refl U)⟩, va_recv hAt.2.1 hAt.1 (ci := 2) (q0 := 0) hcl rfl, fun U hU hW => ⟨rfl, by rw [hU], by rw [hU]; exact hAt.moved hW.alike, by rw [hU]; exact hE.warm hW⟩⟩ rfl rfl hl.1 hst (lv_room hcat) d hf
  intro T9 hT X
  rcases hr T9 hT X with ⟨v, st₀, t, T', L, h0, X', hL, e1, e2, hq, st2⟩ | ⟨q, st₀, t, T', L, E', ce', h0, X', hL, e1, e2, hq, hce, hcv, hcl, st2⟩
  · exact hq.elim
  · obtain ⟨hE', hAt0, hz2, hk2⟩ := hq
    subst hE'
    rw [h0] at hz2 hk2
    have hss : s.heap.size ≤ H.size := hS.1
    have hS2 : va_S A s.heap T'.heap (locs ++ L) := by
      refine ⟨Nat.le_trans hss (by rw [e1]; exact hz2), fun q h1 h2 => ?_, fun q hq => ?_⟩
      · rw [e1, hk2 q (Nat.lt_of_lt_of_le h1 hss) (fun z => h2 (hA q z))]
        exact hS.2.1 q h1 h2
      · rcases List.mem_append.mp hq with h | h
        · exact hS.2.2 q h
        · exact hA _ (hL q h)
    obtain ⟨t2, a1, b1⟩ := k T'.heap (locs ++ L) ce' q (by rw [e1]; exact hAt0.moved (by rw [← e2]; exact X'.warmed.alike.symm)) hS2 (fun q h1 h2 => by rw [e1]; exact hk2 q h1 (fun z => by rcases z with z | z | z; exact h2 (Or.inl z); exact h2 (Or.inr z); omega)) (by rw [e1]; exact hz2) (by rw [e1]; exact hce) hcv hcl T' rfl X'
    exact ⟨t2, st2.trans a1, b1⟩
/-- a field of the notebook is written -/
theorem zw_put (C : CallFix p m c cc nL s args T0 RL) {w : Nat} {n : Int64} {sv v : Value} {n2 : Int64} {sv2 : Value} (hW : AtW D w n sv s H) (hS : va_S A s.heap H locs) (hA : A w) (k : Nat) (hk : k < 2) (h2 : [.long n, sv].set k v = [.long n2, sv2]) (hs2 : sv2 = .null ∨ ∃ q, sv2 = .ref q) {ty : FieldType} (hd : parseFieldDescriptor (TX4 k).2.2.1 = some ty) (hn : narrow ty v = v) (hfit : fits ty v = true) {idx : Nat} {host : String} (hlink : va_Nw (Cond.fieldLinkNest RL idx "CarryfreeLaw$Out" (TX4 k).2.1 (TX4 k).2.2.1 host) s) (d : decode cc pc = .ok (.putfield idx, 3))
    (kk : ∀ H1 locs1, AtW D w n2 sv2 s H1 → va_S A s.heap H1 locs1 → (∀ q : Nat, q ≠ w → H1[q]? = H[q]?) → H1.size = H.size → W p l e R s m args below meth c H1 locs1 cells slots Q (F0 m (pc + 3) ls rest)) : W p l e R s m args below meth c H locs cells slots Q (F0 m pc ls (v :: .ref w :: rest)) := by
  have hts : ∀ y ∈ T0, y.before args s = true := C.2.2.2.2
  have hap := va_apart (own := RL) (cl := vwCl) (ci := 3) (C := RX4) (T := TX4) (N := 2) hts inX4 tyX4 tyX4_ok nmX4 hW.2.1 rfl
  obtain ⟨r, h1, cell, q1, q2, q3, q4⟩ := hW.1 0 _ rfl
  have hr : r = (RX4, TX4, 2) := Option.some.inj h1.symm
  subst hr
  obtain ⟨hSl, hfc, kC, hkC, hkind⟩ := hW.2.1.1 3 _ rfl
  obtain ⟨cf, kf, fi, f, hi, hsl⟩ := hSl k hk
  have hlay := hts _ (inX4 _ (u_in_lay hk))
  have hfin : (TX4 k).2.2.2 = false := by match k, hk with | 0, _ => rfl | 1, _ => rfl
  have hsame : (TX4 k).1 = "CarryfreeLaw$Out" := by match k, hk with | 0, _ => rfl | 1, _ => rfl
  unfold u_lay at hlay
  rw [if_neg (by rw [hfin]; decide)] at hlay
  have hst := (u_facts hfc hkC (u_lays hts inX4 hk) hi).1
  have h6 := u_store hfc hkC hkind hlay hi hd hn hfit
  refine va_WputK C.1 C.2.1 (f := f) C.2.2.2.1 (hlink.use rfl) (by rw [← hsame]; exact hi) hst (by rw [q2]; exact h6) q1 q3 (by rw [hsl]; exact k2_hasslot (q4 k hk)) rfl rfl d fun H' e1 e2 e3 => ?_
  rw [hsl] at e1 ⊢
  have hl : k < ([.long n, sv] : List Value).length := hk
  have hat : va_at D vwCl (w, .inr (3, [Value.long n, sv].set k v)) H' := ⟨_, rfl, t_OB.to (V := updV (vp_V [Value.long n, sv]) k v) ⟨_, e1, q2, q3, t_set q4 hap hk v⟩ (fun j _ => vp_updV_set hl v j)⟩
  have hP := hW.1.set (hW.D (A := A) hA) (p := 0) rfl hat e3
  rw [h2] at hP
  exact kk H' _ ⟨hP, hW.2.1, hs2⟩ (hS.put e2 e3 hA) e3 e2
/-- the notebook's number is written -/
theorem zw_putN (C : CallFix p m c cc nL s args T0 RL) {w : Nat} {n x : Int64} {sv : Value} (hW : AtW D w n sv s H) (hS : va_S A s.heap H locs) (hA : A w) {idx : Nat} {host : String} (hlink : va_Nw (Cond.fieldLinkNest RL idx "CarryfreeLaw$Out" "n" "J" host) s) (d : decode cc pc = .ok (.putfield idx, 3))
    (kk : ∀ H1 locs1, AtW D w x sv s H1 → va_S A s.heap H1 locs1 → (∀ q : Nat, q ≠ w → H1[q]? = H[q]?) → H1.size = H.size → W p l e R s m args below meth c H1 locs1 cells slots Q (F0 m (pc + 3) ls rest)) : W p l e R s m args below meth c H locs cells slots Q (F0 m pc ls (.long x :: .ref w :: rest)) :=
  zw_put C hW hS hA 0 (by decide) rfl hW.2.2 (ty := .long) rfl rfl rfl hlink d kk
end WB
section WC
/-- a method with a table that always answers -/
theorem zMet_ofWH {l : Launch} {y : MethodName} {ws ws' : List Cond} {rm : Room} {Pc : Array Value → State → Prop} {Qc : Array Value → State → Outcome → State → Prop} {mc ms : Nat} {free : Addr → Prop} {cc : ByteArray} {maxL : Nat} {ret : Option FieldType} {hh : List (Nat × Nat × Nat × Nat)}
    (hy : plainName y.cls = true) (hw : ws = Cond.codeWith y cc maxL ret hh :: ws')
    (body : ∀ p e s m args below meth c s₁, BodyLoose p l y (headSpec ws rm) cc maxL ret e s m args below meth c s₁ → c.maxLocals = maxL → Pc args s →
      W p l e (headSpec ws rm).room s m args below meth c s.heap [] 0 0 (MQ below Qc args s mc ms free) (entryFrame m args maxL)) : Met l y ws rm Pc Qc mc ms free := by
  refine MetFree.of_bodyS (code := cc) (maxLocals := maxL) (ret := ret) hy ?_ ?_
  · intro args s m h hn
    obtain ⟨m9, meth, c, hn9, h1, h2, h3, h4, -, h5, h6, -⟩ := Cond.codeWith_spec (atoms_spec (ws := ws) h _ (by rw [hw]; exact List.mem_cons_self))
    cases hn.symm.trans hn9
    exact ⟨meth, c, h1, h2, h3, h4, h5, h6⟩
  · intro p e s m args below meth c s₁ B hml hP _
    have hh0 : s₁.heap = s.heap := by rw [B.state]; rfl
    obtain ⟨t, a1, o, b1, b2, b3⟩ := body p e s m args below meth c s₁ B hml hP s₁ hh0 (Stand.of_body B)
    exact ⟨t, o, a1, b1, b2, ⟨b3.1, b3.2⟩⟩
def zNI : String := "java/lang/IndexOutOfBoundsException"
def zNA : String := "java/lang/IllegalArgumentException"
/-- what catching wants of the tables -/
def zCt (U : State) : Prop := (Cond.castable zNI zNI).before #[] U = true ∧ (Cond.castable zNA zNA).before #[] U = true ∧ va_Nc zNA zNI U ∧ va_Nw (Cond.fieldLinkNest RL 13 "CarryfreeLaw$Out" "n" "J" RL) U ∧ va_Nw (Cond.fieldLinkNest RL 117 "CarryfreeLaw$Out" "s" "Ljava/lang/String;" RL) U
theorem zCt.warm {s U : State} (hW : s.WarmedH U.vm) (h : zCt s) : zCt U := ⟨zW_move hW rfl h.1, zW_move hW rfl h.2.1, h.2.2.1.moved hW.alike, h.2.2.2.1.warmF hW, h.2.2.2.2.warmF hW⟩
def zFw (o a w sz : Nat) : Nat → Prop := fun q => q = w ∨ zF o a sz q
/-- the law's world in a wrapper: the object, the notebook, what throws and what catches -/
def zLi (D : va_G) (cJ : ClassId) (o a w : Nat) (ce : Nat → Nat) (fs : List Value) (n : Int64) (sv : Value) (U : State) (H : Heap) : Prop :=
  AtO D 2 cJ o a ce fs U H ∧ AtW D w n sv U H ∧ (w ≠ o ∧ w ≠ a) ∧ zE (fun q => q = w ∨ zoa o a q) U H ∧ zCt U
theorem zLi.moved {D : va_G} {cJ : ClassId} {o a w : Nat} {ce : Nat → Nat} {fs : List Value} {n : Int64} {sv : Value} {s U : State} {H : Heap} (hW : s.WarmedH U.vm) (h : zLi D cJ o a w ce fs n sv s H) : zLi D cJ o a w ce fs n sv U H :=
  ⟨h.1.moved hW.alike, h.2.1.moved hW.alike, h.2.2.1, h.2.2.2.1.warm hW, h.2.2.2.2.warm hW⟩
abbrev zL1 (below : List Frame) (D : va_G) (cJ : ClassId) (o a w : Nat) (av : Array Value) (s : State) (mc ms : Nat) (r : Int) (c2 : Nat → Nat) (fs2 : List Value) (n2 : Int64) (sv2 : Value) : State → Prop :=
  MQ below (fun _ st oc t => oc = .returned (some (.int (iZ r))) ∧ AtO D 2 cJ o a c2 fs2 t t.heap ∧ AtW D w n2 sv2 t t.heap ∧ va_F (zFw o a w s.heap.size) st t) av s mc ms (zFw o a w s.heap.size)
/-- a wrapper of the law: it answers r, the object and the notebook are then so -/
def zL (l : Launch) (y : MethodName) (fr need mc ms : Nat) (D : va_G) (cJ : ClassId) (o a w : Nat) (as : List Value) (ce : Nat → Nat) (fs : List Value) (n : Int64) (sv : Value) (r : Int) (c2 : Nat → Nat) (fs2 : List Value) (n2 : Int64) (sv2 : Value) : Prop :=
  ∃ (bytes : ByteArray) (maxL lo : Nat) (hh : List (Nat × Nat × Nat × Nat)), zSW y bytes maxL (some .int) hh ∧ need = 8 + (maxL + 11) + lo ∧
    (y.cls = y.cls ∧ y.cls ≠ "java/lang/invoke/MethodHandle" ∧ y.cls ≠ "java/lang/invoke/VarHandle" ∧ (parseMethodDescriptor y.desc).map (fun d => d.parameters.length) = some as.length) ∧
    ∀ sz : Nat, Met l y (Cond.codeWith y bytes maxL (some .int) hh :: T0) { frames := fr, cells := mc, slots := ms, locals := lo } (fun v U => v = as.toArray ∧ U.heap.size = sz ∧ zLi D cJ o a w ce fs n sv U U.heap)
      (fun _ st oc t => oc = .returned (some (.int (iZ r))) ∧ AtO D 2 cJ o a c2 fs2 t t.heap ∧ AtW D w n2 sv2 t t.heap ∧ va_F (zFw o a w sz) st t) mc ms (zFw o a w sz)
theorem zL.intro {l : Launch} {y : MethodName} {fr need lo nA mc ms : Nat} {D : va_G} {cJ : ClassId} {o a w : Nat} {as : List Value} {ce : Nat → Nat} {fs : List Value} {n : Int64} {sv : Value} {r : Int} {c2 : Nat → Nat} {fs2 : List Value} {n2 : Int64} {sv2 : Value} {cc : ByteArray} {maxL : Nat} {hh : List (Nat × Nat × Nat × Nat)} (hz : zSW y cc maxL (some .int) hh) (hy : plainName y.cls = true) (ho : RL = y.cls) (hn : need = 8 + (maxL + 11) + lo)
    (hd : y.cls ≠ "java/lang/invoke/MethodHandle" ∧ y.cls ≠ "java/lang/invoke/VarHandle" ∧ (parseMethodDescriptor y.desc).map (fun d => d.parameters.length) = some nA) (hA : as.length = nA) (hle : (lg_sl as).length ≤ maxL)
    (body : ∀ (p : Program) (e : Env) (s : State) (m : MethodId) (below : List Frame) (meth : Method) (c0 : Code) (ls : Array Slot), CallFix p m c0 cc maxL s as.toArray T0 RL → meth.sig.returnType = some .int → meth.locks = false → c0.exceptionTable.toList = tableOf hh → zLi D cJ o a w ce fs n sv s s.heap → va_S (zFw o a w s.heap.size) s.heap s.heap [] → lv_has ls maxL (lv_args 0 as) →
      W p l e { frames := fr, cells := mc, slots := ms, locals := lo } s m as.toArray below meth c0 s.heap [] 0 0 (zL1 below D cJ o a w as.toArray s mc ms r c2 fs2 n2 sv2) (F0 m 0 ls [])) : zL l y fr need mc ms D cJ o a w as ce fs n sv r c2 fs2 n2 sv2 := by
  subst hA
  refine ⟨cc, maxL, lo, hh, hz, hn, ⟨rfl, hd⟩, fun sz => ?_⟩
  refine zMet_ofWH (ws' := T0) hy rfl ?_
  intro p e s m args below meth c0 s₁ B hml hv
  obtain ⟨hv, hsz, hLi⟩ := hv
  subst hv
  subst hsz
  have hts := atoms_spec (ws := Cond.codeWith y cc maxL (some .int) hh :: T0) B.pre
  have hown : s.vm.findClass RL = some m.cls := by rw [ho]; exact findClass_of_methodNamed B.named
  have htab := vx_table (x := y) B (hts _ List.mem_cons_self)
  rw [lg_entry_eq]
  exact body p e s m below meth c0 _ ⟨B.exec, B.bytes, hml, hown, fun w h => hts w (List.mem_cons_of_mem _ h)⟩ B.returns B.notSynchronized htab hLi va_S.rf (lv_entry as hle)
end WC
section WD
variable {p : Program} {l : Launch} {e : Env} {R : Room} {s : State} {m : MethodId} {below : List Frame} {meth : Method} {c : Code} {H : Heap} {locs : List Loc} {cells slots : Nat} {Q : State → Prop}
variable {cc : ByteArray} {pc nL : Nat} {ls : Array Slot} {rest st : List Value} {own : String} {D : va_G} {cJ : ClassId} {o a w : Nat} {ce : Nat → Nat} {fs : List Value}
/-- a wrapper's end -/
theorem zl_ret {as : List Value} {mc ms : Nat} {r : Int} {v : Int32} {n2 : Int64} {sv2 : Value} (C : CallFix p m c cc nL s as.toArray T0 own) (hAt : AtO D 2 cJ o a ce fs s H) (hW : AtW D w n2 sv2 s H) (hS : va_S (zFw o a w s.heap.size) s.heap H locs) (hr : meth.sig.returnType = some .int) (hk : meth.locks = false) (h1 : cells ≤ mc) (h2 : slots ≤ ms) (d : decode cc pc = .ok (.ireturn, 1)) (hv : v = iZ r) :
    W p l e R s m as.toArray below meth c H locs cells slots (zL1 below D cJ o a w as.toArray s mc ms r ce fs n2 sv2) (F0 m pc ls [.int v]) := by
  subst hv
  refine W.widen (k := mc) (n := ms) h1 h2 ?_
  exact W.iret C.1 C.2.1 hr (fun t ht hW9 => ⟨rfl, by rw [ht]; exact hAt.moved hW9.alike, by rw [ht]; exact hW.moved hW9.alike, hS.F ht⟩) hS.2.2 d hk
/-- a truth value, made a long -/
theorem zl_bool {args : Array Value} (C : CallFix p m c cc nL s args T0 own) {b : Bool} (d1 : decode cc pc = .ok (.ifCond .eq 7, 3)) (d2 : decode cc (pc + 3) = .ok (.lconst 1, 1)) (d3 : decode cc (pc + 4) = .ok (.goto 4, 3)) (d4 : decode cc (pc + 7) = .ok (.lconst 0, 1))
    (k : W p l e R s m args below meth c H locs cells slots Q (F0 m (pc + 8) ls (.long (iZ (zB b)).toInt64 :: rest))) : W p l e R s m args below meth c H locs cells slots Q (F0 m pc ls (.int (iZ (zB b)) :: rest)) := by
  cases b
  · exact z_if_eq (tgt := pc + 7) (z := zB false) C (by decide) d1 (by omega) (fun _ => z_lconst C d4 rfl k) (fun h => absurd rfl h)
  · exact z_if_eq (tgt := pc + 7) (z := zB true) C (by decide) d1 (by omega) (fun h => absurd h (by decide)) (fun _ => z_lconst C d2 rfl (lv_goto (tgt := pc + 8) C.1 C.2.1 d3 (by omega) k))
/-- caught by the first handler -/
theorem zl_catch1 {args : Array Value} (C : CallFix p m c cc nL s args T0 RL) {E : String} {x : ExceptionTableEntry} {suf : List ExceptionTableEntry} {ce1 : Cell} {q : Addr} (ht : c.exceptionTable.toList = [] ++ x :: suf) (hx : covers x pc = true) (h0 : x.catchType ≠ 0) (hlink : Cond.classLink RL x.catchType E ∈ lw_tbl) (hcast : (Cond.castable E E).before #[] s = true) (hcell : H[q]? = some ce1) (hv : ce1.vm = .none) (hcl : s.vm.findClass E = some ce1.cls)
    (kk : W p l e R s m args below meth c H locs cells slots Q (F0 m x.handlerPc ls [.ref q])) : vx_W p l e R s m args below meth c H locs cells slots Q (F0 m pc ls rest) q :=
  vx_catch C.2.2.2.1 [] x suf ht (fun z hz => absurd hz List.not_mem_nil) hx h0 (C.2.2.2.2 _ (T0_of hlink rfl)) (va_Nw.use rfl hcast) hcell hv hcl kk
/-- caught by the second handler, past the first one -/
theorem zl_catch2 {args : Array Value} (C : CallFix p m c cc nL s args T0 RL) {E N : String} {x0 x : ExceptionTableEntry} {suf : List ExceptionTableEntry} {ce1 : Cell} {q : Addr} (ht : c.exceptionTable.toList = [x0] ++ x :: suf) (hz0 : x0.catchType ≠ 0) (hl0 : Cond.classLink RL x0.catchType N ∈ lw_tbl) (hn : va_Nc E N s) (hx : covers x pc = true) (h0 : x.catchType ≠ 0) (hlink : Cond.classLink RL x.catchType E ∈ lw_tbl) (hcast : (Cond.castable E E).before #[] s = true) (hcell : H[q]? = some ce1) (hv : ce1.vm = .none) (hcl : s.vm.findClass E = some ce1.cls)
    (kk : W p l e R s m args below meth c H locs cells slots Q (F0 m x.handlerPc ls [.ref q])) : vx_W p l e R s m args below meth c H locs cells slots Q (F0 m pc ls rest) q :=
  vx_catch C.2.2.2.1 [x0] x suf ht (fun z hz => by cases List.mem_singleton.mp hz; exact Or.inr ⟨hz0, N, C.2.2.2.2 _ (T0_of hl0 rfl), hn⟩) hx h0 (C.2.2.2.2 _ (T0_of hlink rfl)) (va_Nw.use rfl hcast) hcell hv hcl kk
end WD
section WG
theorem zgW {own : String} {idx : Nat} {y : MethodName} {bytes : ByteArray} {maxL : Nat} {ret : Option FieldType} {hh : List (Nat × Nat × Nat × Nat)} (h1 : Cond.methodLink own idx y ∈ lw_tbl) (h : zSW y bytes maxL ret hh) : GoodIn T0 (va_wsS own idx y (Cond.codeWith y bytes maxL ret hh :: T0)) := by
  intro w hw
  have hm : w ∈ T0 := by
    rcases List.mem_append.mp hw with hw | hw
    · simp only [List.mem_cons, List.not_mem_nil, or_false] at hw
      rcases hw with rfl | rfl | rfl
      · exact T0_of h1 rfl
      · exact T0_of h.1 rfl
      · exact T0_of h.2.1 rfl
    · rcases List.mem_cons.mp hw with rfl | hw
      · exact T0_of h.2.2 rfl
      · exact hw
  exact ⟨hm, T0_good hm⟩
variable {p : Program} {l : Launch} {e : Env} {R : Room} {s : State} {m : MethodId} {args : Array Value} {below : List Frame} {meth : Method} {c : Code} {H : Heap} {locs : List Loc} {cells slots : Nat} {Q : State → Prop}
variable {cc : ByteArray} {pc nL : Nat} {ls : Array Slot} {rest st : List Value} {own : String} {lv : List (Nat × Value)} {D : va_G} {cJ : ClassId} {o a w : Nat} {ce : Nat → Nat} {fs : List Value} {A : Nat → Prop}
/-- the law calls a wrapper -/
theorem zl_call (C : CallFix p m c cc nL s args T0 own) {n : Int64} {sv : Value} (hLi : zLi D cJ o a w ce fs n sv s H) (hS : va_S A s.heap H locs) (hA : ∀ q, zFw o a w H.size q → A q) {y : MethodName} {fr need mc ms idx : Nat} {as : List Value} {r : Int} {c2 : Nat → Nat} {fs2 : List Value} {n2 : Int64} {sv2 : Value} (hM : zL l y fr need mc ms D cJ o a w as ce fs n sv r c2 fs2 n2 sv2) (hG : Cond.methodLink own idx y ∈ lw_tbl)
    (hR : fr + 1 ≤ R.frames ∧ need ≤ R.locals) (hf : cells + mc ≤ R.cells ∧ slots + ms ≤ R.slots) (hl : lv_has ls nL lv) (hcat : (rest.map fun v => v.category).sum ≤ 8) (hst : st = as.reverse ++ rest) (d : decode cc pc = .ok (.invokestatic idx, 3))
    (k : ∀ H1 locs1, zLi D cJ o a w c2 fs2 n2 sv2 s H1 → va_S A s.heap H1 locs1 → (∀ q : Nat, q < H.size → ¬ (q = w ∨ q = o ∨ q = a) → H1[q]? = H[q]?) → H.size ≤ H1.size → W p l e R s m args below meth c H1 locs1 (cells + mc) (slots + ms) Q (F0 m (pc + 3) ls (.int (iZ r) :: rest))) : W p l e R s m args below meth c H locs cells slots Q (F0 m pc ls st) := by
  obtain ⟨bytes, maxL, lo, hh, hz, hn, hd, hM⟩ := hM
  have hM := hM H.size
  have cw := vx_cwSW (R := R) (own := own) (index := idx) (y := y) (bytes := bytes) (maxL := maxL) (ret := some .int) (hh := hh) (ws := Cond.codeWith y bytes maxL (some .int) hh :: T0) (ws' := T0) (rm := { frames := fr, cells := mc, slots := ms, locals := lo }) (mc := mc) (ms := ms) as.length C.2.2.2.2 (zgW hG hz) rfl rfl rfl hd.2 ⟨hR.1, by rw [hn] at hR; exact hR.2⟩
  have hr := vx_runSW (p := p) (l := l) (e := e) (below := below) (meth := meth) (c := c) (H := H) (locs := locs) (cells := cells) (slots := slots) (g := F0 m pc ls st) (rest := rest) C hM cw ⟨fun A U g mk q => ⟨q.1, q.2.1, q.2.2.moved (U := U.calling g mk A) (State.WarmedH.refl U)⟩, fun U hU hW => ⟨rfl, by rw [hU], by rw [hU]; exact hLi.moved hW⟩⟩ rfl rfl hl.1 hst (lv_room hcat) d hf
  intro T9 hT X
  obtain ⟨v2, st₀, t, T', L, h0, X', hL, e1, e2, ⟨hv, hAt2, hW2, hF⟩, st2⟩ := hr T9 hT X
  cases hv
  obtain ⟨hz2, hk2⟩ := hF
  rw [h0] at hz2 hk2
  have hss : s.heap.size ≤ H.size := hS.1
  have hS2 : va_S A s.heap T'.heap (locs ++ L) := by
    refine ⟨Nat.le_trans hss (by rw [e1]; exact hz2), fun q h1 h2 => ?_, fun q hq => ?_⟩
    · rw [e1, hk2 q (Nat.lt_of_lt_of_le h1 hss) (fun z => h2 (hA q z))]
      exact hS.2.1 q h1 h2
    · rcases List.mem_append.mp hq with h | h
      · exact hS.2.2 q h
      · exact hA _ (hL q h)
  have hke : ∀ q : Nat, q < H.size → ¬ (q = w ∨ q = o ∨ q = a) → T'.heap[q]? = H[q]? := fun q h1 h2 => by
    rw [e1]
    exact hk2 q h1 (fun z => by rcases z with z | z | z | z; exact h2 (Or.inl z); exact h2 (Or.inr (Or.inl z)); exact h2 (Or.inr (Or.inr z)); omega)
  have hal : t.vm.Alike s.vm := by rw [← e2]; exact X'.warmed.alike.symm
  obtain ⟨t2, a1, b1⟩ := k T'.heap (locs ++ L) ⟨by rw [e1]; exact hAt2.moved hal, by rw [e1]; exact hW2.moved hal, hLi.2.2.1, hLi.2.2.2.1.kept (fun q h1 h2 => hke q h1 h2), hLi.2.2.2.2⟩ hS2 hke (by rw [e1]; exact hz2) T' rfl X'
  exact ⟨t2, st2 t2 a1, b1⟩
end WG
/-! ===== the law's wrappers by contract ===== -/
section WF
set_option maxHeartbeats 4000000 in
set_option maxRecDepth 100000 in
theorem c_L_put (l : Launch) (D : va_G) (cJ : ClassId) (o a : Nat) (c : Nat → Nat) (ac : Int32) (re : Int32) (kn : Int32) (z : Int) (g : Int) (hz : 0 ≤ z ∧ z ≤ 5) (hg : -2147483648 ≤ g ∧ g ≤ 2147483647) (w9 : Nat) (n9 : Int64) (s9 : Value) : zL l yL_put 4 112 0 0 D cJ o a w9 [.ref o, .int (iZ (z)), .int (iZ (g)), .ref w9] c [.int (ac), .int (re), .int (kn)] n9 s9 0 (aC c (z.toNat) (some ((g % 18446744073709551616).toNat &&& 4294967295))) [.int (aA ac (some ((g % 18446744073709551616).toNat &&& 4294967295))), .int (aF re (some ((g % 18446744073709551616).toNat &&& 4294967295))), .int (kn)] ((iZ (aR c (z.toNat) (some ((g % 18446744073709551616).toNat &&& 4294967295))))).toInt64 s9 := by
  refine zL.intro (lo := 88) (nA := 4) zw_L_put (by decide) rfl rfl (by decide +kernel) rfl (Nat.le_of_ble_eq_true rfl) ?_
  intro p e s m below meth c0 ls C9 hr9 hk9 ht9 hLi9 hS9 hl9
  have hl9 : lv_has ls 5 [(0, .ref o), (1, .int (iZ (z))), (2, .int (iZ (g))), (3, .ref w9)] := hl9
  refine lv_aload_n C9.1 C9.2.1 dL_put_0 rfl (lv_at hl9 3 rfl) ?_
  refine lv_aload_n C9.1 C9.2.1 dL_put_1 rfl (lv_at hl9 0 rfl) ?_
  refine lv_iload_n C9.1 C9.2.1 dL_put_2 rfl (lv_at hl9 1 rfl) ?_
  refine lv_iload_n C9.1 C9.2.1 dL_put_3 rfl (lv_at hl9 2 rfl) ?_
  refine zg_call (as := [.int (iZ (z)), .int (iZ (g))]) C9 hLi9.1 hS9 (fun q h => Or.inr h) (c_X3_put l D cJ o a c ac re kn z g hz hg) ml_L_7 rfl (by decide) (by decide) hl9 (Nat.le_of_ble_eq_true rfl) rfl dL_put_4 (fun v9 H1 locs1 hv9 hAt1 hS1 hk1 hz1 => ?_)
  subst hv9
  refine lv_i2l C9.1 C9.2.1 dL_put_7 rfl ?_
  refine zw_putN C9 (hLi9.2.1.kept (hk1 w9 hLi9.2.1.lt (fun z => z.elim hLi9.2.2.1.1 hLi9.2.2.1.2))) hS1 (Or.inl rfl) hLi9.2.2.2.2.2.2.2.1 dL_put_8 (fun H2 locs2 hW2 hS2 hk2 hz2 => ?_)
  refine lv_goto (tgt := 18) C9.1 C9.2.1 dL_put_11 (by decide) ?_
  refine z_iconst C9 dL_put_18 ?_
  exact zl_ret C9 (hAt1.kept (hk2 o (Ne.symm hLi9.2.2.1.1)) (hk2 a (Ne.symm hLi9.2.2.1.2))) hW2 hS2 hr9 hk9 (Nat.le_of_ble_eq_true rfl) (Nat.le_of_ble_eq_true rfl) dL_put_19 rfl
set_option maxHeartbeats 4000000 in
set_option maxRecDepth 100000 in
theorem c_L_mono (l : Launch) (D : va_G) (cJ : ClassId) (o a : Nat) (c : Nat → Nat) (ac : Int32) (re : Int32) (kn : Int32) (z : Int) (g : Int) (hz : 0 ≤ z ∧ z ≤ 5) (hg : 0 ≤ g ∧ g ≤ 32) (w9 : Nat) (n9 : Int64) (s9 : Value) : zL l yL_mono 4 112 0 0 D cJ o a w9 [.ref o, .int (iZ (z)), .int (iZ (g)), .ref w9] c [.int (ac), .int (re), .int (kn)] n9 s9 0 (aC c (z.toNat) (some (1 <<< g.toNat))) [.int (aA ac (some (1 <<< g.toNat))), .int (aF re (some (1 <<< g.toNat))), .int (kn)] ((iZ (aR c (z.toNat) (some (1 <<< g.toNat))))).toInt64 s9 := by
  refine zL.intro (lo := 88) (nA := 4) zw_L_mono (by decide) rfl rfl (by decide +kernel) rfl (Nat.le_of_ble_eq_true rfl) ?_
  intro p e s m below meth c0 ls C9 hr9 hk9 ht9 hLi9 hS9 hl9
  have hl9 : lv_has ls 5 [(0, .ref o), (1, .int (iZ (z))), (2, .int (iZ (g))), (3, .ref w9)] := hl9
  refine lv_aload_n C9.1 C9.2.1 dL_mono_0 rfl (lv_at hl9 3 rfl) ?_
  refine lv_aload_n C9.1 C9.2.1 dL_mono_1 rfl (lv_at hl9 0 rfl) ?_
  refine lv_iload_n C9.1 C9.2.1 dL_mono_2 rfl (lv_at hl9 1 rfl) ?_
  refine lv_iload_n C9.1 C9.2.1 dL_mono_3 rfl (lv_at hl9 2 rfl) ?_
  refine zg_call (as := [.int (iZ (z)), .int (iZ (g))]) C9 hLi9.1 hS9 (fun q h => Or.inr h) (c_X3_mono l D cJ o a c ac re kn z g hz hg) ml_L_21 rfl (by decide) (by decide) hl9 (Nat.le_of_ble_eq_true rfl) rfl dL_mono_4 (fun v9 H1 locs1 hv9 hAt1 hS1 hk1 hz1 => ?_)
  subst hv9
  refine lv_i2l C9.1 C9.2.1 dL_mono_7 rfl ?_
  refine zw_putN C9 (hLi9.2.1.kept (hk1 w9 hLi9.2.1.lt (fun z => z.elim hLi9.2.2.1.1 hLi9.2.2.1.2))) hS1 (Or.inl rfl) hLi9.2.2.2.2.2.2.2.1 dL_mono_8 (fun H2 locs2 hW2 hS2 hk2 hz2 => ?_)
  refine lv_goto (tgt := 22) C9.1 C9.2.1 dL_mono_11 (by decide) ?_
  refine z_iconst C9 dL_mono_22 ?_
  exact zl_ret C9 (hAt1.kept (hk2 o (Ne.symm hLi9.2.2.1.1)) (hk2 a (Ne.symm hLi9.2.2.1.2))) hW2 hS2 hr9 hk9 (Nat.le_of_ble_eq_true rfl) (Nat.le_of_ble_eq_true rfl) dL_mono_23 rfl
set_option maxHeartbeats 4000000 in
set_option maxRecDepth 100000 in
theorem c_L_digit (l : Launch) (D : va_G) (cJ : ClassId) (o a : Nat) (c : Nat → Nat) (ac : Int32) (re : Int32) (kn : Int32) (z : Int) (g : Int) (b : Bool) (hz : 0 ≤ z ∧ z ≤ 5) (hg : 0 ≤ g ∧ g ≤ 32) (w9 : Nat) (n9 : Int64) (s9 : Value) : zL l yL_digit 4 116 0 0 D cJ o a w9 [.ref o, .int (iZ (z)), .int (iZ (g)), .int (iZ (zB (b))), .ref w9] c [.int (ac), .int (re), .int (kn)] n9 s9 0 (aC c z.toNat (some (dg (c z.toNat) g b))) [.int (aA ac (some 0)), .int (re), .int (kn)] ((iZ (zB (tb (c z.toNat) g)))).toInt64 s9 := by
  refine zL.intro (lo := 91) (nA := 5) zw_L_digit (by decide) rfl rfl (by decide +kernel) rfl (Nat.le_of_ble_eq_true rfl) ?_
  intro p e s m below meth c0 ls C9 hr9 hk9 ht9 hLi9 hS9 hl9
  have hl9 : lv_has ls 6 [(0, .ref o), (1, .int (iZ (z))), (2, .int (iZ (g))), (3, .int (iZ (zB (b)))), (4, .ref w9)] := hl9
  refine lv_aload C9.1 C9.2.1 dL_digit_0 (lv_at hl9 4 rfl) ?_
  refine lv_aload_n C9.1 C9.2.1 dL_digit_2 rfl (lv_at hl9 0 rfl) ?_
  refine lv_iload_n C9.1 C9.2.1 dL_digit_3 rfl (lv_at hl9 1 rfl) ?_
  refine lv_iload_n C9.1 C9.2.1 dL_digit_4 rfl (lv_at hl9 2 rfl) ?_
  refine lv_iload_n C9.1 C9.2.1 dL_digit_5 rfl (lv_at hl9 3 rfl) ?_
  refine zg_call (as := [.int (iZ (z)), .int (iZ (g)), .int (iZ (zB (b)))]) C9 hLi9.1 hS9 (fun q h => Or.inr h) (c_X3_digit l D cJ o a c ac re kn z g b hz hg) ml_L_26 rfl (by decide) (by decide) hl9 (Nat.le_of_ble_eq_true rfl) rfl dL_digit_6 (fun v9 H1 locs1 hv9 hAt1 hS1 hk1 hz1 => ?_)
  subst hv9
  refine zl_bool C9 dL_digit_9 dL_digit_12 dL_digit_13 dL_digit_16 ?_
  refine zw_putN C9 (hLi9.2.1.kept (hk1 w9 hLi9.2.1.lt (fun z => z.elim hLi9.2.2.1.1 hLi9.2.2.1.2))) hS1 (Or.inl rfl) hLi9.2.2.2.2.2.2.2.1 dL_digit_17 (fun H2 locs2 hW2 hS2 hk2 hz2 => ?_)
  refine lv_goto (tgt := 31) C9.1 C9.2.1 dL_digit_20 (by decide) ?_
  refine z_iconst C9 dL_digit_31 ?_
  exact zl_ret C9 (hAt1.kept (hk2 o (Ne.symm hLi9.2.2.1.1)) (hk2 a (Ne.symm hLi9.2.2.1.2))) hW2 hS2 hr9 hk9 (Nat.le_of_ble_eq_true rfl) (Nat.le_of_ble_eq_true rfl) dL_digit_32 rfl
set_option maxHeartbeats 4000000 in
set_option maxRecDepth 100000 in
theorem c_L_flip (l : Launch) (D : va_G) (cJ : ClassId) (o a : Nat) (c : Nat → Nat) (ac : Int32) (re : Int32) (kn : Int32) (z : Int) (g : Int) (hz : 0 ≤ z ∧ z ≤ 5) (hg : 0 ≤ g ∧ g ≤ 32) (w9 : Nat) (n9 : Int64) (s9 : Value) : zL l yL_flip 4 114 0 0 D cJ o a w9 [.ref o, .int (iZ (z)), .int (iZ (g)), .ref w9] c [.int (ac), .int (re), .int (kn)] n9 s9 0 (aC c z.toNat (some (c z.toNat ^^^ (1 <<< g.toNat)))) [.int (aA ac (some 0)), .int (re), .int (kn)] ((iZ (zB (!tb (c z.toNat) g)))).toInt64 s9 := by
  refine zL.intro (lo := 90) (nA := 4) zw_L_flip (by decide) rfl rfl (by decide +kernel) rfl (Nat.le_of_ble_eq_true rfl) ?_
  intro p e s m below meth c0 ls C9 hr9 hk9 ht9 hLi9 hS9 hl9
  have hl9 : lv_has ls 5 [(0, .ref o), (1, .int (iZ (z))), (2, .int (iZ (g))), (3, .ref w9)] := hl9
  refine lv_aload_n C9.1 C9.2.1 dL_flip_0 rfl (lv_at hl9 3 rfl) ?_
  refine lv_aload_n C9.1 C9.2.1 dL_flip_1 rfl (lv_at hl9 0 rfl) ?_
  refine lv_iload_n C9.1 C9.2.1 dL_flip_2 rfl (lv_at hl9 1 rfl) ?_
  refine lv_iload_n C9.1 C9.2.1 dL_flip_3 rfl (lv_at hl9 2 rfl) ?_
  refine zg_call (as := [.int (iZ (z)), .int (iZ (g))]) C9 hLi9.1 hS9 (fun q h => Or.inr h) (c_X3_flip l D cJ o a c ac re kn z g hz hg) ml_L_30 rfl (by decide) (by decide) hl9 (Nat.le_of_ble_eq_true rfl) rfl dL_flip_4 (fun v9 H1 locs1 hv9 hAt1 hS1 hk1 hz1 => ?_)
  subst hv9
  refine zl_bool C9 dL_flip_7 dL_flip_10 dL_flip_11 dL_flip_14 ?_
  refine zw_putN C9 (hLi9.2.1.kept (hk1 w9 hLi9.2.1.lt (fun z => z.elim hLi9.2.2.1.1 hLi9.2.2.1.2))) hS1 (Or.inl rfl) hLi9.2.2.2.2.2.2.2.1 dL_flip_15 (fun H2 locs2 hW2 hS2 hk2 hz2 => ?_)
  refine lv_goto (tgt := 29) C9.1 C9.2.1 dL_flip_18 (by decide) ?_
  refine z_iconst C9 dL_flip_29 ?_
  exact zl_ret C9 (hAt1.kept (hk2 o (Ne.symm hLi9.2.2.1.1)) (hk2 a (Ne.symm hLi9.2.2.1.2))) hW2 hS2 hr9 hk9 (Nat.le_of_ble_eq_true rfl) (Nat.le_of_ble_eq_true rfl) dL_flip_30 rfl
set_option maxHeartbeats 4000000 in
set_option maxRecDepth 100000 in
theorem c_L_copy (l : Launch) (D : va_G) (cJ : ClassId) (o a : Nat) (c : Nat → Nat) (ac : Int32) (re : Int32) (kn : Int32) (f : Int) (z : Int) (hf : 0 ≤ f ∧ f ≤ 5) (hz : 0 ≤ z ∧ z ≤ 5) (w9 : Nat) (n9 : Int64) (s9 : Value) : zL l yL_copy 4 114 0 0 D cJ o a w9 [.ref o, .int (iZ (f)), .int (iZ (z)), .ref w9] c [.int (ac), .int (re), .int (kn)] n9 s9 0 (aC c (z.toNat) (some (c f.toNat))) [.int (aA ac (some (c f.toNat))), .int (aF re (some (c f.toNat))), .int (kn)] ((iZ (aR c (z.toNat) (some (c f.toNat))))).toInt64 s9 := by
  refine zL.intro (lo := 90) (nA := 4) zw_L_copy (by decide) rfl rfl (by decide +kernel) rfl (Nat.le_of_ble_eq_true rfl) ?_
  intro p e s m below meth c0 ls C9 hr9 hk9 ht9 hLi9 hS9 hl9
  have hl9 : lv_has ls 5 [(0, .ref o), (1, .int (iZ (f))), (2, .int (iZ (z))), (3, .ref w9)] := hl9
  refine lv_aload_n C9.1 C9.2.1 dL_copy_0 rfl (lv_at hl9 3 rfl) ?_
  refine lv_aload_n C9.1 C9.2.1 dL_copy_1 rfl (lv_at hl9 0 rfl) ?_
  refine lv_iload_n C9.1 C9.2.1 dL_copy_2 rfl (lv_at hl9 1 rfl) ?_
  refine lv_iload_n C9.1 C9.2.1 dL_copy_3 rfl (lv_at hl9 2 rfl) ?_
  refine zg_call (as := [.int (iZ (f)), .int (iZ (z))]) C9 hLi9.1 hS9 (fun q h => Or.inr h) (c_X3_copy l D cJ o a c ac re kn f z hf hz) ml_L_34 rfl (by decide) (by decide) hl9 (Nat.le_of_ble_eq_true rfl) rfl dL_copy_4 (fun v9 H1 locs1 hv9 hAt1 hS1 hk1 hz1 => ?_)
  subst hv9
  refine lv_i2l C9.1 C9.2.1 dL_copy_7 rfl ?_
  refine zw_putN C9 (hLi9.2.1.kept (hk1 w9 hLi9.2.1.lt (fun z => z.elim hLi9.2.2.1.1 hLi9.2.2.1.2))) hS1 (Or.inl rfl) hLi9.2.2.2.2.2.2.2.1 dL_copy_8 (fun H2 locs2 hW2 hS2 hk2 hz2 => ?_)
  refine lv_goto (tgt := 18) C9.1 C9.2.1 dL_copy_11 (by decide) ?_
  refine z_iconst C9 dL_copy_18 ?_
  exact zl_ret C9 (hAt1.kept (hk2 o (Ne.symm hLi9.2.2.1.1)) (hk2 a (Ne.symm hLi9.2.2.1.2))) hW2 hS2 hr9 hk9 (Nat.le_of_ble_eq_true rfl) (Nat.le_of_ble_eq_true rfl) dL_copy_19 rfl
set_option maxHeartbeats 4000000 in
set_option maxRecDepth 100000 in
theorem c_L_swap (l : Launch) (D : va_G) (cJ : ClassId) (o a : Nat) (c : Nat → Nat) (ac : Int32) (re : Int32) (kn : Int32) (f : Int) (z : Int) (hf : 0 ≤ f ∧ f ≤ 5) (hz : 0 ≤ z ∧ z ≤ 5) (w9 : Nat) (n9 : Int64) (s9 : Value) : zL l yL_swap 3 92 0 0 D cJ o a w9 [.ref o, .int (iZ (f)), .int (iZ (z)), .ref w9] c [.int (ac), .int (re), .int (kn)] n9 s9 0 (zu (zu c f.toNat (c z.toNat)) z.toNat (c f.toNat)) [.int (aA ac (some 0)), .int (re), .int (kn)] ((iZ (if c f.toNat = c z.toNat then 0 else 1))).toInt64 s9 := by
  refine zL.intro (lo := 68) (nA := 4) zw_L_swap (by decide) rfl rfl (by decide +kernel) rfl (Nat.le_of_ble_eq_true rfl) ?_
  intro p e s m below meth c0 ls C9 hr9 hk9 ht9 hLi9 hS9 hl9
  have hl9 : lv_has ls 5 [(0, .ref o), (1, .int (iZ (f))), (2, .int (iZ (z))), (3, .ref w9)] := hl9
  refine lv_aload_n C9.1 C9.2.1 dL_swap_0 rfl (lv_at hl9 3 rfl) ?_
  refine lv_aload_n C9.1 C9.2.1 dL_swap_1 rfl (lv_at hl9 0 rfl) ?_
  refine lv_iload_n C9.1 C9.2.1 dL_swap_2 rfl (lv_at hl9 1 rfl) ?_
  refine lv_iload_n C9.1 C9.2.1 dL_swap_3 rfl (lv_at hl9 2 rfl) ?_
  refine zg_call (as := [.int (iZ (f)), .int (iZ (z))]) C9 hLi9.1 hS9 (fun q h => Or.inr h) (c_X3_swap l D cJ o a c ac re kn f z hf hz) ml_L_37 rfl (by decide) (by decide) hl9 (Nat.le_of_ble_eq_true rfl) rfl dL_swap_4 (fun v9 H1 locs1 hv9 hAt1 hS1 hk1 hz1 => ?_)
  subst hv9
  refine lv_i2l C9.1 C9.2.1 dL_swap_7 rfl ?_
  refine zw_putN C9 (hLi9.2.1.kept (hk1 w9 hLi9.2.1.lt (fun z => z.elim hLi9.2.2.1.1 hLi9.2.2.1.2))) hS1 (Or.inl rfl) hLi9.2.2.2.2.2.2.2.1 dL_swap_8 (fun H2 locs2 hW2 hS2 hk2 hz2 => ?_)
  refine lv_goto (tgt := 18) C9.1 C9.2.1 dL_swap_11 (by decide) ?_
  refine z_iconst C9 dL_swap_18 ?_
  exact zl_ret C9 (hAt1.kept (hk2 o (Ne.symm hLi9.2.2.1.1)) (hk2 a (Ne.symm hLi9.2.2.1.2))) hW2 hS2 hr9 hk9 (Nat.le_of_ble_eq_true rfl) (Nat.le_of_ble_eq_true rfl) dL_swap_19 rfl
set_option maxHeartbeats 4000000 in
set_option maxRecDepth 100000 in
theorem c_L_end (l : Launch) (D : va_G) (cJ : ClassId) (o a : Nat) (c : Nat → Nat) (ac : Int32) (re : Int32) (kn : Int32) (f : Int) (g : Int) (b : Bool) (z : Int) (hf : 0 ≤ f ∧ f ≤ 5) (hg : 0 ≤ g ∧ g ≤ 5) (hz : 0 ≤ z ∧ z ≤ 5) (w9 : Nat) (n9 : Int64) (s9 : Value) : zL l yL_end 4 120 0 0 D cJ o a w9 [.ref o, .int (iZ (f)), .int (iZ (g)), .int (iZ (zB (b))), .int (iZ (z)), .ref w9] c [.int (ac), .int (re), .int (kn)] n9 s9 0 (aC c (z.toNat) (some (if b = true then mx (c f.toNat) (c g.toNat) else mn (c f.toNat) (c g.toNat)))) [.int (aA ac (some (if b = true then mx (c f.toNat) (c g.toNat) else mn (c f.toNat) (c g.toNat)))), .int (aF re (some (if b = true then mx (c f.toNat) (c g.toNat) else mn (c f.toNat) (c g.toNat)))), .int (kn)] ((iZ (aR c (z.toNat) (some (if b = true then mx (c f.toNat) (c g.toNat) else mn (c f.toNat) (c g.toNat)))))).toInt64 s9 := by
  refine zL.intro (lo := 94) (nA := 6) zw_L_end (by decide) rfl rfl (by decide +kernel) rfl (Nat.le_of_ble_eq_true rfl) ?_
  intro p e s m below meth c0 ls C9 hr9 hk9 ht9 hLi9 hS9 hl9
  have hl9 : lv_has ls 7 [(0, .ref o), (1, .int (iZ (f))), (2, .int (iZ (g))), (3, .int (iZ (zB (b)))), (4, .int (iZ (z))), (5, .ref w9)] := hl9
  refine lv_aload C9.1 C9.2.1 dL_end_0 (lv_at hl9 5 rfl) ?_
  refine lv_aload_n C9.1 C9.2.1 dL_end_2 rfl (lv_at hl9 0 rfl) ?_
  refine lv_iload_n C9.1 C9.2.1 dL_end_3 rfl (lv_at hl9 1 rfl) ?_
  refine lv_iload_n C9.1 C9.2.1 dL_end_4 rfl (lv_at hl9 2 rfl) ?_
  refine lv_iload_n C9.1 C9.2.1 dL_end_5 rfl (lv_at hl9 3 rfl) ?_
  refine lv_iload C9.1 C9.2.1 dL_end_6 (lv_at hl9 4 rfl) ?_
  refine zg_call (as := [.int (iZ (f)), .int (iZ (g)), .int (iZ (zB (b))), .int (iZ (z))]) C9 hLi9.1 hS9 (fun q h => Or.inr h) (c_X3_end l D cJ o a c ac re kn f g b z hf hg hz) ml_L_40 rfl (by decide) (by decide) hl9 (Nat.le_of_ble_eq_true rfl) rfl dL_end_8 (fun v9 H1 locs1 hv9 hAt1 hS1 hk1 hz1 => ?_)
  subst hv9
  refine lv_i2l C9.1 C9.2.1 dL_end_11 rfl ?_
  refine zw_putN C9 (hLi9.2.1.kept (hk1 w9 hLi9.2.1.lt (fun z => z.elim hLi9.2.2.1.1 hLi9.2.2.1.2))) hS1 (Or.inl rfl) hLi9.2.2.2.2.2.2.2.1 dL_end_12 (fun H2 locs2 hW2 hS2 hk2 hz2 => ?_)
  refine lv_goto (tgt := 22) C9.1 C9.2.1 dL_end_15 (by decide) ?_
  refine z_iconst C9 dL_end_22 ?_
  exact zl_ret C9 (hAt1.kept (hk2 o (Ne.symm hLi9.2.2.1.1)) (hk2 a (Ne.symm hLi9.2.2.1.2))) hW2 hS2 hr9 hk9 (Nat.le_of_ble_eq_true rfl) (Nat.le_of_ble_eq_true rfl) dL_end_23 rfl
set_option maxHeartbeats 4000000 in
set_option maxRecDepth 100000 in
theorem c_L_join (l : Launch) (D : va_G) (cJ : ClassId) (o a : Nat) (c : Nat → Nat) (ac : Int32) (re : Int32) (kn : Int32) (f : Int) (g : Int) (h : Int) (z : Int) (hf : 0 ≤ f ∧ f ≤ 5) (hg : 0 ≤ g ∧ g ≤ 5) (hh : 0 ≤ h ∧ h ≤ 3) (hz : 0 ≤ z ∧ z ≤ 5) (w9 : Nat) (n9 : Int64) (s9 : Value) : zL l yL_join 4 120 0 0 D cJ o a w9 [.ref o, .int (iZ (f)), .int (iZ (g)), .int (iZ (h)), .int (iZ (z)), .ref w9] c [.int (ac), .int (re), .int (kn)] n9 s9 0 (aC c (z.toNat) (some (jo (c f.toNat) (c g.toNat) h))) [.int (aA ac (some (jo (c f.toNat) (c g.toNat) h))), .int (aF re (some (jo (c f.toNat) (c g.toNat) h))), .int (kn)] ((iZ (aR c (z.toNat) (some (jo (c f.toNat) (c g.toNat) h))))).toInt64 s9 := by
  refine zL.intro (lo := 94) (nA := 6) zw_L_join (by decide) rfl rfl (by decide +kernel) rfl (Nat.le_of_ble_eq_true rfl) ?_
  intro p e s m below meth c0 ls C9 hr9 hk9 ht9 hLi9 hS9 hl9
  have hl9 : lv_has ls 7 [(0, .ref o), (1, .int (iZ (f))), (2, .int (iZ (g))), (3, .int (iZ (h))), (4, .int (iZ (z))), (5, .ref w9)] := hl9
  refine lv_aload C9.1 C9.2.1 dL_join_0 (lv_at hl9 5 rfl) ?_
  refine lv_aload_n C9.1 C9.2.1 dL_join_2 rfl (lv_at hl9 0 rfl) ?_
  refine lv_iload_n C9.1 C9.2.1 dL_join_3 rfl (lv_at hl9 1 rfl) ?_
  refine lv_iload_n C9.1 C9.2.1 dL_join_4 rfl (lv_at hl9 2 rfl) ?_
  refine lv_iload_n C9.1 C9.2.1 dL_join_5 rfl (lv_at hl9 3 rfl) ?_
  refine lv_iload C9.1 C9.2.1 dL_join_6 (lv_at hl9 4 rfl) ?_
  refine zg_call (as := [.int (iZ (f)), .int (iZ (g)), .int (iZ (h)), .int (iZ (z))]) C9 hLi9.1 hS9 (fun q h => Or.inr h) (c_X3_join l D cJ o a c ac re kn f g h z hf hg hh hz) ml_L_44 rfl (by decide) (by decide) hl9 (Nat.le_of_ble_eq_true rfl) rfl dL_join_8 (fun v9 H1 locs1 hv9 hAt1 hS1 hk1 hz1 => ?_)
  subst hv9
  refine lv_i2l C9.1 C9.2.1 dL_join_11 rfl ?_
  refine zw_putN C9 (hLi9.2.1.kept (hk1 w9 hLi9.2.1.lt (fun z => z.elim hLi9.2.2.1.1 hLi9.2.2.1.2))) hS1 (Or.inl rfl) hLi9.2.2.2.2.2.2.2.1 dL_join_12 (fun H2 locs2 hW2 hS2 hk2 hz2 => ?_)
  refine lv_goto (tgt := 26) C9.1 C9.2.1 dL_join_15 (by decide) ?_
  refine z_iconst C9 dL_join_26 ?_
  exact zl_ret C9 (hAt1.kept (hk2 o (Ne.symm hLi9.2.2.1.1)) (hk2 a (Ne.symm hLi9.2.2.1.2))) hW2 hS2 hr9 hk9 (Nat.le_of_ble_eq_true rfl) (Nat.le_of_ble_eq_true rfl) dL_join_27 rfl
set_option maxHeartbeats 4000000 in
set_option maxRecDepth 100000 in
theorem c_L_times (l : Launch) (D : va_G) (cJ : ClassId) (o a : Nat) (c : Nat → Nat) (ac : Int32) (re : Int32) (kn : Int32) (f : Int) (g : Int) (z : Int) (hf : 0 ≤ f ∧ f ≤ 5) (hg : 0 ≤ g ∧ g ≤ 5) (hz : 0 ≤ z ∧ z ≤ 5) (w9 : Nat) (n9 : Int64) (s9 : Value) : zL l yL_times 5 143 0 0 D cJ o a w9 [.ref o, .int (iZ (f)), .int (iZ (g)), .int (iZ (z)), .ref w9] c [.int (ac), .int (re), .int (kn)] n9 s9 0 (aC c (z.toNat) (wT (c f.toNat) (c g.toNat))) [.int (aA ac (wT (c f.toNat) (c g.toNat))), .int (aF re (wT (c f.toNat) (c g.toNat))), .int (kn)] ((iZ (aR c (z.toNat) (wT (c f.toNat) (c g.toNat))))).toInt64 s9 := by
  refine zL.intro (lo := 118) (nA := 5) zw_L_times (by decide) rfl rfl (by decide +kernel) rfl (Nat.le_of_ble_eq_true rfl) ?_
  intro p e s m below meth c0 ls C9 hr9 hk9 ht9 hLi9 hS9 hl9
  have hl9 : lv_has ls 6 [(0, .ref o), (1, .int (iZ (f))), (2, .int (iZ (g))), (3, .int (iZ (z))), (4, .ref w9)] := hl9
  refine lv_aload C9.1 C9.2.1 dL_times_0 (lv_at hl9 4 rfl) ?_
  refine lv_aload_n C9.1 C9.2.1 dL_times_2 rfl (lv_at hl9 0 rfl) ?_
  refine lv_iload_n C9.1 C9.2.1 dL_times_3 rfl (lv_at hl9 1 rfl) ?_
  refine lv_iload_n C9.1 C9.2.1 dL_times_4 rfl (lv_at hl9 2 rfl) ?_
  refine lv_iload_n C9.1 C9.2.1 dL_times_5 rfl (lv_at hl9 3 rfl) ?_
  refine zg_call (as := [.int (iZ (f)), .int (iZ (g)), .int (iZ (z))]) C9 hLi9.1 hS9 (fun q h => Or.inr h) (c_X3_times l D cJ o a c ac re kn f g z hf hg hz) ml_L_48 rfl (by decide) (by decide) hl9 (Nat.le_of_ble_eq_true rfl) rfl dL_times_6 (fun v9 H1 locs1 hv9 hAt1 hS1 hk1 hz1 => ?_)
  subst hv9
  refine lv_i2l C9.1 C9.2.1 dL_times_9 rfl ?_
  refine zw_putN C9 (hLi9.2.1.kept (hk1 w9 hLi9.2.1.lt (fun z => z.elim hLi9.2.2.1.1 hLi9.2.2.1.2))) hS1 (Or.inl rfl) hLi9.2.2.2.2.2.2.2.1 dL_times_10 (fun H2 locs2 hW2 hS2 hk2 hz2 => ?_)
  refine lv_goto (tgt := 20) C9.1 C9.2.1 dL_times_13 (by decide) ?_
  refine z_iconst C9 dL_times_20 ?_
  exact zl_ret C9 (hAt1.kept (hk2 o (Ne.symm hLi9.2.2.1.1)) (hk2 a (Ne.symm hLi9.2.2.1.2))) hW2 hS2 hr9 hk9 (Nat.le_of_ble_eq_true rfl) (Nat.le_of_ble_eq_true rfl) dL_times_21 rfl
set_option maxHeartbeats 4000000 in
set_option maxRecDepth 100000 in
theorem c_L_square (l : Launch) (D : va_G) (cJ : ClassId) (o a : Nat) (c : Nat → Nat) (ac : Int32) (re : Int32) (kn : Int32) (f : Int) (z : Int) (hf : 0 ≤ f ∧ f ≤ 5) (hz : 0 ≤ z ∧ z ≤ 5) (w9 : Nat) (n9 : Int64) (s9 : Value) : zL l yL_square 5 139 0 0 D cJ o a w9 [.ref o, .int (iZ (f)), .int (iZ (z)), .ref w9] c [.int (ac), .int (re), .int (kn)] n9 s9 0 (aC c (z.toNat) (wT (c f.toNat) (c f.toNat))) [.int (aA ac (wT (c f.toNat) (c f.toNat))), .int (aF re (wT (c f.toNat) (c f.toNat))), .int (kn)] ((iZ (aR c (z.toNat) (wT (c f.toNat) (c f.toNat))))).toInt64 s9 := by
  refine zL.intro (lo := 115) (nA := 4) zw_L_square (by decide) rfl rfl (by decide +kernel) rfl (Nat.le_of_ble_eq_true rfl) ?_
  intro p e s m below meth c0 ls C9 hr9 hk9 ht9 hLi9 hS9 hl9
  have hl9 : lv_has ls 5 [(0, .ref o), (1, .int (iZ (f))), (2, .int (iZ (z))), (3, .ref w9)] := hl9
  refine lv_aload_n C9.1 C9.2.1 dL_square_0 rfl (lv_at hl9 3 rfl) ?_
  refine lv_aload_n C9.1 C9.2.1 dL_square_1 rfl (lv_at hl9 0 rfl) ?_
  refine lv_iload_n C9.1 C9.2.1 dL_square_2 rfl (lv_at hl9 1 rfl) ?_
  refine lv_iload_n C9.1 C9.2.1 dL_square_3 rfl (lv_at hl9 2 rfl) ?_
  refine zg_call (as := [.int (iZ (f)), .int (iZ (z))]) C9 hLi9.1 hS9 (fun q h => Or.inr h) (c_X3_square l D cJ o a c ac re kn f z hf hz) ml_L_52 rfl (by decide) (by decide) hl9 (Nat.le_of_ble_eq_true rfl) rfl dL_square_4 (fun v9 H1 locs1 hv9 hAt1 hS1 hk1 hz1 => ?_)
  subst hv9
  refine lv_i2l C9.1 C9.2.1 dL_square_7 rfl ?_
  refine zw_putN C9 (hLi9.2.1.kept (hk1 w9 hLi9.2.1.lt (fun z => z.elim hLi9.2.2.1.1 hLi9.2.2.1.2))) hS1 (Or.inl rfl) hLi9.2.2.2.2.2.2.2.1 dL_square_8 (fun H2 locs2 hW2 hS2 hk2 hz2 => ?_)
  refine lv_goto (tgt := 18) C9.1 C9.2.1 dL_square_11 (by decide) ?_
  refine z_iconst C9 dL_square_18 ?_
  exact zl_ret C9 (hAt1.kept (hk2 o (Ne.symm hLi9.2.2.1.1)) (hk2 a (Ne.symm hLi9.2.2.1.2))) hW2 hS2 hr9 hk9 (Nat.le_of_ble_eq_true rfl) (Nat.le_of_ble_eq_true rfl) dL_square_19 rfl
set_option maxHeartbeats 4000000 in
set_option maxRecDepth 100000 in
theorem c_L_shift (l : Launch) (D : va_G) (cJ : ClassId) (o a : Nat) (c : Nat → Nat) (ac : Int32) (re : Int32) (kn : Int32) (f : Int) (g : Int) (z : Int) (hf : 0 ≤ f ∧ f ≤ 5) (hg : -32 ≤ g ∧ g ≤ 32) (hz : 0 ≤ z ∧ z ≤ 5) (w9 : Nat) (n9 : Int64) (s9 : Value) : zL l yL_shift 4 116 0 0 D cJ o a w9 [.ref o, .int (iZ (f)), .int (iZ (g)), .int (iZ (z)), .ref w9] c [.int (ac), .int (re), .int (kn)] n9 s9 0 (aC c (z.toNat) (wS (c f.toNat) g)) [.int (aA ac (wS (c f.toNat) g)), .int (aF re (wS (c f.toNat) g)), .int (kn)] ((iZ (aR c (z.toNat) (wS (c f.toNat) g)))).toInt64 s9 := by
  refine zL.intro (lo := 91) (nA := 5) zw_L_shift (by decide) rfl rfl (by decide +kernel) rfl (Nat.le_of_ble_eq_true rfl) ?_
  intro p e s m below meth c0 ls C9 hr9 hk9 ht9 hLi9 hS9 hl9
  have hl9 : lv_has ls 6 [(0, .ref o), (1, .int (iZ (f))), (2, .int (iZ (g))), (3, .int (iZ (z))), (4, .ref w9)] := hl9
  refine lv_aload C9.1 C9.2.1 dL_shift_0 (lv_at hl9 4 rfl) ?_
  refine lv_aload_n C9.1 C9.2.1 dL_shift_2 rfl (lv_at hl9 0 rfl) ?_
  refine lv_iload_n C9.1 C9.2.1 dL_shift_3 rfl (lv_at hl9 1 rfl) ?_
  refine lv_iload_n C9.1 C9.2.1 dL_shift_4 rfl (lv_at hl9 2 rfl) ?_
  refine lv_iload_n C9.1 C9.2.1 dL_shift_5 rfl (lv_at hl9 3 rfl) ?_
  refine zg_call (as := [.int (iZ (f)), .int (iZ (g)), .int (iZ (z))]) C9 hLi9.1 hS9 (fun q h => Or.inr h) (c_X3_shift l D cJ o a c ac re kn f g z hf hg hz) ml_L_55 rfl (by decide) (by decide) hl9 (Nat.le_of_ble_eq_true rfl) rfl dL_shift_6 (fun v9 H1 locs1 hv9 hAt1 hS1 hk1 hz1 => ?_)
  subst hv9
  refine lv_i2l C9.1 C9.2.1 dL_shift_9 rfl ?_
  refine zw_putN C9 (hLi9.2.1.kept (hk1 w9 hLi9.2.1.lt (fun z => z.elim hLi9.2.2.1.1 hLi9.2.2.1.2))) hS1 (Or.inl rfl) hLi9.2.2.2.2.2.2.2.1 dL_shift_10 (fun H2 locs2 hW2 hS2 hk2 hz2 => ?_)
  refine lv_goto (tgt := 24) C9.1 C9.2.1 dL_shift_13 (by decide) ?_
  refine z_iconst C9 dL_shift_24 ?_
  exact zl_ret C9 (hAt1.kept (hk2 o (Ne.symm hLi9.2.2.1.1)) (hk2 a (Ne.symm hLi9.2.2.1.2))) hW2 hS2 hr9 hk9 (Nat.le_of_ble_eq_true rfl) (Nat.le_of_ble_eq_true rfl) dL_shift_25 rfl
set_option maxHeartbeats 4000000 in
set_option maxRecDepth 100000 in
theorem c_L_quotient (l : Launch) (D : va_G) (cJ : ClassId) (o a : Nat) (c : Nat → Nat) (ac : Int32) (re : Int32) (kn : Int32) (f : Int) (g : Int) (z : Int) (hf : 0 ≤ f ∧ f ≤ 5) (hg : 0 ≤ g ∧ g ≤ 5) (hz : 0 ≤ z ∧ z ≤ 5) (w9 : Nat) (n9 : Int64) (s9 : Value) : zL l yL_quotient 4 118 0 0 D cJ o a w9 [.ref o, .int (iZ (f)), .int (iZ (g)), .int (iZ (z)), .ref w9] c [.int (ac), .int (re), .int (kn)] n9 s9 0 (aC c (z.toNat) (wQ (c f.toNat) (c g.toNat))) [.int (aA ac (wQ (c f.toNat) (c g.toNat))), .int (aF re (wQ (c f.toNat) (c g.toNat))), .int (kn)] ((iZ (aR c (z.toNat) (wQ (c f.toNat) (c g.toNat))))).toInt64 s9 := by
  refine zL.intro (lo := 93) (nA := 5) zw_L_quotient (by decide) rfl rfl (by decide +kernel) rfl (Nat.le_of_ble_eq_true rfl) ?_
  intro p e s m below meth c0 ls C9 hr9 hk9 ht9 hLi9 hS9 hl9
  have hl9 : lv_has ls 6 [(0, .ref o), (1, .int (iZ (f))), (2, .int (iZ (g))), (3, .int (iZ (z))), (4, .ref w9)] := hl9
  refine lv_aload C9.1 C9.2.1 dL_quotient_0 (lv_at hl9 4 rfl) ?_
  refine lv_aload_n C9.1 C9.2.1 dL_quotient_2 rfl (lv_at hl9 0 rfl) ?_
  refine lv_iload_n C9.1 C9.2.1 dL_quotient_3 rfl (lv_at hl9 1 rfl) ?_
  refine lv_iload_n C9.1 C9.2.1 dL_quotient_4 rfl (lv_at hl9 2 rfl) ?_
  refine lv_iload_n C9.1 C9.2.1 dL_quotient_5 rfl (lv_at hl9 3 rfl) ?_
  refine zg_call (as := [.int (iZ (f)), .int (iZ (g)), .int (iZ (z))]) C9 hLi9.1 hS9 (fun q h => Or.inr h) (c_X3_quotient l D cJ o a c ac re kn f g z hf hg hz) ml_L_58 rfl (by decide) (by decide) hl9 (Nat.le_of_ble_eq_true rfl) rfl dL_quotient_6 (fun v9 H1 locs1 hv9 hAt1 hS1 hk1 hz1 => ?_)
  subst hv9
  refine lv_i2l C9.1 C9.2.1 dL_quotient_9 rfl ?_
  refine zw_putN C9 (hLi9.2.1.kept (hk1 w9 hLi9.2.1.lt (fun z => z.elim hLi9.2.2.1.1 hLi9.2.2.1.2))) hS1 (Or.inl rfl) hLi9.2.2.2.2.2.2.2.1 dL_quotient_10 (fun H2 locs2 hW2 hS2 hk2 hz2 => ?_)
  refine lv_goto (tgt := 20) C9.1 C9.2.1 dL_quotient_13 (by decide) ?_
  refine z_iconst C9 dL_quotient_20 ?_
  exact zl_ret C9 (hAt1.kept (hk2 o (Ne.symm hLi9.2.2.1.1)) (hk2 a (Ne.symm hLi9.2.2.1.2))) hW2 hS2 hr9 hk9 (Nat.le_of_ble_eq_true rfl) (Nat.le_of_ble_eq_true rfl) dL_quotient_21 rfl
set_option maxHeartbeats 4000000 in
set_option maxRecDepth 100000 in
theorem c_L_rest (l : Launch) (D : va_G) (cJ : ClassId) (o a : Nat) (c : Nat → Nat) (ac : Int32) (re : Int32) (kn : Int32) (f : Int) (g : Int) (z : Int) (hf : 0 ≤ f ∧ f ≤ 5) (hg : 0 ≤ g ∧ g ≤ 5) (hz : 0 ≤ z ∧ z ≤ 5) (w9 : Nat) (n9 : Int64) (s9 : Value) : zL l yL_rest 4 127 0 0 D cJ o a w9 [.ref o, .int (iZ (f)), .int (iZ (g)), .int (iZ (z)), .ref w9] c [.int (ac), .int (re), .int (kn)] n9 s9 0 (aC c (z.toNat) (wM (c f.toNat) (c g.toNat))) [.int (aA ac (wM (c f.toNat) (c g.toNat))), .int (aF re (wM (c f.toNat) (c g.toNat))), .int (kn)] ((iZ (aR c (z.toNat) (wM (c f.toNat) (c g.toNat))))).toInt64 s9 := by
  refine zL.intro (lo := 102) (nA := 5) zw_L_rest (by decide) rfl rfl (by decide +kernel) rfl (Nat.le_of_ble_eq_true rfl) ?_
  intro p e s m below meth c0 ls C9 hr9 hk9 ht9 hLi9 hS9 hl9
  have hl9 : lv_has ls 6 [(0, .ref o), (1, .int (iZ (f))), (2, .int (iZ (g))), (3, .int (iZ (z))), (4, .ref w9)] := hl9
  refine lv_aload C9.1 C9.2.1 dL_rest_0 (lv_at hl9 4 rfl) ?_
  refine lv_aload_n C9.1 C9.2.1 dL_rest_2 rfl (lv_at hl9 0 rfl) ?_
  refine lv_iload_n C9.1 C9.2.1 dL_rest_3 rfl (lv_at hl9 1 rfl) ?_
  refine lv_iload_n C9.1 C9.2.1 dL_rest_4 rfl (lv_at hl9 2 rfl) ?_
  refine lv_iload_n C9.1 C9.2.1 dL_rest_5 rfl (lv_at hl9 3 rfl) ?_
  refine zg_call (as := [.int (iZ (f)), .int (iZ (g)), .int (iZ (z))]) C9 hLi9.1 hS9 (fun q h => Or.inr h) (c_X3_rest l D cJ o a c ac re kn f g z hf hg hz) ml_L_61 rfl (by decide) (by decide) hl9 (Nat.le_of_ble_eq_true rfl) rfl dL_rest_6 (fun v9 H1 locs1 hv9 hAt1 hS1 hk1 hz1 => ?_)
  subst hv9
  refine lv_i2l C9.1 C9.2.1 dL_rest_9 rfl ?_
  refine zw_putN C9 (hLi9.2.1.kept (hk1 w9 hLi9.2.1.lt (fun z => z.elim hLi9.2.2.1.1 hLi9.2.2.1.2))) hS1 (Or.inl rfl) hLi9.2.2.2.2.2.2.2.1 dL_rest_10 (fun H2 locs2 hW2 hS2 hk2 hz2 => ?_)
  refine lv_goto (tgt := 20) C9.1 C9.2.1 dL_rest_13 (by decide) ?_
  refine z_iconst C9 dL_rest_20 ?_
  exact zl_ret C9 (hAt1.kept (hk2 o (Ne.symm hLi9.2.2.1.1)) (hk2 a (Ne.symm hLi9.2.2.1.2))) hW2 hS2 hr9 hk9 (Nat.le_of_ble_eq_true rfl) (Nat.le_of_ble_eq_true rfl) dL_rest_21 rfl
set_option maxHeartbeats 4000000 in
set_option maxRecDepth 100000 in
theorem c_L_gcd (l : Launch) (D : va_G) (cJ : ClassId) (o a : Nat) (c : Nat → Nat) (ac : Int32) (re : Int32) (kn : Int32) (f : Int) (g : Int) (z : Int) (hf : 0 ≤ f ∧ f ≤ 5) (hg : 0 ≤ g ∧ g ≤ 5) (hz : 0 ≤ z ∧ z ≤ 5) (w9 : Nat) (n9 : Int64) (s9 : Value) : zL l yL_gcd 5 169 0 0 D cJ o a w9 [.ref o, .int (iZ (f)), .int (iZ (g)), .int (iZ (z)), .ref w9] c [.int (ac), .int (re), .int (kn)] n9 s9 0 (aC c (z.toNat) (some (eu (c f.toNat) (c g.toNat) (c f.toNat) (c g.toNat)))) [.int (aA ac (some (eu (c f.toNat) (c g.toNat) (c f.toNat) (c g.toNat)))), .int (aF re (some (eu (c f.toNat) (c g.toNat) (c f.toNat) (c g.toNat)))), .int (kn)] ((iZ (aR c (z.toNat) (some (eu (c f.toNat) (c g.toNat) (c f.toNat) (c g.toNat)))))).toInt64 s9 := by
  refine zL.intro (lo := 144) (nA := 5) zw_L_gcd (by decide) rfl rfl (by decide +kernel) rfl (Nat.le_of_ble_eq_true rfl) ?_
  intro p e s m below meth c0 ls C9 hr9 hk9 ht9 hLi9 hS9 hl9
  have hl9 : lv_has ls 6 [(0, .ref o), (1, .int (iZ (f))), (2, .int (iZ (g))), (3, .int (iZ (z))), (4, .ref w9)] := hl9
  refine lv_aload C9.1 C9.2.1 dL_gcd_0 (lv_at hl9 4 rfl) ?_
  refine lv_aload_n C9.1 C9.2.1 dL_gcd_2 rfl (lv_at hl9 0 rfl) ?_
  refine lv_iload_n C9.1 C9.2.1 dL_gcd_3 rfl (lv_at hl9 1 rfl) ?_
  refine lv_iload_n C9.1 C9.2.1 dL_gcd_4 rfl (lv_at hl9 2 rfl) ?_
  refine lv_iload_n C9.1 C9.2.1 dL_gcd_5 rfl (lv_at hl9 3 rfl) ?_
  refine zg_call (as := [.int (iZ (f)), .int (iZ (g)), .int (iZ (z))]) C9 hLi9.1 hS9 (fun q h => Or.inr h) (c_X3_gcd l D cJ o a c ac re kn f g z hf hg hz) ml_L_64 rfl (by decide) (by decide) hl9 (Nat.le_of_ble_eq_true rfl) rfl dL_gcd_6 (fun v9 H1 locs1 hv9 hAt1 hS1 hk1 hz1 => ?_)
  subst hv9
  refine lv_i2l C9.1 C9.2.1 dL_gcd_9 rfl ?_
  refine zw_putN C9 (hLi9.2.1.kept (hk1 w9 hLi9.2.1.lt (fun z => z.elim hLi9.2.2.1.1 hLi9.2.2.1.2))) hS1 (Or.inl rfl) hLi9.2.2.2.2.2.2.2.1 dL_gcd_10 (fun H2 locs2 hW2 hS2 hk2 hz2 => ?_)
  refine lv_goto (tgt := 20) C9.1 C9.2.1 dL_gcd_13 (by decide) ?_
  refine z_iconst C9 dL_gcd_20 ?_
  exact zl_ret C9 (hAt1.kept (hk2 o (Ne.symm hLi9.2.2.1.1)) (hk2 a (Ne.symm hLi9.2.2.1.2))) hW2 hS2 hr9 hk9 (Nat.le_of_ble_eq_true rfl) (Nat.le_of_ble_eq_true rfl) dL_gcd_21 rfl
set_option maxHeartbeats 4000000 in
set_option maxRecDepth 100000 in
theorem c_L_lcm (l : Launch) (D : va_G) (cJ : ClassId) (o a : Nat) (c : Nat → Nat) (ac : Int32) (re : Int32) (kn : Int32) (f : Int) (g : Int) (z : Int) (hf : 0 ≤ f ∧ f ≤ 5) (hg : 0 ≤ g ∧ g ≤ 5) (hz : 0 ≤ z ∧ z ≤ 5) (w9 : Nat) (n9 : Int64) (s9 : Value) : zL l yL_lcm 5 169 0 0 D cJ o a w9 [.ref o, .int (iZ (f)), .int (iZ (g)), .int (iZ (z)), .ref w9] c [.int (ac), .int (re), .int (kn)] n9 s9 0 (aC c (z.toNat) (wT (c f.toNat) (qo (c g.toNat) (eu (c f.toNat) (c g.toNat) (c f.toNat) (c g.toNat))))) [.int (aA ac (wT (c f.toNat) (qo (c g.toNat) (eu (c f.toNat) (c g.toNat) (c f.toNat) (c g.toNat))))), .int (aF re (wT (c f.toNat) (qo (c g.toNat) (eu (c f.toNat) (c g.toNat) (c f.toNat) (c g.toNat))))), .int (kn)] ((iZ (aR c (z.toNat) (wT (c f.toNat) (qo (c g.toNat) (eu (c f.toNat) (c g.toNat) (c f.toNat) (c g.toNat))))))).toInt64 s9 := by
  refine zL.intro (lo := 144) (nA := 5) zw_L_lcm (by decide) rfl rfl (by decide +kernel) rfl (Nat.le_of_ble_eq_true rfl) ?_
  intro p e s m below meth c0 ls C9 hr9 hk9 ht9 hLi9 hS9 hl9
  have hl9 : lv_has ls 6 [(0, .ref o), (1, .int (iZ (f))), (2, .int (iZ (g))), (3, .int (iZ (z))), (4, .ref w9)] := hl9
  refine lv_aload C9.1 C9.2.1 dL_lcm_0 (lv_at hl9 4 rfl) ?_
  refine lv_aload_n C9.1 C9.2.1 dL_lcm_2 rfl (lv_at hl9 0 rfl) ?_
  refine lv_iload_n C9.1 C9.2.1 dL_lcm_3 rfl (lv_at hl9 1 rfl) ?_
  refine lv_iload_n C9.1 C9.2.1 dL_lcm_4 rfl (lv_at hl9 2 rfl) ?_
  refine lv_iload_n C9.1 C9.2.1 dL_lcm_5 rfl (lv_at hl9 3 rfl) ?_
  refine zg_call (as := [.int (iZ (f)), .int (iZ (g)), .int (iZ (z))]) C9 hLi9.1 hS9 (fun q h => Or.inr h) (c_X3_lcm l D cJ o a c ac re kn f g z hf hg hz) ml_L_67 rfl (by decide) (by decide) hl9 (Nat.le_of_ble_eq_true rfl) rfl dL_lcm_6 (fun v9 H1 locs1 hv9 hAt1 hS1 hk1 hz1 => ?_)
  subst hv9
  refine lv_i2l C9.1 C9.2.1 dL_lcm_9 rfl ?_
  refine zw_putN C9 (hLi9.2.1.kept (hk1 w9 hLi9.2.1.lt (fun z => z.elim hLi9.2.2.1.1 hLi9.2.2.1.2))) hS1 (Or.inl rfl) hLi9.2.2.2.2.2.2.2.1 dL_lcm_10 (fun H2 locs2 hW2 hS2 hk2 hz2 => ?_)
  refine lv_goto (tgt := 20) C9.1 C9.2.1 dL_lcm_13 (by decide) ?_
  refine z_iconst C9 dL_lcm_20 ?_
  exact zl_ret C9 (hAt1.kept (hk2 o (Ne.symm hLi9.2.2.1.1)) (hk2 a (Ne.symm hLi9.2.2.1.2))) hW2 hS2 hr9 hk9 (Nat.le_of_ble_eq_true rfl) (Nat.le_of_ble_eq_true rfl) dL_lcm_21 rfl
set_option maxHeartbeats 4000000 in
set_option maxRecDepth 100000 in
theorem c_L_bezout (l : Launch) (D : va_G) (cJ : ClassId) (o a : Nat) (c : Nat → Nat) (ac : Int32) (re : Int32) (kn : Int32) (f : Int) (g : Int) (b : Bool) (z : Int) (hf : 0 ≤ f ∧ f ≤ 5) (hg : 0 ≤ g ∧ g ≤ 5) (hz : 0 ≤ z ∧ z ≤ 5) (w9 : Nat) (n9 : Int64) (s9 : Value) : zL l yL_bezout 5 171 0 0 D cJ o a w9 [.ref o, .int (iZ (f)), .int (iZ (g)), .int (iZ (zB (b))), .int (iZ (z)), .ref w9] c [.int (ac), .int (re), .int (kn)] n9 s9 0 (aC c (z.toNat) (some (if b = true then eu (c f.toNat) (c g.toNat) 1 0 else eu (c f.toNat) (c g.toNat) 0 1))) [.int (aA ac (some (if b = true then eu (c f.toNat) (c g.toNat) 1 0 else eu (c f.toNat) (c g.toNat) 0 1))), .int (aF re (some (if b = true then eu (c f.toNat) (c g.toNat) 1 0 else eu (c f.toNat) (c g.toNat) 0 1))), .int (kn)] ((iZ (aR c (z.toNat) (some (if b = true then eu (c f.toNat) (c g.toNat) 1 0 else eu (c f.toNat) (c g.toNat) 0 1))))).toInt64 s9 := by
  refine zL.intro (lo := 145) (nA := 6) zw_L_bezout (by decide) rfl rfl (by decide +kernel) rfl (Nat.le_of_ble_eq_true rfl) ?_
  intro p e s m below meth c0 ls C9 hr9 hk9 ht9 hLi9 hS9 hl9
  have hl9 : lv_has ls 7 [(0, .ref o), (1, .int (iZ (f))), (2, .int (iZ (g))), (3, .int (iZ (zB (b)))), (4, .int (iZ (z))), (5, .ref w9)] := hl9
  refine lv_aload C9.1 C9.2.1 dL_bezout_0 (lv_at hl9 5 rfl) ?_
  refine lv_aload_n C9.1 C9.2.1 dL_bezout_2 rfl (lv_at hl9 0 rfl) ?_
  refine lv_iload_n C9.1 C9.2.1 dL_bezout_3 rfl (lv_at hl9 1 rfl) ?_
  refine lv_iload_n C9.1 C9.2.1 dL_bezout_4 rfl (lv_at hl9 2 rfl) ?_
  refine lv_iload_n C9.1 C9.2.1 dL_bezout_5 rfl (lv_at hl9 3 rfl) ?_
  refine lv_iload C9.1 C9.2.1 dL_bezout_6 (lv_at hl9 4 rfl) ?_
  refine zg_call (as := [.int (iZ (f)), .int (iZ (g)), .int (iZ (zB (b))), .int (iZ (z))]) C9 hLi9.1 hS9 (fun q h => Or.inr h) (c_X3_bezout l D cJ o a c ac re kn f g b z hf hg hz) ml_L_70 rfl (by decide) (by decide) hl9 (Nat.le_of_ble_eq_true rfl) rfl dL_bezout_8 (fun v9 H1 locs1 hv9 hAt1 hS1 hk1 hz1 => ?_)
  subst hv9
  refine lv_i2l C9.1 C9.2.1 dL_bezout_11 rfl ?_
  refine zw_putN C9 (hLi9.2.1.kept (hk1 w9 hLi9.2.1.lt (fun z => z.elim hLi9.2.2.1.1 hLi9.2.2.1.2))) hS1 (Or.inl rfl) hLi9.2.2.2.2.2.2.2.1 dL_bezout_12 (fun H2 locs2 hW2 hS2 hk2 hz2 => ?_)
  refine lv_goto (tgt := 22) C9.1 C9.2.1 dL_bezout_15 (by decide) ?_
  refine z_iconst C9 dL_bezout_22 ?_
  exact zl_ret C9 (hAt1.kept (hk2 o (Ne.symm hLi9.2.2.1.1)) (hk2 a (Ne.symm hLi9.2.2.1.2))) hW2 hS2 hr9 hk9 (Nat.le_of_ble_eq_true rfl) (Nat.le_of_ble_eq_true rfl) dL_bezout_23 rfl
set_option maxHeartbeats 4000000 in
set_option maxRecDepth 100000 in
theorem c_L_derive (l : Launch) (D : va_G) (cJ : ClassId) (o a : Nat) (c : Nat → Nat) (ac : Int32) (re : Int32) (kn : Int32) (f : Int) (z : Int) (hf : 0 ≤ f ∧ f ≤ 5) (hz : 0 ≤ z ∧ z ≤ 5) (w9 : Nat) (n9 : Int64) (s9 : Value) : zL l yL_derive 4 114 0 0 D cJ o a w9 [.ref o, .int (iZ (f)), .int (iZ (z)), .ref w9] c [.int (ac), .int (re), .int (kn)] n9 s9 0 (aC c (z.toNat) (some (dv (c f.toNat)))) [.int (aA ac (some (dv (c f.toNat)))), .int (aF re (some (dv (c f.toNat)))), .int (kn)] ((iZ (aR c (z.toNat) (some (dv (c f.toNat)))))).toInt64 s9 := by
  refine zL.intro (lo := 90) (nA := 4) zw_L_derive (by decide) rfl rfl (by decide +kernel) rfl (Nat.le_of_ble_eq_true rfl) ?_
  intro p e s m below meth c0 ls C9 hr9 hk9 ht9 hLi9 hS9 hl9
  have hl9 : lv_has ls 5 [(0, .ref o), (1, .int (iZ (f))), (2, .int (iZ (z))), (3, .ref w9)] := hl9
  refine lv_aload_n C9.1 C9.2.1 dL_derive_0 rfl (lv_at hl9 3 rfl) ?_
  refine lv_aload_n C9.1 C9.2.1 dL_derive_1 rfl (lv_at hl9 0 rfl) ?_
  refine lv_iload_n C9.1 C9.2.1 dL_derive_2 rfl (lv_at hl9 1 rfl) ?_
  refine lv_iload_n C9.1 C9.2.1 dL_derive_3 rfl (lv_at hl9 2 rfl) ?_
  refine zg_call (as := [.int (iZ (f)), .int (iZ (z))]) C9 hLi9.1 hS9 (fun q h => Or.inr h) (c_X3_derive l D cJ o a c ac re kn f z hf hz) ml_L_73 rfl (by decide) (by decide) hl9 (Nat.le_of_ble_eq_true rfl) rfl dL_derive_4 (fun v9 H1 locs1 hv9 hAt1 hS1 hk1 hz1 => ?_)
  subst hv9
  refine lv_i2l C9.1 C9.2.1 dL_derive_7 rfl ?_
  refine zw_putN C9 (hLi9.2.1.kept (hk1 w9 hLi9.2.1.lt (fun z => z.elim hLi9.2.2.1.1 hLi9.2.2.1.2))) hS1 (Or.inl rfl) hLi9.2.2.2.2.2.2.2.1 dL_derive_8 (fun H2 locs2 hW2 hS2 hk2 hz2 => ?_)
  refine lv_goto (tgt := 18) C9.1 C9.2.1 dL_derive_11 (by decide) ?_
  refine z_iconst C9 dL_derive_18 ?_
  exact zl_ret C9 (hAt1.kept (hk2 o (Ne.symm hLi9.2.2.1.1)) (hk2 a (Ne.symm hLi9.2.2.1.2))) hW2 hS2 hr9 hk9 (Nat.le_of_ble_eq_true rfl) (Nat.le_of_ble_eq_true rfl) dL_derive_19 rfl
set_option maxHeartbeats 4000000 in
set_option maxRecDepth 100000 in
theorem c_L_root (l : Launch) (D : va_G) (cJ : ClassId) (o a : Nat) (c : Nat → Nat) (ac : Int32) (re : Int32) (kn : Int32) (f : Int) (z : Int) (hf : 0 ≤ f ∧ f ≤ 5) (hz : 0 ≤ z ∧ z ≤ 5) (w9 : Nat) (n9 : Int64) (s9 : Value) : zL l yL_root 4 114 0 0 D cJ o a w9 [.ref o, .int (iZ (f)), .int (iZ (z)), .ref w9] c [.int (ac), .int (re), .int (kn)] n9 s9 0 (aC c (z.toNat) (wE (c f.toNat))) [.int (aA ac (wE (c f.toNat))), .int (aF re (wE (c f.toNat))), .int (kn)] ((iZ (aR c (z.toNat) (wE (c f.toNat))))).toInt64 s9 := by
  refine zL.intro (lo := 90) (nA := 4) zw_L_root (by decide) rfl rfl (by decide +kernel) rfl (Nat.le_of_ble_eq_true rfl) ?_
  intro p e s m below meth c0 ls C9 hr9 hk9 ht9 hLi9 hS9 hl9
  have hl9 : lv_has ls 5 [(0, .ref o), (1, .int (iZ (f))), (2, .int (iZ (z))), (3, .ref w9)] := hl9
  refine lv_aload_n C9.1 C9.2.1 dL_root_0 rfl (lv_at hl9 3 rfl) ?_
  refine lv_aload_n C9.1 C9.2.1 dL_root_1 rfl (lv_at hl9 0 rfl) ?_
  refine lv_iload_n C9.1 C9.2.1 dL_root_2 rfl (lv_at hl9 1 rfl) ?_
  refine lv_iload_n C9.1 C9.2.1 dL_root_3 rfl (lv_at hl9 2 rfl) ?_
  refine zg_call (as := [.int (iZ (f)), .int (iZ (z))]) C9 hLi9.1 hS9 (fun q h => Or.inr h) (c_X3_root l D cJ o a c ac re kn f z hf hz) ml_L_76 rfl (by decide) (by decide) hl9 (Nat.le_of_ble_eq_true rfl) rfl dL_root_4 (fun v9 H1 locs1 hv9 hAt1 hS1 hk1 hz1 => ?_)
  subst hv9
  refine lv_i2l C9.1 C9.2.1 dL_root_7 rfl ?_
  refine zw_putN C9 (hLi9.2.1.kept (hk1 w9 hLi9.2.1.lt (fun z => z.elim hLi9.2.2.1.1 hLi9.2.2.1.2))) hS1 (Or.inl rfl) hLi9.2.2.2.2.2.2.2.1 dL_root_8 (fun H2 locs2 hW2 hS2 hk2 hz2 => ?_)
  refine lv_goto (tgt := 18) C9.1 C9.2.1 dL_root_11 (by decide) ?_
  refine z_iconst C9 dL_root_18 ?_
  exact zl_ret C9 (hAt1.kept (hk2 o (Ne.symm hLi9.2.2.1.1)) (hk2 a (Ne.symm hLi9.2.2.1.2))) hW2 hS2 hr9 hk9 (Nat.le_of_ble_eq_true rfl) (Nat.le_of_ble_eq_true rfl) dL_root_19 rfl
set_option maxHeartbeats 4000000 in
set_option maxRecDepth 100000 in
theorem c_L_turn (l : Launch) (D : va_G) (cJ : ClassId) (o a : Nat) (c : Nat → Nat) (ac : Int32) (re : Int32) (kn : Int32) (f : Int) (z : Int) (hf : 0 ≤ f ∧ f ≤ 5) (hz : 0 ≤ z ∧ z ≤ 5) (w9 : Nat) (n9 : Int64) (s9 : Value) : zL l yL_turn 4 114 0 0 D cJ o a w9 [.ref o, .int (iZ (f)), .int (iZ (z)), .ref w9] c [.int (ac), .int (re), .int (kn)] n9 s9 0 (aC c (z.toNat) (some (tu (c f.toNat)))) [.int (aA ac (some (tu (c f.toNat)))), .int (aF re (some (tu (c f.toNat)))), .int (kn)] ((iZ (aR c (z.toNat) (some (tu (c f.toNat)))))).toInt64 s9 := by
  refine zL.intro (lo := 90) (nA := 4) zw_L_turn (by decide) rfl rfl (by decide +kernel) rfl (Nat.le_of_ble_eq_true rfl) ?_
  intro p e s m below meth c0 ls C9 hr9 hk9 ht9 hLi9 hS9 hl9
  have hl9 : lv_has ls 5 [(0, .ref o), (1, .int (iZ (f))), (2, .int (iZ (z))), (3, .ref w9)] := hl9
  refine lv_aload_n C9.1 C9.2.1 dL_turn_0 rfl (lv_at hl9 3 rfl) ?_
  refine lv_aload_n C9.1 C9.2.1 dL_turn_1 rfl (lv_at hl9 0 rfl) ?_
  refine lv_iload_n C9.1 C9.2.1 dL_turn_2 rfl (lv_at hl9 1 rfl) ?_
  refine lv_iload_n C9.1 C9.2.1 dL_turn_3 rfl (lv_at hl9 2 rfl) ?_
  refine zg_call (as := [.int (iZ (f)), .int (iZ (z))]) C9 hLi9.1 hS9 (fun q h => Or.inr h) (c_X3_turn l D cJ o a c ac re kn f z hf hz) ml_L_79 rfl (by decide) (by decide) hl9 (Nat.le_of_ble_eq_true rfl) rfl dL_turn_4 (fun v9 H1 locs1 hv9 hAt1 hS1 hk1 hz1 => ?_)
  subst hv9
  refine lv_i2l C9.1 C9.2.1 dL_turn_7 rfl ?_
  refine zw_putN C9 (hLi9.2.1.kept (hk1 w9 hLi9.2.1.lt (fun z => z.elim hLi9.2.2.1.1 hLi9.2.2.1.2))) hS1 (Or.inl rfl) hLi9.2.2.2.2.2.2.2.1 dL_turn_8 (fun H2 locs2 hW2 hS2 hk2 hz2 => ?_)
  refine lv_goto (tgt := 18) C9.1 C9.2.1 dL_turn_11 (by decide) ?_
  refine z_iconst C9 dL_turn_18 ?_
  exact zl_ret C9 (hAt1.kept (hk2 o (Ne.symm hLi9.2.2.1.1)) (hk2 a (Ne.symm hLi9.2.2.1.2))) hW2 hS2 hr9 hk9 (Nat.le_of_ble_eq_true rfl) (Nat.le_of_ble_eq_true rfl) dL_turn_19 rfl
set_option maxHeartbeats 4000000 in
set_option maxRecDepth 100000 in
theorem c_L_move (l : Launch) (D : va_G) (cJ : ClassId) (o a : Nat) (c : Nat → Nat) (ac : Int32) (re : Int32) (kn : Int32) (f : Int) (z : Int) (hf : 0 ≤ f ∧ f ≤ 5) (hz : 0 ≤ z ∧ z ≤ 5) (w9 : Nat) (n9 : Int64) (s9 : Value) : zL l yL_move 4 114 0 0 D cJ o a w9 [.ref o, .int (iZ (f)), .int (iZ (z)), .ref w9] c [.int (ac), .int (re), .int (kn)] n9 s9 0 (aC c (z.toNat) (some (mv (c f.toNat)))) [.int (aA ac (some (mv (c f.toNat)))), .int (aF re (some (mv (c f.toNat)))), .int (kn)] ((iZ (aR c (z.toNat) (some (mv (c f.toNat)))))).toInt64 s9 := by
  refine zL.intro (lo := 90) (nA := 4) zw_L_move (by decide) rfl rfl (by decide +kernel) rfl (Nat.le_of_ble_eq_true rfl) ?_
  intro p e s m below meth c0 ls C9 hr9 hk9 ht9 hLi9 hS9 hl9
  have hl9 : lv_has ls 5 [(0, .ref o), (1, .int (iZ (f))), (2, .int (iZ (z))), (3, .ref w9)] := hl9
  refine lv_aload_n C9.1 C9.2.1 dL_move_0 rfl (lv_at hl9 3 rfl) ?_
  refine lv_aload_n C9.1 C9.2.1 dL_move_1 rfl (lv_at hl9 0 rfl) ?_
  refine lv_iload_n C9.1 C9.2.1 dL_move_2 rfl (lv_at hl9 1 rfl) ?_
  refine lv_iload_n C9.1 C9.2.1 dL_move_3 rfl (lv_at hl9 2 rfl) ?_
  refine zg_call (as := [.int (iZ (f)), .int (iZ (z))]) C9 hLi9.1 hS9 (fun q h => Or.inr h) (c_X3_move l D cJ o a c ac re kn f z hf hz) ml_L_82 rfl (by decide) (by decide) hl9 (Nat.le_of_ble_eq_true rfl) rfl dL_move_4 (fun v9 H1 locs1 hv9 hAt1 hS1 hk1 hz1 => ?_)
  subst hv9
  refine lv_i2l C9.1 C9.2.1 dL_move_7 rfl ?_
  refine zw_putN C9 (hLi9.2.1.kept (hk1 w9 hLi9.2.1.lt (fun z => z.elim hLi9.2.2.1.1 hLi9.2.2.1.2))) hS1 (Or.inl rfl) hLi9.2.2.2.2.2.2.2.1 dL_move_8 (fun H2 locs2 hW2 hS2 hk2 hz2 => ?_)
  refine lv_goto (tgt := 18) C9.1 C9.2.1 dL_move_11 (by decide) ?_
  refine z_iconst C9 dL_move_18 ?_
  exact zl_ret C9 (hAt1.kept (hk2 o (Ne.symm hLi9.2.2.1.1)) (hk2 a (Ne.symm hLi9.2.2.1.2))) hW2 hS2 hr9 hk9 (Nat.le_of_ble_eq_true rfl) (Nat.le_of_ble_eq_true rfl) dL_move_19 rfl
set_option maxHeartbeats 4000000 in
set_option maxRecDepth 100000 in
theorem c_L_power (l : Launch) (D : va_G) (cJ : ClassId) (o a : Nat) (c : Nat → Nat) (ac : Int32) (re : Int32) (kn : Int32) (f : Int) (t : Int) (g : Int) (z : Int) (hf : 0 ≤ f ∧ f ≤ 5) (ht : 0 ≤ t ∧ t ≤ 255) (hg : 0 ≤ g ∧ g ≤ 5) (hz : 0 ≤ z ∧ z ≤ 5) (w9 : Nat) (n9 : Int64) (s9 : Value) : zL l yL_power 5 158 0 0 D cJ o a w9 [.ref o, .int (iZ (f)), .int (iZ (t)), .int (iZ (g)), .int (iZ (z)), .ref w9] c [.int (ac), .int (re), .int (kn)] n9 s9 0 (aC c (z.toNat) (wP (c f.toNat) (c g.toNat) t)) [.int (aA ac (wP (c f.toNat) (c g.toNat) t)), .int (aF re (wP (c f.toNat) (c g.toNat) t)), .int (kn)] ((iZ (aR c (z.toNat) (wP (c f.toNat) (c g.toNat) t)))).toInt64 s9 := by
  refine zL.intro (lo := 132) (nA := 6) zw_L_power (by decide) rfl rfl (by decide +kernel) rfl (Nat.le_of_ble_eq_true rfl) ?_
  intro p e s m below meth c0 ls C9 hr9 hk9 ht9 hLi9 hS9 hl9
  have hl9 : lv_has ls 7 [(0, .ref o), (1, .int (iZ (f))), (2, .int (iZ (t))), (3, .int (iZ (g))), (4, .int (iZ (z))), (5, .ref w9)] := hl9
  refine lv_aload C9.1 C9.2.1 dL_power_0 (lv_at hl9 5 rfl) ?_
  refine lv_aload_n C9.1 C9.2.1 dL_power_2 rfl (lv_at hl9 0 rfl) ?_
  refine lv_iload_n C9.1 C9.2.1 dL_power_3 rfl (lv_at hl9 1 rfl) ?_
  refine lv_iload_n C9.1 C9.2.1 dL_power_4 rfl (lv_at hl9 2 rfl) ?_
  refine lv_iload_n C9.1 C9.2.1 dL_power_5 rfl (lv_at hl9 3 rfl) ?_
  refine lv_iload C9.1 C9.2.1 dL_power_6 (lv_at hl9 4 rfl) ?_
  refine zg_call (as := [.int (iZ (f)), .int (iZ (t)), .int (iZ (g)), .int (iZ (z))]) C9 hLi9.1 hS9 (fun q h => Or.inr h) (c_X3_power l D cJ o a c ac re kn f t g z hf ht hg hz) ml_L_85 rfl (by decide) (by decide) hl9 (Nat.le_of_ble_eq_true rfl) rfl dL_power_8 (fun v9 H1 locs1 hv9 hAt1 hS1 hk1 hz1 => ?_)
  subst hv9
  refine lv_i2l C9.1 C9.2.1 dL_power_11 rfl ?_
  refine zw_putN C9 (hLi9.2.1.kept (hk1 w9 hLi9.2.1.lt (fun z => z.elim hLi9.2.2.1.1 hLi9.2.2.1.2))) hS1 (Or.inl rfl) hLi9.2.2.2.2.2.2.2.1 dL_power_12 (fun H2 locs2 hW2 hS2 hk2 hz2 => ?_)
  refine lv_goto (tgt := 26) C9.1 C9.2.1 dL_power_15 (by decide) ?_
  refine z_iconst C9 dL_power_26 ?_
  exact zl_ret C9 (hAt1.kept (hk2 o (Ne.symm hLi9.2.2.1.1)) (hk2 a (Ne.symm hLi9.2.2.1.2))) hW2 hS2 hr9 hk9 (Nat.le_of_ble_eq_true rfl) (Nat.le_of_ble_eq_true rfl) dL_power_27 rfl
set_option maxHeartbeats 4000000 in
set_option maxRecDepth 100000 in
theorem c_L_nth (l : Launch) (D : va_G) (cJ : ClassId) (o a : Nat) (c : Nat → Nat) (ac : Int32) (re : Int32) (kn : Int32) (d : Int) (r : Int) (z : Int) (hd : 1 ≤ d ∧ d ≤ 8) (hr0 : 0 ≤ r ∧ r ≤ 40) (hz : 0 ≤ z ∧ z ≤ 5) (w9 : Nat) (n9 : Int64) (s9 : Value) : zL l yL_nth 7 198 0 0 D cJ o a w9 [.ref o, .int (iZ (d)), .int (iZ (r)), .int (iZ (z)), .ref w9] c [.int (ac), .int (re), .int (kn)] n9 s9 0 (aC c (z.toNat) (wN d r)) [.int (aA ac (wN d r)), .int (aF re (wN d r)), .int (kn)] ((iZ (aR c (z.toNat) (wN d r)))).toInt64 s9 := by
  refine zL.intro (lo := 173) (nA := 5) zw_L_nth (by decide) rfl rfl (by decide +kernel) rfl (Nat.le_of_ble_eq_true rfl) ?_
  intro p e s m below meth c0 ls C9 hr9 hk9 ht9 hLi9 hS9 hl9
  have hl9 : lv_has ls 6 [(0, .ref o), (1, .int (iZ (d))), (2, .int (iZ (r))), (3, .int (iZ (z))), (4, .ref w9)] := hl9
  refine lv_aload C9.1 C9.2.1 dL_nth_0 (lv_at hl9 4 rfl) ?_
  refine lv_aload_n C9.1 C9.2.1 dL_nth_2 rfl (lv_at hl9 0 rfl) ?_
  refine lv_iload_n C9.1 C9.2.1 dL_nth_3 rfl (lv_at hl9 1 rfl) ?_
  refine lv_iload_n C9.1 C9.2.1 dL_nth_4 rfl (lv_at hl9 2 rfl) ?_
  refine lv_iload_n C9.1 C9.2.1 dL_nth_5 rfl (lv_at hl9 3 rfl) ?_
  refine zg_call (as := [.int (iZ (d)), .int (iZ (r)), .int (iZ (z))]) C9 hLi9.1 hS9 (fun q h => Or.inr h) (c_X3_nth l D cJ o a c ac re kn d r z hd hr0 hz) ml_L_88 rfl (by decide) (by decide) hl9 (Nat.le_of_ble_eq_true rfl) rfl dL_nth_6 (fun v9 H1 locs1 hv9 hAt1 hS1 hk1 hz1 => ?_)
  subst hv9
  refine lv_i2l C9.1 C9.2.1 dL_nth_9 rfl ?_
  refine zw_putN C9 (hLi9.2.1.kept (hk1 w9 hLi9.2.1.lt (fun z => z.elim hLi9.2.2.1.1 hLi9.2.2.1.2))) hS1 (Or.inl rfl) hLi9.2.2.2.2.2.2.2.1 dL_nth_10 (fun H2 locs2 hW2 hS2 hk2 hz2 => ?_)
  refine lv_goto (tgt := 24) C9.1 C9.2.1 dL_nth_13 (by decide) ?_
  refine z_iconst C9 dL_nth_24 ?_
  exact zl_ret C9 (hAt1.kept (hk2 o (Ne.symm hLi9.2.2.1.1)) (hk2 a (Ne.symm hLi9.2.2.1.2))) hW2 hS2 hr9 hk9 (Nat.le_of_ble_eq_true rfl) (Nat.le_of_ble_eq_true rfl) dL_nth_25 rfl
set_option maxHeartbeats 4000000 in
set_option maxRecDepth 100000 in
theorem c_L_field (l : Launch) (D : va_G) (cJ : ClassId) (o a : Nat) (c : Nat → Nat) (ac : Int32) (re : Int32) (kn : Int32) (n : Int) (z : Int) (hn : 1 ≤ n ∧ n ≤ 5) (hz : 0 ≤ z ∧ z ≤ 5) (w9 : Nat) (n9 : Int64) (s9 : Value) : zL l yL_field 8 219 0 0 D cJ o a w9 [.ref o, .int (iZ (n)), .int (iZ (z)), .ref w9] c [.int (ac), .int (re), .int (kn)] n9 s9 0 (aC c (z.toNat) (some (pd n))) [.int (aA ac (some (pd n))), .int (aF re (some (pd n))), .int (kn)] ((iZ (aR c (z.toNat) (some (pd n))))).toInt64 s9 := by
  refine zL.intro (lo := 195) (nA := 4) zw_L_field (by decide) rfl rfl (by decide +kernel) rfl (Nat.le_of_ble_eq_true rfl) ?_
  intro p e s m below meth c0 ls C9 hr9 hk9 ht9 hLi9 hS9 hl9
  have hl9 : lv_has ls 5 [(0, .ref o), (1, .int (iZ (n))), (2, .int (iZ (z))), (3, .ref w9)] := hl9
  refine lv_aload_n C9.1 C9.2.1 dL_field_0 rfl (lv_at hl9 3 rfl) ?_
  refine lv_aload_n C9.1 C9.2.1 dL_field_1 rfl (lv_at hl9 0 rfl) ?_
  refine lv_iload_n C9.1 C9.2.1 dL_field_2 rfl (lv_at hl9 1 rfl) ?_
  refine lv_iload_n C9.1 C9.2.1 dL_field_3 rfl (lv_at hl9 2 rfl) ?_
  refine zg_call (as := [.int (iZ (n)), .int (iZ (z))]) C9 hLi9.1 hS9 (fun q h => Or.inr h) (c_X3_field l D cJ o a c ac re kn n z hn hz) ml_L_91 rfl (by decide) (by decide) hl9 (Nat.le_of_ble_eq_true rfl) rfl dL_field_4 (fun v9 H1 locs1 hv9 hAt1 hS1 hk1 hz1 => ?_)
  subst hv9
  refine lv_i2l C9.1 C9.2.1 dL_field_7 rfl ?_
  refine zw_putN C9 (hLi9.2.1.kept (hk1 w9 hLi9.2.1.lt (fun z => z.elim hLi9.2.2.1.1 hLi9.2.2.1.2))) hS1 (Or.inl rfl) hLi9.2.2.2.2.2.2.2.1 dL_field_8 (fun H2 locs2 hW2 hS2 hk2 hz2 => ?_)
  refine lv_goto (tgt := 22) C9.1 C9.2.1 dL_field_11 (by decide) ?_
  refine z_iconst C9 dL_field_22 ?_
  exact zl_ret C9 (hAt1.kept (hk2 o (Ne.symm hLi9.2.2.1.1)) (hk2 a (Ne.symm hLi9.2.2.1.2))) hW2 hS2 hr9 hk9 (Nat.le_of_ble_eq_true rfl) (Nat.le_of_ble_eq_true rfl) dL_field_23 rfl
set_option maxHeartbeats 4000000 in
set_option maxRecDepth 100000 in
theorem c_L_again (l : Launch) (D : va_G) (cJ : ClassId) (o a : Nat) (c : Nat → Nat) (ac : Int32) (re : Int32) (kn : Int32) (f : Int) (r : Int) (z : Int) (hf : 0 ≤ f ∧ f ≤ 5) (hr0 : 2 ≤ r ∧ r ≤ 36) (hz : 0 ≤ z ∧ z ≤ 5) (w9 : Nat) (n9 : Int64) (s9 : Value) : zL l yL_again 4 116 0 0 D cJ o a w9 [.ref o, .int (iZ (f)), .int (iZ (r)), .int (iZ (z)), .ref w9] c [.int (ac), .int (re), .int (kn)] n9 s9 0 (aC c (z.toNat) (some (c f.toNat))) [.int (aA ac (some (c f.toNat))), .int (aF re (some (c f.toNat))), .int (kn)] ((iZ (aR c (z.toNat) (some (c f.toNat))))).toInt64 s9 := by
  refine zL.intro (lo := 91) (nA := 5) zw_L_again (by decide) rfl rfl (by decide +kernel) rfl (Nat.le_of_ble_eq_true rfl) ?_
  intro p e s m below meth c0 ls C9 hr9 hk9 ht9 hLi9 hS9 hl9
  have hl9 : lv_has ls 6 [(0, .ref o), (1, .int (iZ (f))), (2, .int (iZ (r))), (3, .int (iZ (z))), (4, .ref w9)] := hl9
  refine lv_aload C9.1 C9.2.1 dL_again_0 (lv_at hl9 4 rfl) ?_
  refine lv_aload_n C9.1 C9.2.1 dL_again_2 rfl (lv_at hl9 0 rfl) ?_
  refine lv_iload_n C9.1 C9.2.1 dL_again_3 rfl (lv_at hl9 1 rfl) ?_
  refine lv_iload_n C9.1 C9.2.1 dL_again_4 rfl (lv_at hl9 2 rfl) ?_
  refine lv_iload_n C9.1 C9.2.1 dL_again_5 rfl (lv_at hl9 3 rfl) ?_
  refine zg_call (as := [.int (iZ (f)), .int (iZ (r)), .int (iZ (z))]) C9 hLi9.1 hS9 (fun q h => Or.inr h) (c_X3_again l D cJ o a c ac re kn f r z hf hr0 hz) ml_L_94 rfl (by decide) (by decide) hl9 (Nat.le_of_ble_eq_true rfl) rfl dL_again_6 (fun v9 H1 locs1 hv9 hAt1 hS1 hk1 hz1 => ?_)
  subst hv9
  refine lv_i2l C9.1 C9.2.1 dL_again_9 rfl ?_
  refine zw_putN C9 (hLi9.2.1.kept (hk1 w9 hLi9.2.1.lt (fun z => z.elim hLi9.2.2.1.1 hLi9.2.2.1.2))) hS1 (Or.inl rfl) hLi9.2.2.2.2.2.2.2.1 dL_again_10 (fun H2 locs2 hW2 hS2 hk2 hz2 => ?_)
  refine lv_goto (tgt := 24) C9.1 C9.2.1 dL_again_13 (by decide) ?_
  refine z_iconst C9 dL_again_24 ?_
  exact zl_ret C9 (hAt1.kept (hk2 o (Ne.symm hLi9.2.2.1.1)) (hk2 a (Ne.symm hLi9.2.2.1.2))) hW2 hS2 hr9 hk9 (Nat.le_of_ble_eq_true rfl) (Nat.le_of_ble_eq_true rfl) dL_again_25 rfl
set_option maxHeartbeats 4000000 in
set_option maxRecDepth 100000 in
theorem c_L_degree (l : Launch) (D : va_G) (cJ : ClassId) (o a : Nat) (c : Nat → Nat) (ac : Int32) (re : Int32) (kn : Int32) (z : Int) (hz : 0 ≤ z ∧ z ≤ 5) (w9 : Nat) (n9 : Int64) (s9 : Value) : zL l yL_degree 3 86 0 0 D cJ o a w9 [.ref o, .int (iZ (z)), .ref w9] c [.int (ac), .int (re), .int (kn)] n9 s9 0 (c) [.int (ac), .int (re), .int (kn)] ((iZ (tp (c z.toNat)))).toInt64 s9 := by
  refine zL.intro (lo := 63) (nA := 3) zw_L_degree (by decide) rfl rfl (by decide +kernel) rfl (Nat.le_of_ble_eq_true rfl) ?_
  intro p e s m below meth c0 ls C9 hr9 hk9 ht9 hLi9 hS9 hl9
  have hl9 : lv_has ls 4 [(0, .ref o), (1, .int (iZ (z))), (2, .ref w9)] := hl9
  refine lv_aload_n C9.1 C9.2.1 dL_degree_0 rfl (lv_at hl9 2 rfl) ?_
  refine lv_aload_n C9.1 C9.2.1 dL_degree_1 rfl (lv_at hl9 0 rfl) ?_
  refine lv_iload_n C9.1 C9.2.1 dL_degree_2 rfl (lv_at hl9 1 rfl) ?_
  refine zg_call (as := [.int (iZ (z))]) C9 hLi9.1 hS9 (fun q h => Or.inr h) (c_X3_degree l D cJ o a c ac re kn z hz) ml_L_97 rfl (by decide) (by decide) hl9 (Nat.le_of_ble_eq_true rfl) rfl dL_degree_3 (fun v9 H1 locs1 hv9 hAt1 hS1 hk1 hz1 => ?_)
  subst hv9
  refine lv_i2l C9.1 C9.2.1 dL_degree_6 rfl ?_
  refine zw_putN C9 (hLi9.2.1.kept (hk1 w9 hLi9.2.1.lt (fun z => z.elim hLi9.2.2.1.1 hLi9.2.2.1.2))) hS1 (Or.inl rfl) hLi9.2.2.2.2.2.2.2.1 dL_degree_7 (fun H2 locs2 hW2 hS2 hk2 hz2 => ?_)
  refine lv_goto (tgt := 16) C9.1 C9.2.1 dL_degree_10 (by decide) ?_
  refine z_iconst C9 dL_degree_16 ?_
  exact zl_ret C9 (hAt1.kept (hk2 o (Ne.symm hLi9.2.2.1.1)) (hk2 a (Ne.symm hLi9.2.2.1.2))) hW2 hS2 hr9 hk9 (Nat.le_of_ble_eq_true rfl) (Nat.le_of_ble_eq_true rfl) dL_degree_17 rfl
set_option maxHeartbeats 4000000 in
set_option maxRecDepth 100000 in
theorem c_L_low (l : Launch) (D : va_G) (cJ : ClassId) (o a : Nat) (c : Nat → Nat) (ac : Int32) (re : Int32) (kn : Int32) (z : Int) (hz : 0 ≤ z ∧ z ≤ 5) (w9 : Nat) (n9 : Int64) (s9 : Value) : zL l yL_low 3 88 0 0 D cJ o a w9 [.ref o, .int (iZ (z)), .ref w9] c [.int (ac), .int (re), .int (kn)] n9 s9 0 (c) [.int (ac), .int (re), .int (kn)] ((iZ (bp (c z.toNat)))).toInt64 s9 := by
  refine zL.intro (lo := 65) (nA := 3) zw_L_low (by decide) rfl rfl (by decide +kernel) rfl (Nat.le_of_ble_eq_true rfl) ?_
  intro p e s m below meth c0 ls C9 hr9 hk9 ht9 hLi9 hS9 hl9
  have hl9 : lv_has ls 4 [(0, .ref o), (1, .int (iZ (z))), (2, .ref w9)] := hl9
  refine lv_aload_n C9.1 C9.2.1 dL_low_0 rfl (lv_at hl9 2 rfl) ?_
  refine lv_aload_n C9.1 C9.2.1 dL_low_1 rfl (lv_at hl9 0 rfl) ?_
  refine lv_iload_n C9.1 C9.2.1 dL_low_2 rfl (lv_at hl9 1 rfl) ?_
  refine zg_call (as := [.int (iZ (z))]) C9 hLi9.1 hS9 (fun q h => Or.inr h) (c_X3_low l D cJ o a c ac re kn z hz) ml_L_101 rfl (by decide) (by decide) hl9 (Nat.le_of_ble_eq_true rfl) rfl dL_low_3 (fun v9 H1 locs1 hv9 hAt1 hS1 hk1 hz1 => ?_)
  subst hv9
  refine lv_i2l C9.1 C9.2.1 dL_low_6 rfl ?_
  refine zw_putN C9 (hLi9.2.1.kept (hk1 w9 hLi9.2.1.lt (fun z => z.elim hLi9.2.2.1.1 hLi9.2.2.1.2))) hS1 (Or.inl rfl) hLi9.2.2.2.2.2.2.2.1 dL_low_7 (fun H2 locs2 hW2 hS2 hk2 hz2 => ?_)
  refine lv_goto (tgt := 16) C9.1 C9.2.1 dL_low_10 (by decide) ?_
  refine z_iconst C9 dL_low_16 ?_
  exact zl_ret C9 (hAt1.kept (hk2 o (Ne.symm hLi9.2.2.1.1)) (hk2 a (Ne.symm hLi9.2.2.1.2))) hW2 hS2 hr9 hk9 (Nat.le_of_ble_eq_true rfl) (Nat.le_of_ble_eq_true rfl) dL_low_17 rfl
set_option maxHeartbeats 4000000 in
set_option maxRecDepth 100000 in
theorem c_L_weight (l : Launch) (D : va_G) (cJ : ClassId) (o a : Nat) (c : Nat → Nat) (ac : Int32) (re : Int32) (kn : Int32) (z : Int) (hz : 0 ≤ z ∧ z ≤ 5) (w9 : Nat) (n9 : Int64) (s9 : Value) : zL l yL_weight 3 86 0 0 D cJ o a w9 [.ref o, .int (iZ (z)), .ref w9] c [.int (ac), .int (re), .int (kn)] n9 s9 0 (c) [.int (ac), .int (re), .int (kn)] ((iZ (bc (c z.toNat)))).toInt64 s9 := by
  refine zL.intro (lo := 63) (nA := 3) zw_L_weight (by decide) rfl rfl (by decide +kernel) rfl (Nat.le_of_ble_eq_true rfl) ?_
  intro p e s m below meth c0 ls C9 hr9 hk9 ht9 hLi9 hS9 hl9
  have hl9 : lv_has ls 4 [(0, .ref o), (1, .int (iZ (z))), (2, .ref w9)] := hl9
  refine lv_aload_n C9.1 C9.2.1 dL_weight_0 rfl (lv_at hl9 2 rfl) ?_
  refine lv_aload_n C9.1 C9.2.1 dL_weight_1 rfl (lv_at hl9 0 rfl) ?_
  refine lv_iload_n C9.1 C9.2.1 dL_weight_2 rfl (lv_at hl9 1 rfl) ?_
  refine zg_call (as := [.int (iZ (z))]) C9 hLi9.1 hS9 (fun q h => Or.inr h) (c_X3_weight l D cJ o a c ac re kn z hz) ml_L_104 rfl (by decide) (by decide) hl9 (Nat.le_of_ble_eq_true rfl) rfl dL_weight_3 (fun v9 H1 locs1 hv9 hAt1 hS1 hk1 hz1 => ?_)
  subst hv9
  refine lv_i2l C9.1 C9.2.1 dL_weight_6 rfl ?_
  refine zw_putN C9 (hLi9.2.1.kept (hk1 w9 hLi9.2.1.lt (fun z => z.elim hLi9.2.2.1.1 hLi9.2.2.1.2))) hS1 (Or.inl rfl) hLi9.2.2.2.2.2.2.2.1 dL_weight_7 (fun H2 locs2 hW2 hS2 hk2 hz2 => ?_)
  refine lv_goto (tgt := 16) C9.1 C9.2.1 dL_weight_10 (by decide) ?_
  refine z_iconst C9 dL_weight_16 ?_
  exact zl_ret C9 (hAt1.kept (hk2 o (Ne.symm hLi9.2.2.1.1)) (hk2 a (Ne.symm hLi9.2.2.1.2))) hW2 hS2 hr9 hk9 (Nat.le_of_ble_eq_true rfl) (Nat.le_of_ble_eq_true rfl) dL_weight_17 rfl
set_option maxHeartbeats 4000000 in
set_option maxRecDepth 100000 in
theorem c_L_at (l : Launch) (D : va_G) (cJ : ClassId) (o a : Nat) (c : Nat → Nat) (ac : Int32) (re : Int32) (kn : Int32) (z : Int) (g : Int) (hz : 0 ≤ z ∧ z ≤ 5) (hg : 0 ≤ g ∧ g ≤ 99) (w9 : Nat) (n9 : Int64) (s9 : Value) : zL l yL_at 3 90 0 0 D cJ o a w9 [.ref o, .int (iZ (z)), .int (iZ (g)), .ref w9] c [.int (ac), .int (re), .int (kn)] n9 s9 0 (c) [.int (ac), .int (re), .int (kn)] ((iZ (zB (tb (c z.toNat) g)))).toInt64 s9 := by
  refine zL.intro (lo := 66) (nA := 4) zw_L_at (by decide) rfl rfl (by decide +kernel) rfl (Nat.le_of_ble_eq_true rfl) ?_
  intro p e s m below meth c0 ls C9 hr9 hk9 ht9 hLi9 hS9 hl9
  have hl9 : lv_has ls 5 [(0, .ref o), (1, .int (iZ (z))), (2, .int (iZ (g))), (3, .ref w9)] := hl9
  refine lv_aload_n C9.1 C9.2.1 dL_at_0 rfl (lv_at hl9 3 rfl) ?_
  refine lv_aload_n C9.1 C9.2.1 dL_at_1 rfl (lv_at hl9 0 rfl) ?_
  refine lv_iload_n C9.1 C9.2.1 dL_at_2 rfl (lv_at hl9 1 rfl) ?_
  refine lv_iload_n C9.1 C9.2.1 dL_at_3 rfl (lv_at hl9 2 rfl) ?_
  refine zg_call (as := [.int (iZ (z)), .int (iZ (g))]) C9 hLi9.1 hS9 (fun q h => Or.inr h) (c_X3_at l D cJ o a c ac re kn z g hz hg) ml_L_107 rfl (by decide) (by decide) hl9 (Nat.le_of_ble_eq_true rfl) rfl dL_at_4 (fun v9 H1 locs1 hv9 hAt1 hS1 hk1 hz1 => ?_)
  subst hv9
  refine zl_bool C9 dL_at_7 dL_at_10 dL_at_11 dL_at_14 ?_
  refine zw_putN C9 (hLi9.2.1.kept (hk1 w9 hLi9.2.1.lt (fun z => z.elim hLi9.2.2.1.1 hLi9.2.2.1.2))) hS1 (Or.inl rfl) hLi9.2.2.2.2.2.2.2.1 dL_at_15 (fun H2 locs2 hW2 hS2 hk2 hz2 => ?_)
  refine lv_goto (tgt := 29) C9.1 C9.2.1 dL_at_18 (by decide) ?_
  refine z_iconst C9 dL_at_29 ?_
  exact zl_ret C9 (hAt1.kept (hk2 o (Ne.symm hLi9.2.2.1.1)) (hk2 a (Ne.symm hLi9.2.2.1.2))) hW2 hS2 hr9 hk9 (Nat.le_of_ble_eq_true rfl) (Nat.le_of_ble_eq_true rfl) dL_at_30 rfl
set_option maxHeartbeats 4000000 in
set_option maxRecDepth 100000 in
theorem c_L_digits (l : Launch) (D : va_G) (cJ : ClassId) (o a : Nat) (c : Nat → Nat) (ac : Int32) (re : Int32) (kn : Int32) (z : Int) (hz : 0 ≤ z ∧ z ≤ 5) (w9 : Nat) (n9 : Int64) (s9 : Value) : zL l yL_digits 3 86 0 0 D cJ o a w9 [.ref o, .int (iZ (z)), .ref w9] c [.int (ac), .int (re), .int (kn)] n9 s9 0 (c) [.int (ac), .int (re), .int (kn)] ((iZ (((c z.toNat : Nat) : Int)))).toInt64 s9 := by
  refine zL.intro (lo := 63) (nA := 3) zw_L_digits (by decide) rfl rfl (by decide +kernel) rfl (Nat.le_of_ble_eq_true rfl) ?_
  intro p e s m below meth c0 ls C9 hr9 hk9 ht9 hLi9 hS9 hl9
  have hl9 : lv_has ls 4 [(0, .ref o), (1, .int (iZ (z))), (2, .ref w9)] := hl9
  refine lv_aload_n C9.1 C9.2.1 dL_digits_0 rfl (lv_at hl9 2 rfl) ?_
  refine lv_aload_n C9.1 C9.2.1 dL_digits_1 rfl (lv_at hl9 0 rfl) ?_
  refine lv_iload_n C9.1 C9.2.1 dL_digits_2 rfl (lv_at hl9 1 rfl) ?_
  refine zg_call (as := [.int (iZ (z))]) C9 hLi9.1 hS9 (fun q h => Or.inr h) (c_X3_digits l D cJ o a c ac re kn z hz) ml_L_110 rfl (by decide) (by decide) hl9 (Nat.le_of_ble_eq_true rfl) rfl dL_digits_3 (fun v9 H1 locs1 hv9 hAt1 hS1 hk1 hz1 => ?_)
  subst hv9
  refine lv_i2l C9.1 C9.2.1 dL_digits_6 rfl ?_
  refine zw_putN C9 (hLi9.2.1.kept (hk1 w9 hLi9.2.1.lt (fun z => z.elim hLi9.2.2.1.1 hLi9.2.2.1.2))) hS1 (Or.inl rfl) hLi9.2.2.2.2.2.2.2.1 dL_digits_7 (fun H2 locs2 hW2 hS2 hk2 hz2 => ?_)
  refine lv_goto (tgt := 16) C9.1 C9.2.1 dL_digits_10 (by decide) ?_
  refine z_iconst C9 dL_digits_16 ?_
  exact zl_ret C9 (hAt1.kept (hk2 o (Ne.symm hLi9.2.2.1.1)) (hk2 a (Ne.symm hLi9.2.2.1.2))) hW2 hS2 hr9 hk9 (Nat.le_of_ble_eq_true rfl) (Nat.le_of_ble_eq_true rfl) dL_digits_17 rfl
set_option maxHeartbeats 4000000 in
set_option maxRecDepth 100000 in
theorem c_L_order (l : Launch) (D : va_G) (cJ : ClassId) (o a : Nat) (c : Nat → Nat) (ac : Int32) (re : Int32) (kn : Int32) (f : Int) (z : Int) (hf : 0 ≤ f ∧ f ≤ 5) (hz : 0 ≤ z ∧ z ≤ 5) (w9 : Nat) (n9 : Int64) (s9 : Value) : zL l yL_order 3 92 0 0 D cJ o a w9 [.ref o, .int (iZ (f)), .int (iZ (z)), .ref w9] c [.int (ac), .int (re), .int (kn)] n9 s9 0 (c) [.int (ac), .int (re), .int (kn)] ((iZ (od (c f.toNat) (c z.toNat)))).toInt64 s9 := by
  refine zL.intro (lo := 68) (nA := 4) zw_L_order (by decide) rfl rfl (by decide +kernel) rfl (Nat.le_of_ble_eq_true rfl) ?_
  intro p e s m below meth c0 ls C9 hr9 hk9 ht9 hLi9 hS9 hl9
  have hl9 : lv_has ls 5 [(0, .ref o), (1, .int (iZ (f))), (2, .int (iZ (z))), (3, .ref w9)] := hl9
  refine lv_aload_n C9.1 C9.2.1 dL_order_0 rfl (lv_at hl9 3 rfl) ?_
  refine lv_aload_n C9.1 C9.2.1 dL_order_1 rfl (lv_at hl9 0 rfl) ?_
  refine lv_iload_n C9.1 C9.2.1 dL_order_2 rfl (lv_at hl9 1 rfl) ?_
  refine lv_iload_n C9.1 C9.2.1 dL_order_3 rfl (lv_at hl9 2 rfl) ?_
  refine zg_call (as := [.int (iZ (f)), .int (iZ (z))]) C9 hLi9.1 hS9 (fun q h => Or.inr h) (c_X3_order l D cJ o a c ac re kn f z hf hz) ml_L_125 rfl (by decide) (by decide) hl9 (Nat.le_of_ble_eq_true rfl) rfl dL_order_4 (fun v9 H1 locs1 hv9 hAt1 hS1 hk1 hz1 => ?_)
  subst hv9
  refine lv_i2l C9.1 C9.2.1 dL_order_7 rfl ?_
  refine zw_putN C9 (hLi9.2.1.kept (hk1 w9 hLi9.2.1.lt (fun z => z.elim hLi9.2.2.1.1 hLi9.2.2.1.2))) hS1 (Or.inl rfl) hLi9.2.2.2.2.2.2.2.1 dL_order_8 (fun H2 locs2 hW2 hS2 hk2 hz2 => ?_)
  refine lv_goto (tgt := 18) C9.1 C9.2.1 dL_order_11 (by decide) ?_
  refine z_iconst C9 dL_order_18 ?_
  exact zl_ret C9 (hAt1.kept (hk2 o (Ne.symm hLi9.2.2.1.1)) (hk2 a (Ne.symm hLi9.2.2.1.2))) hW2 hS2 hr9 hk9 (Nat.le_of_ble_eq_true rfl) (Nat.le_of_ble_eq_true rfl) dL_order_19 rfl
set_option maxHeartbeats 4000000 in
set_option maxRecDepth 100000 in
theorem c_L_isSame (l : Launch) (D : va_G) (cJ : ClassId) (o a : Nat) (c : Nat → Nat) (ac : Int32) (re : Int32) (kn : Int32) (f : Int) (z : Int) (hf : 0 ≤ f ∧ f ≤ 5) (hz : 0 ≤ z ∧ z ≤ 5) (w9 : Nat) (n9 : Int64) (s9 : Value) : zL l yL_isSame 3 88 0 0 D cJ o a w9 [.ref o, .int (iZ (f)), .int (iZ (z)), .ref w9] c [.int (ac), .int (re), .int (kn)] n9 s9 0 (c) [.int (ac), .int (re), .int (kn)] ((iZ (zB (decide (c f.toNat = c z.toNat))))).toInt64 s9 := by
  refine zL.intro (lo := 64) (nA := 4) zw_L_isSame (by decide) rfl rfl (by decide +kernel) rfl (Nat.le_of_ble_eq_true rfl) ?_
  intro p e s m below meth c0 ls C9 hr9 hk9 ht9 hLi9 hS9 hl9
  have hl9 : lv_has ls 5 [(0, .ref o), (1, .int (iZ (f))), (2, .int (iZ (z))), (3, .ref w9)] := hl9
  refine lv_aload_n C9.1 C9.2.1 dL_isSame_0 rfl (lv_at hl9 3 rfl) ?_
  refine lv_aload_n C9.1 C9.2.1 dL_isSame_1 rfl (lv_at hl9 0 rfl) ?_
  refine lv_iload_n C9.1 C9.2.1 dL_isSame_2 rfl (lv_at hl9 1 rfl) ?_
  refine lv_iload_n C9.1 C9.2.1 dL_isSame_3 rfl (lv_at hl9 2 rfl) ?_
  refine zg_call (as := [.int (iZ (f)), .int (iZ (z))]) C9 hLi9.1 hS9 (fun q h => Or.inr h) (c_X3_isSame l D cJ o a c ac re kn f z hf hz) ml_L_128 rfl (by decide) (by decide) hl9 (Nat.le_of_ble_eq_true rfl) rfl dL_isSame_4 (fun v9 H1 locs1 hv9 hAt1 hS1 hk1 hz1 => ?_)
  subst hv9
  refine zl_bool C9 dL_isSame_7 dL_isSame_10 dL_isSame_11 dL_isSame_14 ?_
  refine zw_putN C9 (hLi9.2.1.kept (hk1 w9 hLi9.2.1.lt (fun z => z.elim hLi9.2.2.1.1 hLi9.2.2.1.2))) hS1 (Or.inl rfl) hLi9.2.2.2.2.2.2.2.1 dL_isSame_15 (fun H2 locs2 hW2 hS2 hk2 hz2 => ?_)
  refine lv_goto (tgt := 25) C9.1 C9.2.1 dL_isSame_18 (by decide) ?_
  refine z_iconst C9 dL_isSame_25 ?_
  exact zl_ret C9 (hAt1.kept (hk2 o (Ne.symm hLi9.2.2.1.1)) (hk2 a (Ne.symm hLi9.2.2.1.2))) hW2 hS2 hr9 hk9 (Nat.le_of_ble_eq_true rfl) (Nat.le_of_ble_eq_true rfl) dL_isSame_26 rfl
set_option maxHeartbeats 4000000 in
set_option maxRecDepth 100000 in
theorem c_L_value (l : Launch) (D : va_G) (cJ : ClassId) (o a : Nat) (c : Nat → Nat) (ac : Int32) (re : Int32) (kn : Int32) (z : Int) (b : Bool) (hz : 0 ≤ z ∧ z ≤ 5) (w9 : Nat) (n9 : Int64) (s9 : Value) : zL l yL_value 3 90 0 0 D cJ o a w9 [.ref o, .int (iZ (z)), .int (iZ (zB (b))), .ref w9] c [.int (ac), .int (re), .int (kn)] n9 s9 0 (c) [.int (ac), .int (re), .int (kn)] ((iZ (if b = true then bc (c z.toNat) % 2 else ((c z.toNat &&& 1 : Nat) : Int)))).toInt64 s9 := by
  refine zL.intro (lo := 66) (nA := 4) zw_L_value (by decide) rfl rfl (by decide +kernel) rfl (Nat.le_of_ble_eq_true rfl) ?_
  intro p e s m below meth c0 ls C9 hr9 hk9 ht9 hLi9 hS9 hl9
  have hl9 : lv_has ls 5 [(0, .ref o), (1, .int (iZ (z))), (2, .int (iZ (zB (b)))), (3, .ref w9)] := hl9
  refine lv_aload_n C9.1 C9.2.1 dL_value_0 rfl (lv_at hl9 3 rfl) ?_
  refine lv_aload_n C9.1 C9.2.1 dL_value_1 rfl (lv_at hl9 0 rfl) ?_
  refine lv_iload_n C9.1 C9.2.1 dL_value_2 rfl (lv_at hl9 1 rfl) ?_
  refine lv_iload_n C9.1 C9.2.1 dL_value_3 rfl (lv_at hl9 2 rfl) ?_
  refine zg_call (as := [.int (iZ (z)), .int (iZ (zB (b)))]) C9 hLi9.1 hS9 (fun q h => Or.inr h) (c_X3_value l D cJ o a c ac re kn z b hz) ml_L_131 rfl (by decide) (by decide) hl9 (Nat.le_of_ble_eq_true rfl) rfl dL_value_4 (fun v9 H1 locs1 hv9 hAt1 hS1 hk1 hz1 => ?_)
  subst hv9
  refine lv_i2l C9.1 C9.2.1 dL_value_7 rfl ?_
  refine zw_putN C9 (hLi9.2.1.kept (hk1 w9 hLi9.2.1.lt (fun z => z.elim hLi9.2.2.1.1 hLi9.2.2.1.2))) hS1 (Or.inl rfl) hLi9.2.2.2.2.2.2.2.1 dL_value_8 (fun H2 locs2 hW2 hS2 hk2 hz2 => ?_)
  refine lv_goto (tgt := 18) C9.1 C9.2.1 dL_value_11 (by decide) ?_
  refine z_iconst C9 dL_value_18 ?_
  exact zl_ret C9 (hAt1.kept (hk2 o (Ne.symm hLi9.2.2.1.1)) (hk2 a (Ne.symm hLi9.2.2.1.2))) hW2 hS2 hr9 hk9 (Nat.le_of_ble_eq_true rfl) (Nat.le_of_ble_eq_true rfl) dL_value_19 rfl
set_option maxHeartbeats 4000000 in
set_option maxRecDepth 100000 in
theorem c_L_divides (l : Launch) (D : va_G) (cJ : ClassId) (o a : Nat) (c : Nat → Nat) (ac : Int32) (re : Int32) (kn : Int32) (f : Int) (z : Int) (hf : 0 ≤ f ∧ f ≤ 5) (hz : 0 ≤ z ∧ z ≤ 5) (w9 : Nat) (n9 : Int64) (s9 : Value) : zL l yL_divides 5 144 0 0 D cJ o a w9 [.ref o, .int (iZ (f)), .int (iZ (z)), .ref w9] c [.int (ac), .int (re), .int (kn)] n9 s9 0 (c) [.int (ac), .int (re), .int (kn)] ((iZ (zB (decide (rm (c z.toNat) (c f.toNat) = 0))))).toInt64 s9 := by
  refine zL.intro (lo := 120) (nA := 4) zw_L_divides (by decide) rfl rfl (by decide +kernel) rfl (Nat.le_of_ble_eq_true rfl) ?_
  intro p e s m below meth c0 ls C9 hr9 hk9 ht9 hLi9 hS9 hl9
  have hl9 : lv_has ls 5 [(0, .ref o), (1, .int (iZ (f))), (2, .int (iZ (z))), (3, .ref w9)] := hl9
  refine lv_aload_n C9.1 C9.2.1 dL_divides_0 rfl (lv_at hl9 3 rfl) ?_
  refine lv_aload_n C9.1 C9.2.1 dL_divides_1 rfl (lv_at hl9 0 rfl) ?_
  refine lv_iload_n C9.1 C9.2.1 dL_divides_2 rfl (lv_at hl9 1 rfl) ?_
  refine lv_iload_n C9.1 C9.2.1 dL_divides_3 rfl (lv_at hl9 2 rfl) ?_
  refine zg_call (as := [.int (iZ (f)), .int (iZ (z))]) C9 hLi9.1 hS9 (fun q h => Or.inr h) (c_X3_divides l D cJ o a c ac re kn f z hf hz) ml_L_135 rfl (by decide) (by decide) hl9 (Nat.le_of_ble_eq_true rfl) rfl dL_divides_4 (fun v9 H1 locs1 hv9 hAt1 hS1 hk1 hz1 => ?_)
  subst hv9
  refine zl_bool C9 dL_divides_7 dL_divides_10 dL_divides_11 dL_divides_14 ?_
  refine zw_putN C9 (hLi9.2.1.kept (hk1 w9 hLi9.2.1.lt (fun z => z.elim hLi9.2.2.1.1 hLi9.2.2.1.2))) hS1 (Or.inl rfl) hLi9.2.2.2.2.2.2.2.1 dL_divides_15 (fun H2 locs2 hW2 hS2 hk2 hz2 => ?_)
  refine lv_goto (tgt := 25) C9.1 C9.2.1 dL_divides_18 (by decide) ?_
  refine z_iconst C9 dL_divides_25 ?_
  exact zl_ret C9 (hAt1.kept (hk2 o (Ne.symm hLi9.2.2.1.1)) (hk2 a (Ne.symm hLi9.2.2.1.2))) hW2 hS2 hr9 hk9 (Nat.le_of_ble_eq_true rfl) (Nat.le_of_ble_eq_true rfl) dL_divides_26 rfl
set_option maxHeartbeats 4000000 in
set_option maxRecDepth 100000 in
theorem c_L_isFree (l : Launch) (D : va_G) (cJ : ClassId) (o a : Nat) (c : Nat → Nat) (ac : Int32) (re : Int32) (kn : Int32) (z : Int) (hz : 0 ≤ z ∧ z ≤ 5) (w9 : Nat) (n9 : Int64) (s9 : Value) : zL l yL_isFree 5 163 0 0 D cJ o a w9 [.ref o, .int (iZ (z)), .ref w9] c [.int (ac), .int (re), .int (kn)] n9 s9 0 (c) [.int (ac), .int (re), .int (kn)] ((iZ (zB (decide (eu (c z.toNat) (dv (c z.toNat)) (c z.toNat) (dv (c z.toNat)) = 1))))).toInt64 s9 := by
  refine zL.intro (lo := 140) (nA := 3) zw_L_isFree (by decide) rfl rfl (by decide +kernel) rfl (Nat.le_of_ble_eq_true rfl) ?_
  intro p e s m below meth c0 ls C9 hr9 hk9 ht9 hLi9 hS9 hl9
  have hl9 : lv_has ls 4 [(0, .ref o), (1, .int (iZ (z))), (2, .ref w9)] := hl9
  refine lv_aload_n C9.1 C9.2.1 dL_isFree_0 rfl (lv_at hl9 2 rfl) ?_
  refine lv_aload_n C9.1 C9.2.1 dL_isFree_1 rfl (lv_at hl9 0 rfl) ?_
  refine lv_iload_n C9.1 C9.2.1 dL_isFree_2 rfl (lv_at hl9 1 rfl) ?_
  refine zg_call (as := [.int (iZ (z))]) C9 hLi9.1 hS9 (fun q h => Or.inr h) (c_X3_isFree l D cJ o a c ac re kn z hz) ml_L_138 rfl (by decide) (by decide) hl9 (Nat.le_of_ble_eq_true rfl) rfl dL_isFree_3 (fun v9 H1 locs1 hv9 hAt1 hS1 hk1 hz1 => ?_)
  subst hv9
  refine zl_bool C9 dL_isFree_6 dL_isFree_9 dL_isFree_10 dL_isFree_13 ?_
  refine zw_putN C9 (hLi9.2.1.kept (hk1 w9 hLi9.2.1.lt (fun z => z.elim hLi9.2.2.1.1 hLi9.2.2.1.2))) hS1 (Or.inl rfl) hLi9.2.2.2.2.2.2.2.1 dL_isFree_14 (fun H2 locs2 hW2 hS2 hk2 hz2 => ?_)
  refine lv_goto (tgt := 23) C9.1 C9.2.1 dL_isFree_17 (by decide) ?_
  refine z_iconst C9 dL_isFree_23 ?_
  exact zl_ret C9 (hAt1.kept (hk2 o (Ne.symm hLi9.2.2.1.1)) (hk2 a (Ne.symm hLi9.2.2.1.2))) hW2 hS2 hr9 hk9 (Nat.le_of_ble_eq_true rfl) (Nat.le_of_ble_eq_true rfl) dL_isFree_24 rfl
set_option maxHeartbeats 4000000 in
set_option maxRecDepth 100000 in
theorem c_L_irreducible (l : Launch) (D : va_G) (cJ : ClassId) (o a : Nat) (c : Nat → Nat) (ac : Int32) (re : Int32) (kn : Int32) (z : Int) (hz : 0 ≤ z ∧ z ≤ 5) (w9 : Nat) (n9 : Int64) (s9 : Value) : zL l yL_irreducible 6 170 0 0 D cJ o a w9 [.ref o, .int (iZ (z)), .ref w9] c [.int (ac), .int (re), .int (kn)] n9 s9 0 (c) [.int (ac), .int (qF re (wI (c z.toNat))), .int (kn)] ((iZ (qR (wI (c z.toNat))))).toInt64 s9 := by
  refine zL.intro (lo := 147) (nA := 3) zw_L_irreducible (by decide) rfl rfl (by decide +kernel) rfl (Nat.le_of_ble_eq_true rfl) ?_
  intro p e s m below meth c0 ls C9 hr9 hk9 ht9 hLi9 hS9 hl9
  have hl9 : lv_has ls 4 [(0, .ref o), (1, .int (iZ (z))), (2, .ref w9)] := hl9
  refine lv_aload_n C9.1 C9.2.1 dL_irreducible_0 rfl (lv_at hl9 2 rfl) ?_
  refine lv_aload_n C9.1 C9.2.1 dL_irreducible_1 rfl (lv_at hl9 0 rfl) ?_
  refine lv_iload_n C9.1 C9.2.1 dL_irreducible_2 rfl (lv_at hl9 1 rfl) ?_
  refine zg_call (as := [.int (iZ (z))]) C9 hLi9.1 hS9 (fun q h => Or.inr h) (c_X3_irreducible l D cJ o a c ac re kn z hz) ml_L_142 rfl (by decide) (by decide) hl9 (Nat.le_of_ble_eq_true rfl) rfl dL_irreducible_3 (fun v9 H1 locs1 hv9 hAt1 hS1 hk1 hz1 => ?_)
  subst hv9
  refine lv_i2l C9.1 C9.2.1 dL_irreducible_6 rfl ?_
  refine zw_putN C9 (hLi9.2.1.kept (hk1 w9 hLi9.2.1.lt (fun z => z.elim hLi9.2.2.1.1 hLi9.2.2.1.2))) hS1 (Or.inl rfl) hLi9.2.2.2.2.2.2.2.1 dL_irreducible_7 (fun H2 locs2 hW2 hS2 hk2 hz2 => ?_)
  refine lv_goto (tgt := 16) C9.1 C9.2.1 dL_irreducible_10 (by decide) ?_
  refine z_iconst C9 dL_irreducible_16 ?_
  exact zl_ret C9 (hAt1.kept (hk2 o (Ne.symm hLi9.2.2.1.1)) (hk2 a (Ne.symm hLi9.2.2.1.2))) hW2 hS2 hr9 hk9 (Nat.le_of_ble_eq_true rfl) (Nat.le_of_ble_eq_true rfl) dL_irreducible_17 rfl
set_option maxHeartbeats 4000000 in
set_option maxRecDepth 100000 in
theorem c_L_rank (l : Launch) (D : va_G) (cJ : ClassId) (o a : Nat) (c : Nat → Nat) (ac : Int32) (re : Int32) (kn : Int32) (z : Int) (hz : 0 ≤ z ∧ z ≤ 5) (w9 : Nat) (n9 : Int64) (s9 : Value) : zL l yL_rank 7 195 0 0 D cJ o a w9 [.ref o, .int (iZ (z)), .ref w9] c [.int (ac), .int (re), .int (kn)] n9 s9 0 (c) [.int (ac), .int (qF re (wK (c z.toNat))), .int (kn)] ((iZ (qR (wK (c z.toNat))))).toInt64 s9 := by
  refine zL.intro (lo := 172) (nA := 3) zw_L_rank (by decide) rfl rfl (by decide +kernel) rfl (Nat.le_of_ble_eq_true rfl) ?_
  intro p e s m below meth c0 ls C9 hr9 hk9 ht9 hLi9 hS9 hl9
  have hl9 : lv_has ls 4 [(0, .ref o), (1, .int (iZ (z))), (2, .ref w9)] := hl9
  refine lv_aload_n C9.1 C9.2.1 dL_rank_0 rfl (lv_at hl9 2 rfl) ?_
  refine lv_aload_n C9.1 C9.2.1 dL_rank_1 rfl (lv_at hl9 0 rfl) ?_
  refine lv_iload_n C9.1 C9.2.1 dL_rank_2 rfl (lv_at hl9 1 rfl) ?_
  refine zg_call (as := [.int (iZ (z))]) C9 hLi9.1 hS9 (fun q h => Or.inr h) (c_X3_rank l D cJ o a c ac re kn z hz) ml_L_145 rfl (by decide) (by decide) hl9 (Nat.le_of_ble_eq_true rfl) rfl dL_rank_3 (fun v9 H1 locs1 hv9 hAt1 hS1 hk1 hz1 => ?_)
  subst hv9
  refine lv_i2l C9.1 C9.2.1 dL_rank_6 rfl ?_
  refine zw_putN C9 (hLi9.2.1.kept (hk1 w9 hLi9.2.1.lt (fun z => z.elim hLi9.2.2.1.1 hLi9.2.2.1.2))) hS1 (Or.inl rfl) hLi9.2.2.2.2.2.2.2.1 dL_rank_7 (fun H2 locs2 hW2 hS2 hk2 hz2 => ?_)
  refine lv_goto (tgt := 16) C9.1 C9.2.1 dL_rank_10 (by decide) ?_
  refine z_iconst C9 dL_rank_16 ?_
  exact zl_ret C9 (hAt1.kept (hk2 o (Ne.symm hLi9.2.2.1.1)) (hk2 a (Ne.symm hLi9.2.2.1.2))) hW2 hS2 hr9 hk9 (Nat.le_of_ble_eq_true rfl) (Nat.le_of_ble_eq_true rfl) dL_rank_17 rfl
set_option maxHeartbeats 4000000 in
set_option maxRecDepth 100000 in
theorem c_L_period (l : Launch) (D : va_G) (cJ : ClassId) (o a : Nat) (c : Nat → Nat) (ac : Int32) (re : Int32) (kn : Int32) (z : Int) (hz : 0 ≤ z ∧ z ≤ 5) (w9 : Nat) (n9 : Int64) (s9 : Value) : zL l yL_period 5 145 0 0 D cJ o a w9 [.ref o, .int (iZ (z)), .ref w9] c [.int (ac), .int (re), .int (kn)] n9 s9 0 (c) [.int (ac), .int (qF re (wD (c z.toNat))), .int (kn)] ((iZ (qR (wD (c z.toNat))))).toInt64 s9 := by
  refine zL.intro (lo := 122) (nA := 3) zw_L_period (by decide) rfl rfl (by decide +kernel) rfl (Nat.le_of_ble_eq_true rfl) ?_
  intro p e s m below meth c0 ls C9 hr9 hk9 ht9 hLi9 hS9 hl9
  have hl9 : lv_has ls 4 [(0, .ref o), (1, .int (iZ (z))), (2, .ref w9)] := hl9
  refine lv_aload_n C9.1 C9.2.1 dL_period_0 rfl (lv_at hl9 2 rfl) ?_
  refine lv_aload_n C9.1 C9.2.1 dL_period_1 rfl (lv_at hl9 0 rfl) ?_
  refine lv_iload_n C9.1 C9.2.1 dL_period_2 rfl (lv_at hl9 1 rfl) ?_
  refine zg_call (as := [.int (iZ (z))]) C9 hLi9.1 hS9 (fun q h => Or.inr h) (c_X3_period l D cJ o a c ac re kn z hz) ml_L_151 rfl (by decide) (by decide) hl9 (Nat.le_of_ble_eq_true rfl) rfl dL_period_3 (fun v9 H1 locs1 hv9 hAt1 hS1 hk1 hz1 => ?_)
  subst hv9
  refine lv_i2l C9.1 C9.2.1 dL_period_6 rfl ?_
  refine zw_putN C9 (hLi9.2.1.kept (hk1 w9 hLi9.2.1.lt (fun z => z.elim hLi9.2.2.1.1 hLi9.2.2.1.2))) hS1 (Or.inl rfl) hLi9.2.2.2.2.2.2.2.1 dL_period_7 (fun H2 locs2 hW2 hS2 hk2 hz2 => ?_)
  refine lv_goto (tgt := 16) C9.1 C9.2.1 dL_period_10 (by decide) ?_
  refine z_iconst C9 dL_period_16 ?_
  exact zl_ret C9 (hAt1.kept (hk2 o (Ne.symm hLi9.2.2.1.1)) (hk2 a (Ne.symm hLi9.2.2.1.2))) hW2 hS2 hr9 hk9 (Nat.le_of_ble_eq_true rfl) (Nat.le_of_ble_eq_true rfl) dL_period_17 rfl
set_option maxHeartbeats 4000000 in
set_option maxRecDepth 100000 in
theorem c_L_many (l : Launch) (D : va_G) (cJ : ClassId) (o a : Nat) (c : Nat → Nat) (ac : Int32) (re : Int32) (kn : Int32) (d : Int) (hd : 1 ≤ d ∧ d ≤ 8) (w9 : Nat) (n9 : Int64) (s9 : Value) : zL l yL_many 7 193 0 0 D cJ o a w9 [.ref o, .int (iZ (d)), .ref w9] c [.int (ac), .int (re), .int (kn)] n9 s9 0 (c) [.int (ac), .int (re), .int (kn)] ((iZ (cb (2 ^ d.toNat) (2 ^ (d.toNat + 1))))).toInt64 s9 := by
  refine zL.intro (lo := 170) (nA := 3) zw_L_many (by decide) rfl rfl (by decide +kernel) rfl (Nat.le_of_ble_eq_true rfl) ?_
  intro p e s m below meth c0 ls C9 hr9 hk9 ht9 hLi9 hS9 hl9
  have hl9 : lv_has ls 4 [(0, .ref o), (1, .int (iZ (d))), (2, .ref w9)] := hl9
  refine lv_aload_n C9.1 C9.2.1 dL_many_0 rfl (lv_at hl9 2 rfl) ?_
  refine lv_aload_n C9.1 C9.2.1 dL_many_1 rfl (lv_at hl9 0 rfl) ?_
  refine lv_iload_n C9.1 C9.2.1 dL_many_2 rfl (lv_at hl9 1 rfl) ?_
  refine zg_call (as := [.int (iZ (d))]) C9 hLi9.1 hS9 (fun q h => Or.inr h) (c_X3_many l D cJ o a c ac re kn d hd) ml_L_154 rfl (by decide) (by decide) hl9 (Nat.le_of_ble_eq_true rfl) rfl dL_many_3 (fun v9 H1 locs1 hv9 hAt1 hS1 hk1 hz1 => ?_)
  subst hv9
  refine lv_i2l C9.1 C9.2.1 dL_many_6 rfl ?_
  refine zw_putN C9 (hLi9.2.1.kept (hk1 w9 hLi9.2.1.lt (fun z => z.elim hLi9.2.2.1.1 hLi9.2.2.1.2))) hS1 (Or.inl rfl) hLi9.2.2.2.2.2.2.2.1 dL_many_7 (fun H2 locs2 hW2 hS2 hk2 hz2 => ?_)
  refine lv_goto (tgt := 16) C9.1 C9.2.1 dL_many_10 (by decide) ?_
  refine z_iconst C9 dL_many_16 ?_
  exact zl_ret C9 (hAt1.kept (hk2 o (Ne.symm hLi9.2.2.1.1)) (hk2 a (Ne.symm hLi9.2.2.1.2))) hW2 hS2 hr9 hk9 (Nat.le_of_ble_eq_true rfl) (Nat.le_of_ble_eq_true rfl) dL_many_17 rfl
set_option maxHeartbeats 4000000 in
set_option maxRecDepth 100000 in
theorem c_L_formula (l : Launch) (D : va_G) (cJ : ClassId) (o a : Nat) (c : Nat → Nat) (ac : Int32) (re : Int32) (kn : Int32) (d : Int) (hd : 1 ≤ d ∧ d ≤ 8) (w9 : Nat) (n9 : Int64) (s9 : Value) : zL l yL_formula 3 86 0 0 D cJ o a w9 [.ref o, .int (iZ (d)), .ref w9] c [.int (ac), .int (re), .int (kn)] n9 s9 0 (c) [.int (ac), .int (re), .int (kn)] ((iZ (fo d))).toInt64 s9 := by
  refine zL.intro (lo := 63) (nA := 3) zw_L_formula (by decide) rfl rfl (by decide +kernel) rfl (Nat.le_of_ble_eq_true rfl) ?_
  intro p e s m below meth c0 ls C9 hr9 hk9 ht9 hLi9 hS9 hl9
  have hl9 : lv_has ls 4 [(0, .ref o), (1, .int (iZ (d))), (2, .ref w9)] := hl9
  refine lv_aload_n C9.1 C9.2.1 dL_formula_0 rfl (lv_at hl9 2 rfl) ?_
  refine lv_aload_n C9.1 C9.2.1 dL_formula_1 rfl (lv_at hl9 0 rfl) ?_
  refine lv_iload_n C9.1 C9.2.1 dL_formula_2 rfl (lv_at hl9 1 rfl) ?_
  refine zg_call (as := [.int (iZ (d))]) C9 hLi9.1 hS9 (fun q h => Or.inr h) (c_X3_formula l D cJ o a c ac re kn d hd) ml_L_157 rfl (by decide) (by decide) hl9 (Nat.le_of_ble_eq_true rfl) rfl dL_formula_3 (fun v9 H1 locs1 hv9 hAt1 hS1 hk1 hz1 => ?_)
  subst hv9
  refine lv_i2l C9.1 C9.2.1 dL_formula_6 rfl ?_
  refine zw_putN C9 (hLi9.2.1.kept (hk1 w9 hLi9.2.1.lt (fun z => z.elim hLi9.2.2.1.1 hLi9.2.2.1.2))) hS1 (Or.inl rfl) hLi9.2.2.2.2.2.2.2.1 dL_formula_7 (fun H2 locs2 hW2 hS2 hk2 hz2 => ?_)
  refine lv_goto (tgt := 16) C9.1 C9.2.1 dL_formula_10 (by decide) ?_
  refine z_iconst C9 dL_formula_16 ?_
  exact zl_ret C9 (hAt1.kept (hk2 o (Ne.symm hLi9.2.2.1.1)) (hk2 a (Ne.symm hLi9.2.2.1.2))) hW2 hS2 hr9 hk9 (Nat.le_of_ble_eq_true rfl) (Nat.le_of_ble_eq_true rfl) dL_formula_17 rfl
set_option maxHeartbeats 4000000 in
set_option maxRecDepth 100000 in
theorem c_L_find (l : Launch) (D : va_G) (cJ : ClassId) (o a : Nat) (c : Nat → Nat) (ac : Int32) (re : Int32) (kn : Int32) (z : Int) (b : Bool) (hz : 0 ≤ z ∧ z ≤ 5) (w9 : Nat) (n9 : Int64) (s9 : Value) : zL l yL_find 3 92 0 0 D cJ o a w9 [.ref o, .int (iZ (z)), .int (iZ (zB (b))), .ref w9] c [.int (ac), .int (re), .int (kn)] n9 s9 0 (c) [.int (ac), .int (re), .int (kn)] ((iZ (fdF c (c z.toNat) b z 6))).toInt64 s9 := by
  refine zL.intro (lo := 68) (nA := 4) zw_L_find (by decide) rfl rfl (by decide +kernel) rfl (Nat.le_of_ble_eq_true rfl) ?_
  intro p e s m below meth c0 ls C9 hr9 hk9 ht9 hLi9 hS9 hl9
  have hl9 : lv_has ls 5 [(0, .ref o), (1, .int (iZ (z))), (2, .int (iZ (zB (b)))), (3, .ref w9)] := hl9
  refine lv_aload_n C9.1 C9.2.1 dL_find_0 rfl (lv_at hl9 3 rfl) ?_
  refine lv_aload_n C9.1 C9.2.1 dL_find_1 rfl (lv_at hl9 0 rfl) ?_
  refine lv_iload_n C9.1 C9.2.1 dL_find_2 rfl (lv_at hl9 1 rfl) ?_
  refine lv_iload_n C9.1 C9.2.1 dL_find_3 rfl (lv_at hl9 2 rfl) ?_
  refine zg_call (as := [.int (iZ (z)), .int (iZ (zB (b)))]) C9 hLi9.1 hS9 (fun q h => Or.inr h) (c_X3_find l D cJ o a c ac re kn z b hz) ml_L_160 rfl (by decide) (by decide) hl9 (Nat.le_of_ble_eq_true rfl) rfl dL_find_4 (fun v9 H1 locs1 hv9 hAt1 hS1 hk1 hz1 => ?_)
  subst hv9
  refine lv_i2l C9.1 C9.2.1 dL_find_7 rfl ?_
  refine zw_putN C9 (hLi9.2.1.kept (hk1 w9 hLi9.2.1.lt (fun z => z.elim hLi9.2.2.1.1 hLi9.2.2.1.2))) hS1 (Or.inl rfl) hLi9.2.2.2.2.2.2.2.1 dL_find_8 (fun H2 locs2 hW2 hS2 hk2 hz2 => ?_)
  refine lv_goto (tgt := 18) C9.1 C9.2.1 dL_find_11 (by decide) ?_
  refine z_iconst C9 dL_find_18 ?_
  exact zl_ret C9 (hAt1.kept (hk2 o (Ne.symm hLi9.2.2.1.1)) (hk2 a (Ne.symm hLi9.2.2.1.2))) hW2 hS2 hr9 hk9 (Nat.le_of_ble_eq_true rfl) (Nat.le_of_ble_eq_true rfl) dL_find_19 rfl
set_option maxHeartbeats 4000000 in
set_option maxRecDepth 100000 in
theorem c_L_house (l : Launch) (D : va_G) (cJ : ClassId) (o a : Nat) (c : Nat → Nat) (ac : Int32) (re : Int32) (kn : Int32) (z : Int) (hz : 0 ≤ z ∧ z ≤ 4) (w9 : Nat) (n9 : Int64) (s9 : Value) : zL l yL_house 3 87 0 0 D cJ o a w9 [.ref o, .int (iZ (z)), .ref w9] c [.int (ac), .int (re), .int (kn)] n9 s9 0 (c) [.int (ac), .int (re), .int (kn)] ((hs3 c ac re kn z)).toInt64 s9 := by
  refine zL.intro (lo := 64) (nA := 3) zw_L_house (by decide) rfl rfl (by decide +kernel) rfl (Nat.le_of_ble_eq_true rfl) ?_
  intro p e s m below meth c0 ls C9 hr9 hk9 ht9 hLi9 hS9 hl9
  have hl9 : lv_has ls 4 [(0, .ref o), (1, .int (iZ (z))), (2, .ref w9)] := hl9
  refine lv_aload_n C9.1 C9.2.1 dL_house_0 rfl (lv_at hl9 2 rfl) ?_
  refine lv_aload_n C9.1 C9.2.1 dL_house_1 rfl (lv_at hl9 0 rfl) ?_
  refine lv_iload_n C9.1 C9.2.1 dL_house_2 rfl (lv_at hl9 1 rfl) ?_
  refine zg_call (as := [.int (iZ (z))]) C9 hLi9.1 hS9 (fun q h => Or.inr h) (c_X3_house l D cJ o a c ac re kn z hz) ml_L_163 rfl (by decide) (by decide) hl9 (Nat.le_of_ble_eq_true rfl) rfl dL_house_3 (fun v9 H1 locs1 hv9 hAt1 hS1 hk1 hz1 => ?_)
  subst hv9
  refine lv_i2l C9.1 C9.2.1 dL_house_6 rfl ?_
  refine zw_putN C9 (hLi9.2.1.kept (hk1 w9 hLi9.2.1.lt (fun z => z.elim hLi9.2.2.1.1 hLi9.2.2.1.2))) hS1 (Or.inl rfl) hLi9.2.2.2.2.2.2.2.1 dL_house_7 (fun H2 locs2 hW2 hS2 hk2 hz2 => ?_)
  refine lv_goto (tgt := 16) C9.1 C9.2.1 dL_house_10 (by decide) ?_
  refine z_iconst C9 dL_house_16 ?_
  exact zl_ret C9 (hAt1.kept (hk2 o (Ne.symm hLi9.2.2.1.1)) (hk2 a (Ne.symm hLi9.2.2.1.2))) hW2 hS2 hr9 hk9 (Nat.le_of_ble_eq_true rfl) (Nat.le_of_ble_eq_true rfl) dL_house_17 rfl
set_option maxHeartbeats 4000000 in
set_option maxRecDepth 100000 in
theorem c_L_put_badc (l : Launch) (hlq : l.stackTraces = false) (D : va_G) (cJ : ClassId) (o a : Nat) (c : Nat → Nat) (ac : Int32) (re : Int32) (kn : Int32) (z : Int) (g : Int) (r9z : -2147483648 ≤ z ∧ z ≤ 2147483647) (r9g : -2147483648 ≤ g ∧ g ≤ 2147483647) (hbad : ¬ ((0 ≤ z ∧ z ≤ 5))) (w9 : Nat) (n9 : Int64) (s9 : Value) : zL l yL_put 8 149 1 6 D cJ o a w9 [.ref o, .int (iZ (z)), .int (iZ (g)), .ref w9] c [.int (ac), .int (re), .int (kn)] n9 s9 1 c [.int (ac), .int (re), .int (kn)] n9 s9 := by
  refine zL.intro (lo := 125) (nA := 4) zw_L_put (by decide) rfl rfl (by decide +kernel) rfl (Nat.le_of_ble_eq_true rfl) ?_
  intro p e s m below meth c0 ls C9 hr9 hk9 ht9 hLi9 hS9 hl9
  have hl9 : lv_has ls 5 [(0, .ref o), (1, .int (iZ (z))), (2, .int (iZ (g))), (3, .ref w9)] := hl9
  refine lv_aload_n C9.1 C9.2.1 dL_put_0 rfl (lv_at hl9 3 rfl) ?_
  refine lv_aload_n C9.1 C9.2.1 dL_put_1 rfl (lv_at hl9 0 rfl) ?_
  refine lv_iload_n C9.1 C9.2.1 dL_put_2 rfl (lv_at hl9 1 rfl) ?_
  refine lv_iload_n C9.1 C9.2.1 dL_put_3 rfl (lv_at hl9 2 rfl) ?_
  refine zg_callX (as := [.int (iZ (z)), .int (iZ (g))]) C9 hLi9.1 (hLi9.2.2.2.1.narrow fun q h => Or.inr h) hS9 (fun q h => Or.inr h) (c_X3_put_badc l hlq D cJ o a c ac re kn z g r9z r9g hbad) ml_L_7 rfl (by decide) (by decide) hl9 (Nat.le_of_ble_eq_true rfl) rfl dL_put_4 (fun H1 locs1 ce1 q1 hAt1 hS1 hk1 hz1 hc1 hv1 hf1 => ?_)
  have hW1 := hLi9.2.1.kept (hk1 w9 hLi9.2.1.lt (fun z => z.elim hLi9.2.2.1.1 hLi9.2.2.1.2))
  refine zl_catch1 C9 (ht9.trans rfl) (by decide +kernel) (by decide) cl_L_19 hLi9.2.2.2.2.1 hc1 hv1 hf1 ?_
  refine lv_astore C9.1 C9.2.1 (x := q1) dL_put_14 hl9 (by decide) rfl (fun ls2 hl2 => ?_)
  refine z_iconst C9 dL_put_16 ?_
  exact zl_ret C9 hAt1 hW1 hS1 hr9 hk9 (Nat.le_of_ble_eq_true rfl) (Nat.le_of_ble_eq_true rfl) dL_put_17 rfl
set_option maxHeartbeats 4000000 in
set_option maxRecDepth 100000 in
theorem c_L_mono_badc (l : Launch) (hlq : l.stackTraces = false) (D : va_G) (cJ : ClassId) (o a : Nat) (c : Nat → Nat) (ac : Int32) (re : Int32) (kn : Int32) (z : Int) (g : Int) (r9z : -2147483648 ≤ z ∧ z ≤ 2147483647) (r9g : -2147483648 ≤ g ∧ g ≤ 2147483647) (hbad : ¬ ((0 ≤ z ∧ z ≤ 5))) (w9 : Nat) (n9 : Int64) (s9 : Value) : zL l yL_mono 8 149 1 6 D cJ o a w9 [.ref o, .int (iZ (z)), .int (iZ (g)), .ref w9] c [.int (ac), .int (re), .int (kn)] n9 s9 1 c [.int (ac), .int (re), .int (kn)] n9 s9 := by
  refine zL.intro (lo := 125) (nA := 4) zw_L_mono (by decide) rfl rfl (by decide +kernel) rfl (Nat.le_of_ble_eq_true rfl) ?_
  intro p e s m below meth c0 ls C9 hr9 hk9 ht9 hLi9 hS9 hl9
  have hl9 : lv_has ls 5 [(0, .ref o), (1, .int (iZ (z))), (2, .int (iZ (g))), (3, .ref w9)] := hl9
  refine lv_aload_n C9.1 C9.2.1 dL_mono_0 rfl (lv_at hl9 3 rfl) ?_
  refine lv_aload_n C9.1 C9.2.1 dL_mono_1 rfl (lv_at hl9 0 rfl) ?_
  refine lv_iload_n C9.1 C9.2.1 dL_mono_2 rfl (lv_at hl9 1 rfl) ?_
  refine lv_iload_n C9.1 C9.2.1 dL_mono_3 rfl (lv_at hl9 2 rfl) ?_
  refine zg_callX (as := [.int (iZ (z)), .int (iZ (g))]) C9 hLi9.1 (hLi9.2.2.2.1.narrow fun q h => Or.inr h) hS9 (fun q h => Or.inr h) (c_X3_mono_badc l hlq D cJ o a c ac re kn z g r9z r9g hbad) ml_L_21 rfl (by decide) (by decide) hl9 (Nat.le_of_ble_eq_true rfl) rfl dL_mono_4 (fun H1 locs1 ce1 q1 hAt1 hS1 hk1 hz1 hc1 hv1 hf1 => ?_)
  have hW1 := hLi9.2.1.kept (hk1 w9 hLi9.2.1.lt (fun z => z.elim hLi9.2.2.1.1 hLi9.2.2.1.2))
  refine zl_catch1 C9 (ht9.trans rfl) (by decide +kernel) (by decide) cl_L_19 hLi9.2.2.2.2.1 hc1 hv1 hf1 ?_
  refine lv_astore C9.1 C9.2.1 (x := q1) dL_mono_14 hl9 (by decide) rfl (fun ls2 hl2 => ?_)
  refine z_iconst C9 dL_mono_16 ?_
  exact zl_ret C9 hAt1 hW1 hS1 hr9 hk9 (Nat.le_of_ble_eq_true rfl) (Nat.le_of_ble_eq_true rfl) dL_mono_17 rfl
set_option maxHeartbeats 4000000 in
set_option maxRecDepth 100000 in
theorem c_L_mono_badr (l : Launch) (hlq : l.stackTraces = false) (D : va_G) (cJ : ClassId) (o a : Nat) (c : Nat → Nat) (ac : Int32) (re : Int32) (kn : Int32) (z : Int) (g : Int) (r9z : -2147483648 ≤ z ∧ z ≤ 2147483647) (r9g : -2147483648 ≤ g ∧ g ≤ 2147483647) (hz : 0 ≤ z ∧ z ≤ 5) (hbad : ¬ ((0 ≤ g ∧ g ≤ 32))) (w9 : Nat) (n9 : Int64) (s9 : Value) : zL l yL_mono 8 150 1 6 D cJ o a w9 [.ref o, .int (iZ (z)), .int (iZ (g)), .ref w9] c [.int (ac), .int (re), .int (kn)] n9 s9 2 c [.int (ac), .int (re), .int (kn)] n9 s9 := by
  refine zL.intro (lo := 126) (nA := 4) zw_L_mono (by decide) rfl rfl (by decide +kernel) rfl (Nat.le_of_ble_eq_true rfl) ?_
  intro p e s m below meth c0 ls C9 hr9 hk9 ht9 hLi9 hS9 hl9
  have hl9 : lv_has ls 5 [(0, .ref o), (1, .int (iZ (z))), (2, .int (iZ (g))), (3, .ref w9)] := hl9
  refine lv_aload_n C9.1 C9.2.1 dL_mono_0 rfl (lv_at hl9 3 rfl) ?_
  refine lv_aload_n C9.1 C9.2.1 dL_mono_1 rfl (lv_at hl9 0 rfl) ?_
  refine lv_iload_n C9.1 C9.2.1 dL_mono_2 rfl (lv_at hl9 1 rfl) ?_
  refine lv_iload_n C9.1 C9.2.1 dL_mono_3 rfl (lv_at hl9 2 rfl) ?_
  refine zg_callX (as := [.int (iZ (z)), .int (iZ (g))]) C9 hLi9.1 (hLi9.2.2.2.1.narrow fun q h => Or.inr h) hS9 (fun q h => Or.inr h) (c_X3_mono_badr l hlq D cJ o a c ac re kn z g r9z r9g hz hbad) ml_L_21 rfl (by decide) (by decide) hl9 (Nat.le_of_ble_eq_true rfl) rfl dL_mono_4 (fun H1 locs1 ce1 q1 hAt1 hS1 hk1 hz1 hc1 hv1 hf1 => ?_)
  have hW1 := hLi9.2.1.kept (hk1 w9 hLi9.2.1.lt (fun z => z.elim hLi9.2.2.1.1 hLi9.2.2.1.2))
  refine zl_catch2 C9 (ht9.trans rfl) (by decide) cl_L_19 hLi9.2.2.2.2.2.2.1 (by decide +kernel) (by decide) cl_L_24 hLi9.2.2.2.2.2.1 hc1 hv1 hf1 ?_
  refine lv_astore C9.1 C9.2.1 (x := q1) dL_mono_18 hl9 (by decide) rfl (fun ls2 hl2 => ?_)
  refine z_iconst C9 dL_mono_20 ?_
  exact zl_ret C9 hAt1 hW1 hS1 hr9 hk9 (Nat.le_of_ble_eq_true rfl) (Nat.le_of_ble_eq_true rfl) dL_mono_21 rfl
set_option maxHeartbeats 4000000 in
set_option maxRecDepth 100000 in
theorem c_L_digit_badc (l : Launch) (hlq : l.stackTraces = false) (D : va_G) (cJ : ClassId) (o a : Nat) (c : Nat → Nat) (ac : Int32) (re : Int32) (kn : Int32) (z : Int) (g : Int) (b : Bool) (r9z : -2147483648 ≤ z ∧ z ≤ 2147483647) (r9g : -2147483648 ≤ g ∧ g ≤ 2147483647) (hbad : ¬ ((0 ≤ z ∧ z ≤ 5))) (w9 : Nat) (n9 : Int64) (s9 : Value) : zL l yL_digit 9 174 1 6 D cJ o a w9 [.ref o, .int (iZ (z)), .int (iZ (g)), .int (iZ (zB (b))), .ref w9] c [.int (ac), .int (re), .int (kn)] n9 s9 1 c [.int (ac), .int (re), .int (kn)] n9 s9 := by
  refine zL.intro (lo := 149) (nA := 5) zw_L_digit (by decide) rfl rfl (by decide +kernel) rfl (Nat.le_of_ble_eq_true rfl) ?_
  intro p e s m below meth c0 ls C9 hr9 hk9 ht9 hLi9 hS9 hl9
  have hl9 : lv_has ls 6 [(0, .ref o), (1, .int (iZ (z))), (2, .int (iZ (g))), (3, .int (iZ (zB (b)))), (4, .ref w9)] := hl9
  refine lv_aload C9.1 C9.2.1 dL_digit_0 (lv_at hl9 4 rfl) ?_
  refine lv_aload_n C9.1 C9.2.1 dL_digit_2 rfl (lv_at hl9 0 rfl) ?_
  refine lv_iload_n C9.1 C9.2.1 dL_digit_3 rfl (lv_at hl9 1 rfl) ?_
  refine lv_iload_n C9.1 C9.2.1 dL_digit_4 rfl (lv_at hl9 2 rfl) ?_
  refine lv_iload_n C9.1 C9.2.1 dL_digit_5 rfl (lv_at hl9 3 rfl) ?_
  refine zg_callX (as := [.int (iZ (z)), .int (iZ (g)), .int (iZ (zB (b)))]) C9 hLi9.1 (hLi9.2.2.2.1.narrow fun q h => Or.inr h) hS9 (fun q h => Or.inr h) (c_X3_digit_badc l hlq D cJ o a c ac re kn z g b r9z r9g hbad) ml_L_26 rfl (by decide) (by decide) hl9 (Nat.le_of_ble_eq_true rfl) rfl dL_digit_6 (fun H1 locs1 ce1 q1 hAt1 hS1 hk1 hz1 hc1 hv1 hf1 => ?_)
  have hW1 := hLi9.2.1.kept (hk1 w9 hLi9.2.1.lt (fun z => z.elim hLi9.2.2.1.1 hLi9.2.2.1.2))
  refine zl_catch1 C9 (ht9.trans rfl) (by decide +kernel) (by decide) cl_L_19 hLi9.2.2.2.2.1 hc1 hv1 hf1 ?_
  refine lv_astore C9.1 C9.2.1 (x := q1) dL_digit_23 hl9 (by decide) rfl (fun ls2 hl2 => ?_)
  refine z_iconst C9 dL_digit_25 ?_
  exact zl_ret C9 hAt1 hW1 hS1 hr9 hk9 (Nat.le_of_ble_eq_true rfl) (Nat.le_of_ble_eq_true rfl) dL_digit_26 rfl
set_option maxHeartbeats 4000000 in
set_option maxRecDepth 100000 in
theorem c_L_digit_badr (l : Launch) (hlq : l.stackTraces = false) (D : va_G) (cJ : ClassId) (o a : Nat) (c : Nat → Nat) (ac : Int32) (re : Int32) (kn : Int32) (z : Int) (g : Int) (b : Bool) (r9z : -2147483648 ≤ z ∧ z ≤ 2147483647) (r9g : -2147483648 ≤ g ∧ g ≤ 2147483647) (hz : 0 ≤ z ∧ z ≤ 5) (hbad : ¬ ((0 ≤ g ∧ g ≤ 32))) (w9 : Nat) (n9 : Int64) (s9 : Value) : zL l yL_digit 8 154 1 6 D cJ o a w9 [.ref o, .int (iZ (z)), .int (iZ (g)), .int (iZ (zB (b))), .ref w9] c [.int (ac), .int (re), .int (kn)] n9 s9 2 c [.int (ac), .int (re), .int (kn)] n9 s9 := by
  refine zL.intro (lo := 129) (nA := 5) zw_L_digit (by decide) rfl rfl (by decide +kernel) rfl (Nat.le_of_ble_eq_true rfl) ?_
  intro p e s m below meth c0 ls C9 hr9 hk9 ht9 hLi9 hS9 hl9
  have hl9 : lv_has ls 6 [(0, .ref o), (1, .int (iZ (z))), (2, .int (iZ (g))), (3, .int (iZ (zB (b)))), (4, .ref w9)] := hl9
  refine lv_aload C9.1 C9.2.1 dL_digit_0 (lv_at hl9 4 rfl) ?_
  refine lv_aload_n C9.1 C9.2.1 dL_digit_2 rfl (lv_at hl9 0 rfl) ?_
  refine lv_iload_n C9.1 C9.2.1 dL_digit_3 rfl (lv_at hl9 1 rfl) ?_
  refine lv_iload_n C9.1 C9.2.1 dL_digit_4 rfl (lv_at hl9 2 rfl) ?_
  refine lv_iload_n C9.1 C9.2.1 dL_digit_5 rfl (lv_at hl9 3 rfl) ?_
  refine zg_callX (as := [.int (iZ (z)), .int (iZ (g)), .int (iZ (zB (b)))]) C9 hLi9.1 (hLi9.2.2.2.1.narrow fun q h => Or.inr h) hS9 (fun q h => Or.inr h) (c_X3_digit_badr l hlq D cJ o a c ac re kn z g b r9z r9g hz hbad) ml_L_26 rfl (by decide) (by decide) hl9 (Nat.le_of_ble_eq_true rfl) rfl dL_digit_6 (fun H1 locs1 ce1 q1 hAt1 hS1 hk1 hz1 hc1 hv1 hf1 => ?_)
  have hW1 := hLi9.2.1.kept (hk1 w9 hLi9.2.1.lt (fun z => z.elim hLi9.2.2.1.1 hLi9.2.2.1.2))
  refine zl_catch2 C9 (ht9.trans rfl) (by decide) cl_L_19 hLi9.2.2.2.2.2.2.1 (by decide +kernel) (by decide) cl_L_24 hLi9.2.2.2.2.2.1 hc1 hv1 hf1 ?_
  refine lv_astore C9.1 C9.2.1 (x := q1) dL_digit_27 hl9 (by decide) rfl (fun ls2 hl2 => ?_)
  refine z_iconst C9 dL_digit_29 ?_
  exact zl_ret C9 hAt1 hW1 hS1 hr9 hk9 (Nat.le_of_ble_eq_true rfl) (Nat.le_of_ble_eq_true rfl) dL_digit_30 rfl
set_option maxHeartbeats 4000000 in
set_option maxRecDepth 100000 in
theorem c_L_flip_badc (l : Launch) (hlq : l.stackTraces = false) (D : va_G) (cJ : ClassId) (o a : Nat) (c : Nat → Nat) (ac : Int32) (re : Int32) (kn : Int32) (z : Int) (g : Int) (r9z : -2147483648 ≤ z ∧ z ≤ 2147483647) (r9g : -2147483648 ≤ g ∧ g ≤ 2147483647) (hbad : ¬ ((0 ≤ z ∧ z ≤ 5))) (w9 : Nat) (n9 : Int64) (s9 : Value) : zL l yL_flip 9 172 1 6 D cJ o a w9 [.ref o, .int (iZ (z)), .int (iZ (g)), .ref w9] c [.int (ac), .int (re), .int (kn)] n9 s9 1 c [.int (ac), .int (re), .int (kn)] n9 s9 := by
  refine zL.intro (lo := 148) (nA := 4) zw_L_flip (by decide) rfl rfl (by decide +kernel) rfl (Nat.le_of_ble_eq_true rfl) ?_
  intro p e s m below meth c0 ls C9 hr9 hk9 ht9 hLi9 hS9 hl9
  have hl9 : lv_has ls 5 [(0, .ref o), (1, .int (iZ (z))), (2, .int (iZ (g))), (3, .ref w9)] := hl9
  refine lv_aload_n C9.1 C9.2.1 dL_flip_0 rfl (lv_at hl9 3 rfl) ?_
  refine lv_aload_n C9.1 C9.2.1 dL_flip_1 rfl (lv_at hl9 0 rfl) ?_
  refine lv_iload_n C9.1 C9.2.1 dL_flip_2 rfl (lv_at hl9 1 rfl) ?_
  refine lv_iload_n C9.1 C9.2.1 dL_flip_3 rfl (lv_at hl9 2 rfl) ?_
  refine zg_callX (as := [.int (iZ (z)), .int (iZ (g))]) C9 hLi9.1 (hLi9.2.2.2.1.narrow fun q h => Or.inr h) hS9 (fun q h => Or.inr h) (c_X3_flip_badc l hlq D cJ o a c ac re kn z g r9z r9g hbad) ml_L_30 rfl (by decide) (by decide) hl9 (Nat.le_of_ble_eq_true rfl) rfl dL_flip_4 (fun H1 locs1 ce1 q1 hAt1 hS1 hk1 hz1 hc1 hv1 hf1 => ?_)
  have hW1 := hLi9.2.1.kept (hk1 w9 hLi9.2.1.lt (fun z => z.elim hLi9.2.2.1.1 hLi9.2.2.1.2))
  refine zl_catch1 C9 (ht9.trans rfl) (by decide +kernel) (by decide) cl_L_19 hLi9.2.2.2.2.1 hc1 hv1 hf1 ?_
  refine lv_astore C9.1 C9.2.1 (x := q1) dL_flip_21 hl9 (by decide) rfl (fun ls2 hl2 => ?_)
  refine z_iconst C9 dL_flip_23 ?_
  exact zl_ret C9 hAt1 hW1 hS1 hr9 hk9 (Nat.le_of_ble_eq_true rfl) (Nat.le_of_ble_eq_true rfl) dL_flip_24 rfl
set_option maxHeartbeats 4000000 in
set_option maxRecDepth 100000 in
theorem c_L_flip_badr (l : Launch) (hlq : l.stackTraces = false) (D : va_G) (cJ : ClassId) (o a : Nat) (c : Nat → Nat) (ac : Int32) (re : Int32) (kn : Int32) (z : Int) (g : Int) (r9z : -2147483648 ≤ z ∧ z ≤ 2147483647) (r9g : -2147483648 ≤ g ∧ g ≤ 2147483647) (hz : 0 ≤ z ∧ z ≤ 5) (hbad : ¬ ((0 ≤ g ∧ g ≤ 32))) (w9 : Nat) (n9 : Int64) (s9 : Value) : zL l yL_flip 8 152 1 6 D cJ o a w9 [.ref o, .int (iZ (z)), .int (iZ (g)), .ref w9] c [.int (ac), .int (re), .int (kn)] n9 s9 2 c [.int (ac), .int (re), .int (kn)] n9 s9 := by
  refine zL.intro (lo := 128) (nA := 4) zw_L_flip (by decide) rfl rfl (by decide +kernel) rfl (Nat.le_of_ble_eq_true rfl) ?_
  intro p e s m below meth c0 ls C9 hr9 hk9 ht9 hLi9 hS9 hl9
  have hl9 : lv_has ls 5 [(0, .ref o), (1, .int (iZ (z))), (2, .int (iZ (g))), (3, .ref w9)] := hl9
  refine lv_aload_n C9.1 C9.2.1 dL_flip_0 rfl (lv_at hl9 3 rfl) ?_
  refine lv_aload_n C9.1 C9.2.1 dL_flip_1 rfl (lv_at hl9 0 rfl) ?_
  refine lv_iload_n C9.1 C9.2.1 dL_flip_2 rfl (lv_at hl9 1 rfl) ?_
  refine lv_iload_n C9.1 C9.2.1 dL_flip_3 rfl (lv_at hl9 2 rfl) ?_
  refine zg_callX (as := [.int (iZ (z)), .int (iZ (g))]) C9 hLi9.1 (hLi9.2.2.2.1.narrow fun q h => Or.inr h) hS9 (fun q h => Or.inr h) (c_X3_flip_badr l hlq D cJ o a c ac re kn z g r9z r9g hz hbad) ml_L_30 rfl (by decide) (by decide) hl9 (Nat.le_of_ble_eq_true rfl) rfl dL_flip_4 (fun H1 locs1 ce1 q1 hAt1 hS1 hk1 hz1 hc1 hv1 hf1 => ?_)
  have hW1 := hLi9.2.1.kept (hk1 w9 hLi9.2.1.lt (fun z => z.elim hLi9.2.2.1.1 hLi9.2.2.1.2))
  refine zl_catch2 C9 (ht9.trans rfl) (by decide) cl_L_19 hLi9.2.2.2.2.2.2.1 (by decide +kernel) (by decide) cl_L_24 hLi9.2.2.2.2.2.1 hc1 hv1 hf1 ?_
  refine lv_astore C9.1 C9.2.1 (x := q1) dL_flip_25 hl9 (by decide) rfl (fun ls2 hl2 => ?_)
  refine z_iconst C9 dL_flip_27 ?_
  exact zl_ret C9 hAt1 hW1 hS1 hr9 hk9 (Nat.le_of_ble_eq_true rfl) (Nat.le_of_ble_eq_true rfl) dL_flip_28 rfl
set_option maxHeartbeats 4000000 in
set_option maxRecDepth 100000 in
theorem c_L_copy_badc (l : Launch) (hlq : l.stackTraces = false) (D : va_G) (cJ : ClassId) (o a : Nat) (c : Nat → Nat) (ac : Int32) (re : Int32) (kn : Int32) (f : Int) (z : Int) (r9f : -2147483648 ≤ f ∧ f ≤ 2147483647) (r9z : -2147483648 ≤ z ∧ z ≤ 2147483647) (hbad : ¬ ((0 ≤ f ∧ f ≤ 5) ∧ (0 ≤ z ∧ z ≤ 5))) (w9 : Nat) (n9 : Int64) (s9 : Value) : zL l yL_copy 9 172 1 6 D cJ o a w9 [.ref o, .int (iZ (f)), .int (iZ (z)), .ref w9] c [.int (ac), .int (re), .int (kn)] n9 s9 1 c [.int (ac), .int (re), .int (kn)] n9 s9 := by
  refine zL.intro (lo := 148) (nA := 4) zw_L_copy (by decide) rfl rfl (by decide +kernel) rfl (Nat.le_of_ble_eq_true rfl) ?_
  intro p e s m below meth c0 ls C9 hr9 hk9 ht9 hLi9 hS9 hl9
  have hl9 : lv_has ls 5 [(0, .ref o), (1, .int (iZ (f))), (2, .int (iZ (z))), (3, .ref w9)] := hl9
  refine lv_aload_n C9.1 C9.2.1 dL_copy_0 rfl (lv_at hl9 3 rfl) ?_
  refine lv_aload_n C9.1 C9.2.1 dL_copy_1 rfl (lv_at hl9 0 rfl) ?_
  refine lv_iload_n C9.1 C9.2.1 dL_copy_2 rfl (lv_at hl9 1 rfl) ?_
  refine lv_iload_n C9.1 C9.2.1 dL_copy_3 rfl (lv_at hl9 2 rfl) ?_
  refine zg_callX (as := [.int (iZ (f)), .int (iZ (z))]) C9 hLi9.1 (hLi9.2.2.2.1.narrow fun q h => Or.inr h) hS9 (fun q h => Or.inr h) (c_X3_copy_badc l hlq D cJ o a c ac re kn f z r9f r9z hbad) ml_L_34 rfl (by decide) (by decide) hl9 (Nat.le_of_ble_eq_true rfl) rfl dL_copy_4 (fun H1 locs1 ce1 q1 hAt1 hS1 hk1 hz1 hc1 hv1 hf1 => ?_)
  have hW1 := hLi9.2.1.kept (hk1 w9 hLi9.2.1.lt (fun z => z.elim hLi9.2.2.1.1 hLi9.2.2.1.2))
  refine zl_catch1 C9 (ht9.trans rfl) (by decide +kernel) (by decide) cl_L_19 hLi9.2.2.2.2.1 hc1 hv1 hf1 ?_
  refine lv_astore C9.1 C9.2.1 (x := q1) dL_copy_14 hl9 (by decide) rfl (fun ls2 hl2 => ?_)
  refine z_iconst C9 dL_copy_16 ?_
  exact zl_ret C9 hAt1 hW1 hS1 hr9 hk9 (Nat.le_of_ble_eq_true rfl) (Nat.le_of_ble_eq_true rfl) dL_copy_17 rfl
set_option maxHeartbeats 4000000 in
set_option maxRecDepth 100000 in
theorem c_L_swap_badc (l : Launch) (hlq : l.stackTraces = false) (D : va_G) (cJ : ClassId) (o a : Nat) (c : Nat → Nat) (ac : Int32) (re : Int32) (kn : Int32) (f : Int) (z : Int) (r9f : -2147483648 ≤ f ∧ f ≤ 2147483647) (r9z : -2147483648 ≤ z ∧ z ≤ 2147483647) (hbad : ¬ ((0 ≤ f ∧ f ≤ 5) ∧ (0 ≤ z ∧ z ≤ 5))) (w9 : Nat) (n9 : Int64) (s9 : Value) : zL l yL_swap 9 174 1 6 D cJ o a w9 [.ref o, .int (iZ (f)), .int (iZ (z)), .ref w9] c [.int (ac), .int (re), .int (kn)] n9 s9 1 c [.int (ac), .int (re), .int (kn)] n9 s9 := by
  refine zL.intro (lo := 150) (nA := 4) zw_L_swap (by decide) rfl rfl (by decide +kernel) rfl (Nat.le_of_ble_eq_true rfl) ?_
  intro p e s m below meth c0 ls C9 hr9 hk9 ht9 hLi9 hS9 hl9
  have hl9 : lv_has ls 5 [(0, .ref o), (1, .int (iZ (f))), (2, .int (iZ (z))), (3, .ref w9)] := hl9
  refine lv_aload_n C9.1 C9.2.1 dL_swap_0 rfl (lv_at hl9 3 rfl) ?_
  refine lv_aload_n C9.1 C9.2.1 dL_swap_1 rfl (lv_at hl9 0 rfl) ?_
  refine lv_iload_n C9.1 C9.2.1 dL_swap_2 rfl (lv_at hl9 1 rfl) ?_
  refine lv_iload_n C9.1 C9.2.1 dL_swap_3 rfl (lv_at hl9 2 rfl) ?_
  refine zg_callX (as := [.int (iZ (f)), .int (iZ (z))]) C9 hLi9.1 (hLi9.2.2.2.1.narrow fun q h => Or.inr h) hS9 (fun q h => Or.inr h) (c_X3_swap_badc l hlq D cJ o a c ac re kn f z r9f r9z hbad) ml_L_37 rfl (by decide) (by decide) hl9 (Nat.le_of_ble_eq_true rfl) rfl dL_swap_4 (fun H1 locs1 ce1 q1 hAt1 hS1 hk1 hz1 hc1 hv1 hf1 => ?_)
  have hW1 := hLi9.2.1.kept (hk1 w9 hLi9.2.1.lt (fun z => z.elim hLi9.2.2.1.1 hLi9.2.2.1.2))
  refine zl_catch1 C9 (ht9.trans rfl) (by decide +kernel) (by decide) cl_L_19 hLi9.2.2.2.2.1 hc1 hv1 hf1 ?_
  refine lv_astore C9.1 C9.2.1 (x := q1) dL_swap_14 hl9 (by decide) rfl (fun ls2 hl2 => ?_)
  refine z_iconst C9 dL_swap_16 ?_
  exact zl_ret C9 hAt1 hW1 hS1 hr9 hk9 (Nat.le_of_ble_eq_true rfl) (Nat.le_of_ble_eq_true rfl) dL_swap_17 rfl
set_option maxHeartbeats 4000000 in
set_option maxRecDepth 100000 in
theorem c_L_end_badc (l : Launch) (hlq : l.stackTraces = false) (D : va_G) (cJ : ClassId) (o a : Nat) (c : Nat → Nat) (ac : Int32) (re : Int32) (kn : Int32) (f : Int) (g : Int) (b : Bool) (z : Int) (r9f : -2147483648 ≤ f ∧ f ≤ 2147483647) (r9g : -2147483648 ≤ g ∧ g ≤ 2147483647) (r9z : -2147483648 ≤ z ∧ z ≤ 2147483647) (hbad : ¬ ((0 ≤ f ∧ f ≤ 5) ∧ (0 ≤ g ∧ g ≤ 5) ∧ (0 ≤ z ∧ z ≤ 5))) (w9 : Nat) (n9 : Int64) (s9 : Value) : zL l yL_end 9 178 1 6 D cJ o a w9 [.ref o, .int (iZ (f)), .int (iZ (g)), .int (iZ (zB (b))), .int (iZ (z)), .ref w9] c [.int (ac), .int (re), .int (kn)] n9 s9 1 c [.int (ac), .int (re), .int (kn)] n9 s9 := by
  refine zL.intro (lo := 152) (nA := 6) zw_L_end (by decide) rfl rfl (by decide +kernel) rfl (Nat.le_of_ble_eq_true rfl) ?_
  intro p e s m below meth c0 ls C9 hr9 hk9 ht9 hLi9 hS9 hl9
  have hl9 : lv_has ls 7 [(0, .ref o), (1, .int (iZ (f))), (2, .int (iZ (g))), (3, .int (iZ (zB (b)))), (4, .int (iZ (z))), (5, .ref w9)] := hl9
  refine lv_aload C9.1 C9.2.1 dL_end_0 (lv_at hl9 5 rfl) ?_
  refine lv_aload_n C9.1 C9.2.1 dL_end_2 rfl (lv_at hl9 0 rfl) ?_
  refine lv_iload_n C9.1 C9.2.1 dL_end_3 rfl (lv_at hl9 1 rfl) ?_
  refine lv_iload_n C9.1 C9.2.1 dL_end_4 rfl (lv_at hl9 2 rfl) ?_
  refine lv_iload_n C9.1 C9.2.1 dL_end_5 rfl (lv_at hl9 3 rfl) ?_
  refine lv_iload C9.1 C9.2.1 dL_end_6 (lv_at hl9 4 rfl) ?_
  refine zg_callX (as := [.int (iZ (f)), .int (iZ (g)), .int (iZ (zB (b))), .int (iZ (z))]) C9 hLi9.1 (hLi9.2.2.2.1.narrow fun q h => Or.inr h) hS9 (fun q h => Or.inr h) (c_X3_end_badc l hlq D cJ o a c ac re kn f g b z r9f r9g r9z hbad) ml_L_40 rfl (by decide) (by decide) hl9 (Nat.le_of_ble_eq_true rfl) rfl dL_end_8 (fun H1 locs1 ce1 q1 hAt1 hS1 hk1 hz1 hc1 hv1 hf1 => ?_)
  have hW1 := hLi9.2.1.kept (hk1 w9 hLi9.2.1.lt (fun z => z.elim hLi9.2.2.1.1 hLi9.2.2.1.2))
  refine zl_catch1 C9 (ht9.trans rfl) (by decide +kernel) (by decide) cl_L_19 hLi9.2.2.2.2.1 hc1 hv1 hf1 ?_
  refine lv_astore C9.1 C9.2.1 (x := q1) dL_end_18 hl9 (by decide) rfl (fun ls2 hl2 => ?_)
  refine z_iconst C9 dL_end_20 ?_
  exact zl_ret C9 hAt1 hW1 hS1 hr9 hk9 (Nat.le_of_ble_eq_true rfl) (Nat.le_of_ble_eq_true rfl) dL_end_21 rfl
set_option maxHeartbeats 4000000 in
set_option maxRecDepth 100000 in
theorem c_L_join_badc (l : Launch) (hlq : l.stackTraces = false) (D : va_G) (cJ : ClassId) (o a : Nat) (c : Nat → Nat) (ac : Int32) (re : Int32) (kn : Int32) (f : Int) (g : Int) (h : Int) (z : Int) (r9f : -2147483648 ≤ f ∧ f ≤ 2147483647) (r9g : -2147483648 ≤ g ∧ g ≤ 2147483647) (r9h : -2147483648 ≤ h ∧ h ≤ 2147483647) (r9z : -2147483648 ≤ z ∧ z ≤ 2147483647) (hbad : ¬ ((0 ≤ f ∧ f ≤ 5) ∧ (0 ≤ g ∧ g ≤ 5) ∧ (0 ≤ z ∧ z ≤ 5))) (w9 : Nat) (n9 : Int64) (s9 : Value) : zL l yL_join 9 178 1 6 D cJ o a w9 [.ref o, .int (iZ (f)), .int (iZ (g)), .int (iZ (h)), .int (iZ (z)), .ref w9] c [.int (ac), .int (re), .int (kn)] n9 s9 1 c [.int (ac), .int (re), .int (kn)] n9 s9 := by
  refine zL.intro (lo := 152) (nA := 6) zw_L_join (by decide) rfl rfl (by decide +kernel) rfl (Nat.le_of_ble_eq_true rfl) ?_
  intro p e s m below meth c0 ls C9 hr9 hk9 ht9 hLi9 hS9 hl9
  have hl9 : lv_has ls 7 [(0, .ref o), (1, .int (iZ (f))), (2, .int (iZ (g))), (3, .int (iZ (h))), (4, .int (iZ (z))), (5, .ref w9)] := hl9
  refine lv_aload C9.1 C9.2.1 dL_join_0 (lv_at hl9 5 rfl) ?_
  refine lv_aload_n C9.1 C9.2.1 dL_join_2 rfl (lv_at hl9 0 rfl) ?_
  refine lv_iload_n C9.1 C9.2.1 dL_join_3 rfl (lv_at hl9 1 rfl) ?_
  refine lv_iload_n C9.1 C9.2.1 dL_join_4 rfl (lv_at hl9 2 rfl) ?_
  refine lv_iload_n C9.1 C9.2.1 dL_join_5 rfl (lv_at hl9 3 rfl) ?_
  refine lv_iload C9.1 C9.2.1 dL_join_6 (lv_at hl9 4 rfl) ?_
  refine zg_callX (as := [.int (iZ (f)), .int (iZ (g)), .int (iZ (h)), .int (iZ (z))]) C9 hLi9.1 (hLi9.2.2.2.1.narrow fun q h => Or.inr h) hS9 (fun q h => Or.inr h) (c_X3_join_badc l hlq D cJ o a c ac re kn f g h z r9f r9g r9h r9z hbad) ml_L_44 rfl (by decide) (by decide) hl9 (Nat.le_of_ble_eq_true rfl) rfl dL_join_8 (fun H1 locs1 ce1 q1 hAt1 hS1 hk1 hz1 hc1 hv1 hf1 => ?_)
  have hW1 := hLi9.2.1.kept (hk1 w9 hLi9.2.1.lt (fun z => z.elim hLi9.2.2.1.1 hLi9.2.2.1.2))
  refine zl_catch1 C9 (ht9.trans rfl) (by decide +kernel) (by decide) cl_L_19 hLi9.2.2.2.2.1 hc1 hv1 hf1 ?_
  refine lv_astore C9.1 C9.2.1 (x := q1) dL_join_18 hl9 (by decide) rfl (fun ls2 hl2 => ?_)
  refine z_iconst C9 dL_join_20 ?_
  exact zl_ret C9 hAt1 hW1 hS1 hr9 hk9 (Nat.le_of_ble_eq_true rfl) (Nat.le_of_ble_eq_true rfl) dL_join_21 rfl
set_option maxHeartbeats 4000000 in
set_option maxRecDepth 100000 in
theorem c_L_join_badr (l : Launch) (hlq : l.stackTraces = false) (D : va_G) (cJ : ClassId) (o a : Nat) (c : Nat → Nat) (ac : Int32) (re : Int32) (kn : Int32) (f : Int) (g : Int) (h : Int) (z : Int) (r9f : -2147483648 ≤ f ∧ f ≤ 2147483647) (r9g : -2147483648 ≤ g ∧ g ≤ 2147483647) (r9h : -2147483648 ≤ h ∧ h ≤ 2147483647) (r9z : -2147483648 ≤ z ∧ z ≤ 2147483647) (hf : 0 ≤ f ∧ f ≤ 5) (hg : 0 ≤ g ∧ g ≤ 5) (hz : 0 ≤ z ∧ z ≤ 5) (hbad : ¬ ((0 ≤ h ∧ h ≤ 3))) (w9 : Nat) (n9 : Int64) (s9 : Value) : zL l yL_join 8 158 1 6 D cJ o a w9 [.ref o, .int (iZ (f)), .int (iZ (g)), .int (iZ (h)), .int (iZ (z)), .ref w9] c [.int (ac), .int (re), .int (kn)] n9 s9 2 c [.int (ac), .int (re), .int (kn)] n9 s9 := by
  refine zL.intro (lo := 132) (nA := 6) zw_L_join (by decide) rfl rfl (by decide +kernel) rfl (Nat.le_of_ble_eq_true rfl) ?_
  intro p e s m below meth c0 ls C9 hr9 hk9 ht9 hLi9 hS9 hl9
  have hl9 : lv_has ls 7 [(0, .ref o), (1, .int (iZ (f))), (2, .int (iZ (g))), (3, .int (iZ (h))), (4, .int (iZ (z))), (5, .ref w9)] := hl9
  refine lv_aload C9.1 C9.2.1 dL_join_0 (lv_at hl9 5 rfl) ?_
  refine lv_aload_n C9.1 C9.2.1 dL_join_2 rfl (lv_at hl9 0 rfl) ?_
  refine lv_iload_n C9.1 C9.2.1 dL_join_3 rfl (lv_at hl9 1 rfl) ?_
  refine lv_iload_n C9.1 C9.2.1 dL_join_4 rfl (lv_at hl9 2 rfl) ?_
  refine lv_iload_n C9.1 C9.2.1 dL_join_5 rfl (lv_at hl9 3 rfl) ?_
  refine lv_iload C9.1 C9.2.1 dL_join_6 (lv_at hl9 4 rfl) ?_
  refine zg_callX (as := [.int (iZ (f)), .int (iZ (g)), .int (iZ (h)), .int (iZ (z))]) C9 hLi9.1 (hLi9.2.2.2.1.narrow fun q h => Or.inr h) hS9 (fun q h => Or.inr h) (c_X3_join_badr l hlq D cJ o a c ac re kn f g h z r9f r9g r9h r9z hf hg hz hbad) ml_L_44 rfl (by decide) (by decide) hl9 (Nat.le_of_ble_eq_true rfl) rfl dL_join_8 (fun H1 locs1 ce1 q1 hAt1 hS1 hk1 hz1 hc1 hv1 hf1 => ?_)
  have hW1 := hLi9.2.1.kept (hk1 w9 hLi9.2.1.lt (fun z => z.elim hLi9.2.2.1.1 hLi9.2.2.1.2))
  refine zl_catch2 C9 (ht9.trans rfl) (by decide) cl_L_19 hLi9.2.2.2.2.2.2.1 (by decide +kernel) (by decide) cl_L_24 hLi9.2.2.2.2.2.1 hc1 hv1 hf1 ?_
  refine lv_astore C9.1 C9.2.1 (x := q1) dL_join_22 hl9 (by decide) rfl (fun ls2 hl2 => ?_)
  refine z_iconst C9 dL_join_24 ?_
  exact zl_ret C9 hAt1 hW1 hS1 hr9 hk9 (Nat.le_of_ble_eq_true rfl) (Nat.le_of_ble_eq_true rfl) dL_join_25 rfl
set_option maxHeartbeats 4000000 in
set_option maxRecDepth 100000 in
theorem c_L_times_badc (l : Launch) (hlq : l.stackTraces = false) (D : va_G) (cJ : ClassId) (o a : Nat) (c : Nat → Nat) (ac : Int32) (re : Int32) (kn : Int32) (f : Int) (g : Int) (z : Int) (r9f : -2147483648 ≤ f ∧ f ≤ 2147483647) (r9g : -2147483648 ≤ g ∧ g ≤ 2147483647) (r9z : -2147483648 ≤ z ∧ z ≤ 2147483647) (hbad : ¬ ((0 ≤ f ∧ f ≤ 5) ∧ (0 ≤ g ∧ g ≤ 5) ∧ (0 ≤ z ∧ z ≤ 5))) (w9 : Nat) (n9 : Int64) (s9 : Value) : zL l yL_times 9 176 1 6 D cJ o a w9 [.ref o, .int (iZ (f)), .int (iZ (g)), .int (iZ (z)), .ref w9] c [.int (ac), .int (re), .int (kn)] n9 s9 1 c [.int (ac), .int (re), .int (kn)] n9 s9 := by
  refine zL.intro (lo := 151) (nA := 5) zw_L_times (by decide) rfl rfl (by decide +kernel) rfl (Nat.le_of_ble_eq_true rfl) ?_
  intro p e s m below meth c0 ls C9 hr9 hk9 ht9 hLi9 hS9 hl9
  have hl9 : lv_has ls 6 [(0, .ref o), (1, .int (iZ (f))), (2, .int (iZ (g))), (3, .int (iZ (z))), (4, .ref w9)] := hl9
  refine lv_aload C9.1 C9.2.1 dL_times_0 (lv_at hl9 4 rfl) ?_
  refine lv_aload_n C9.1 C9.2.1 dL_times_2 rfl (lv_at hl9 0 rfl) ?_
  refine lv_iload_n C9.1 C9.2.1 dL_times_3 rfl (lv_at hl9 1 rfl) ?_
  refine lv_iload_n C9.1 C9.2.1 dL_times_4 rfl (lv_at hl9 2 rfl) ?_
  refine lv_iload_n C9.1 C9.2.1 dL_times_5 rfl (lv_at hl9 3 rfl) ?_
  refine zg_callX (as := [.int (iZ (f)), .int (iZ (g)), .int (iZ (z))]) C9 hLi9.1 (hLi9.2.2.2.1.narrow fun q h => Or.inr h) hS9 (fun q h => Or.inr h) (c_X3_times_badc l hlq D cJ o a c ac re kn f g z r9f r9g r9z hbad) ml_L_48 rfl (by decide) (by decide) hl9 (Nat.le_of_ble_eq_true rfl) rfl dL_times_6 (fun H1 locs1 ce1 q1 hAt1 hS1 hk1 hz1 hc1 hv1 hf1 => ?_)
  have hW1 := hLi9.2.1.kept (hk1 w9 hLi9.2.1.lt (fun z => z.elim hLi9.2.2.1.1 hLi9.2.2.1.2))
  refine zl_catch1 C9 (ht9.trans rfl) (by decide +kernel) (by decide) cl_L_19 hLi9.2.2.2.2.1 hc1 hv1 hf1 ?_
  refine lv_astore C9.1 C9.2.1 (x := q1) dL_times_16 hl9 (by decide) rfl (fun ls2 hl2 => ?_)
  refine z_iconst C9 dL_times_18 ?_
  exact zl_ret C9 hAt1 hW1 hS1 hr9 hk9 (Nat.le_of_ble_eq_true rfl) (Nat.le_of_ble_eq_true rfl) dL_times_19 rfl
set_option maxHeartbeats 4000000 in
set_option maxRecDepth 100000 in
theorem c_L_square_badc (l : Launch) (hlq : l.stackTraces = false) (D : va_G) (cJ : ClassId) (o a : Nat) (c : Nat → Nat) (ac : Int32) (re : Int32) (kn : Int32) (f : Int) (z : Int) (r9f : -2147483648 ≤ f ∧ f ≤ 2147483647) (r9z : -2147483648 ≤ z ∧ z ≤ 2147483647) (hbad : ¬ ((0 ≤ f ∧ f ≤ 5) ∧ (0 ≤ z ∧ z ≤ 5))) (w9 : Nat) (n9 : Int64) (s9 : Value) : zL l yL_square 9 172 1 6 D cJ o a w9 [.ref o, .int (iZ (f)), .int (iZ (z)), .ref w9] c [.int (ac), .int (re), .int (kn)] n9 s9 1 c [.int (ac), .int (re), .int (kn)] n9 s9 := by
  refine zL.intro (lo := 148) (nA := 4) zw_L_square (by decide) rfl rfl (by decide +kernel) rfl (Nat.le_of_ble_eq_true rfl) ?_
  intro p e s m below meth c0 ls C9 hr9 hk9 ht9 hLi9 hS9 hl9
  have hl9 : lv_has ls 5 [(0, .ref o), (1, .int (iZ (f))), (2, .int (iZ (z))), (3, .ref w9)] := hl9
  refine lv_aload_n C9.1 C9.2.1 dL_square_0 rfl (lv_at hl9 3 rfl) ?_
  refine lv_aload_n C9.1 C9.2.1 dL_square_1 rfl (lv_at hl9 0 rfl) ?_
  refine lv_iload_n C9.1 C9.2.1 dL_square_2 rfl (lv_at hl9 1 rfl) ?_
  refine lv_iload_n C9.1 C9.2.1 dL_square_3 rfl (lv_at hl9 2 rfl) ?_
  refine zg_callX (as := [.int (iZ (f)), .int (iZ (z))]) C9 hLi9.1 (hLi9.2.2.2.1.narrow fun q h => Or.inr h) hS9 (fun q h => Or.inr h) (c_X3_square_badc l hlq D cJ o a c ac re kn f z r9f r9z hbad) ml_L_52 rfl (by decide) (by decide) hl9 (Nat.le_of_ble_eq_true rfl) rfl dL_square_4 (fun H1 locs1 ce1 q1 hAt1 hS1 hk1 hz1 hc1 hv1 hf1 => ?_)
  have hW1 := hLi9.2.1.kept (hk1 w9 hLi9.2.1.lt (fun z => z.elim hLi9.2.2.1.1 hLi9.2.2.1.2))
  refine zl_catch1 C9 (ht9.trans rfl) (by decide +kernel) (by decide) cl_L_19 hLi9.2.2.2.2.1 hc1 hv1 hf1 ?_
  refine lv_astore C9.1 C9.2.1 (x := q1) dL_square_14 hl9 (by decide) rfl (fun ls2 hl2 => ?_)
  refine z_iconst C9 dL_square_16 ?_
  exact zl_ret C9 hAt1 hW1 hS1 hr9 hk9 (Nat.le_of_ble_eq_true rfl) (Nat.le_of_ble_eq_true rfl) dL_square_17 rfl
set_option maxHeartbeats 4000000 in
set_option maxRecDepth 100000 in
theorem c_L_shift_badc (l : Launch) (hlq : l.stackTraces = false) (D : va_G) (cJ : ClassId) (o a : Nat) (c : Nat → Nat) (ac : Int32) (re : Int32) (kn : Int32) (f : Int) (g : Int) (z : Int) (r9f : -2147483648 ≤ f ∧ f ≤ 2147483647) (r9g : -2147483648 ≤ g ∧ g ≤ 2147483647) (r9z : -2147483648 ≤ z ∧ z ≤ 2147483647) (hbad : ¬ ((0 ≤ f ∧ f ≤ 5) ∧ (0 ≤ z ∧ z ≤ 5))) (w9 : Nat) (n9 : Int64) (s9 : Value) : zL l yL_shift 9 174 1 6 D cJ o a w9 [.ref o, .int (iZ (f)), .int (iZ (g)), .int (iZ (z)), .ref w9] c [.int (ac), .int (re), .int (kn)] n9 s9 1 c [.int (ac), .int (re), .int (kn)] n9 s9 := by
  refine zL.intro (lo := 149) (nA := 5) zw_L_shift (by decide) rfl rfl (by decide +kernel) rfl (Nat.le_of_ble_eq_true rfl) ?_
  intro p e s m below meth c0 ls C9 hr9 hk9 ht9 hLi9 hS9 hl9
  have hl9 : lv_has ls 6 [(0, .ref o), (1, .int (iZ (f))), (2, .int (iZ (g))), (3, .int (iZ (z))), (4, .ref w9)] := hl9
  refine lv_aload C9.1 C9.2.1 dL_shift_0 (lv_at hl9 4 rfl) ?_
  refine lv_aload_n C9.1 C9.2.1 dL_shift_2 rfl (lv_at hl9 0 rfl) ?_
  refine lv_iload_n C9.1 C9.2.1 dL_shift_3 rfl (lv_at hl9 1 rfl) ?_
  refine lv_iload_n C9.1 C9.2.1 dL_shift_4 rfl (lv_at hl9 2 rfl) ?_
  refine lv_iload_n C9.1 C9.2.1 dL_shift_5 rfl (lv_at hl9 3 rfl) ?_
  refine zg_callX (as := [.int (iZ (f)), .int (iZ (g)), .int (iZ (z))]) C9 hLi9.1 (hLi9.2.2.2.1.narrow fun q h => Or.inr h) hS9 (fun q h => Or.inr h) (c_X3_shift_badc l hlq D cJ o a c ac re kn f g z r9f r9g r9z hbad) ml_L_55 rfl (by decide) (by decide) hl9 (Nat.le_of_ble_eq_true rfl) rfl dL_shift_6 (fun H1 locs1 ce1 q1 hAt1 hS1 hk1 hz1 hc1 hv1 hf1 => ?_)
  have hW1 := hLi9.2.1.kept (hk1 w9 hLi9.2.1.lt (fun z => z.elim hLi9.2.2.1.1 hLi9.2.2.1.2))
  refine zl_catch1 C9 (ht9.trans rfl) (by decide +kernel) (by decide) cl_L_19 hLi9.2.2.2.2.1 hc1 hv1 hf1 ?_
  refine lv_astore C9.1 C9.2.1 (x := q1) dL_shift_16 hl9 (by decide) rfl (fun ls2 hl2 => ?_)
  refine z_iconst C9 dL_shift_18 ?_
  exact zl_ret C9 hAt1 hW1 hS1 hr9 hk9 (Nat.le_of_ble_eq_true rfl) (Nat.le_of_ble_eq_true rfl) dL_shift_19 rfl
set_option maxHeartbeats 4000000 in
set_option maxRecDepth 100000 in
theorem c_L_shift_badr (l : Launch) (hlq : l.stackTraces = false) (D : va_G) (cJ : ClassId) (o a : Nat) (c : Nat → Nat) (ac : Int32) (re : Int32) (kn : Int32) (f : Int) (g : Int) (z : Int) (r9f : -2147483648 ≤ f ∧ f ≤ 2147483647) (r9g : -2147483648 ≤ g ∧ g ≤ 2147483647) (r9z : -2147483648 ≤ z ∧ z ≤ 2147483647) (hf : 0 ≤ f ∧ f ≤ 5) (hz : 0 ≤ z ∧ z ≤ 5) (hbad : ¬ ((-32 ≤ g ∧ g ≤ 32))) (w9 : Nat) (n9 : Int64) (s9 : Value) : zL l yL_shift 8 154 1 6 D cJ o a w9 [.ref o, .int (iZ (f)), .int (iZ (g)), .int (iZ (z)), .ref w9] c [.int (ac), .int (re), .int (kn)] n9 s9 2 c [.int (ac), .int (re), .int (kn)] n9 s9 := by
  refine zL.intro (lo := 129) (nA := 5) zw_L_shift (by decide) rfl rfl (by decide +kernel) rfl (Nat.le_of_ble_eq_true rfl) ?_
  intro p e s m below meth c0 ls C9 hr9 hk9 ht9 hLi9 hS9 hl9
  have hl9 : lv_has ls 6 [(0, .ref o), (1, .int (iZ (f))), (2, .int (iZ (g))), (3, .int (iZ (z))), (4, .ref w9)] := hl9
  refine lv_aload C9.1 C9.2.1 dL_shift_0 (lv_at hl9 4 rfl) ?_
  refine lv_aload_n C9.1 C9.2.1 dL_shift_2 rfl (lv_at hl9 0 rfl) ?_
  refine lv_iload_n C9.1 C9.2.1 dL_shift_3 rfl (lv_at hl9 1 rfl) ?_
  refine lv_iload_n C9.1 C9.2.1 dL_shift_4 rfl (lv_at hl9 2 rfl) ?_
  refine lv_iload_n C9.1 C9.2.1 dL_shift_5 rfl (lv_at hl9 3 rfl) ?_
  refine zg_callX (as := [.int (iZ (f)), .int (iZ (g)), .int (iZ (z))]) C9 hLi9.1 (hLi9.2.2.2.1.narrow fun q h => Or.inr h) hS9 (fun q h => Or.inr h) (c_X3_shift_badr l hlq D cJ o a c ac re kn f g z r9f r9g r9z hf hz hbad) ml_L_55 rfl (by decide) (by decide) hl9 (Nat.le_of_ble_eq_true rfl) rfl dL_shift_6 (fun H1 locs1 ce1 q1 hAt1 hS1 hk1 hz1 hc1 hv1 hf1 => ?_)
  have hW1 := hLi9.2.1.kept (hk1 w9 hLi9.2.1.lt (fun z => z.elim hLi9.2.2.1.1 hLi9.2.2.1.2))
  refine zl_catch2 C9 (ht9.trans rfl) (by decide) cl_L_19 hLi9.2.2.2.2.2.2.1 (by decide +kernel) (by decide) cl_L_24 hLi9.2.2.2.2.2.1 hc1 hv1 hf1 ?_
  refine lv_astore C9.1 C9.2.1 (x := q1) dL_shift_20 hl9 (by decide) rfl (fun ls2 hl2 => ?_)
  refine z_iconst C9 dL_shift_22 ?_
  exact zl_ret C9 hAt1 hW1 hS1 hr9 hk9 (Nat.le_of_ble_eq_true rfl) (Nat.le_of_ble_eq_true rfl) dL_shift_23 rfl
set_option maxHeartbeats 4000000 in
set_option maxRecDepth 100000 in
theorem c_L_quotient_badc (l : Launch) (hlq : l.stackTraces = false) (D : va_G) (cJ : ClassId) (o a : Nat) (c : Nat → Nat) (ac : Int32) (re : Int32) (kn : Int32) (f : Int) (g : Int) (z : Int) (r9f : -2147483648 ≤ f ∧ f ≤ 2147483647) (r9g : -2147483648 ≤ g ∧ g ≤ 2147483647) (r9z : -2147483648 ≤ z ∧ z ≤ 2147483647) (hbad : ¬ ((0 ≤ f ∧ f ≤ 5) ∧ (0 ≤ g ∧ g ≤ 5) ∧ (0 ≤ z ∧ z ≤ 5))) (w9 : Nat) (n9 : Int64) (s9 : Value) : zL l yL_quotient 9 176 1 6 D cJ o a w9 [.ref o, .int (iZ (f)), .int (iZ (g)), .int (iZ (z)), .ref w9] c [.int (ac), .int (re), .int (kn)] n9 s9 1 c [.int (ac), .int (re), .int (kn)] n9 s9 := by
  refine zL.intro (lo := 151) (nA := 5) zw_L_quotient (by decide) rfl rfl (by decide +kernel) rfl (Nat.le_of_ble_eq_true rfl) ?_
  intro p e s m below meth c0 ls C9 hr9 hk9 ht9 hLi9 hS9 hl9
  have hl9 : lv_has ls 6 [(0, .ref o), (1, .int (iZ (f))), (2, .int (iZ (g))), (3, .int (iZ (z))), (4, .ref w9)] := hl9
  refine lv_aload C9.1 C9.2.1 dL_quotient_0 (lv_at hl9 4 rfl) ?_
  refine lv_aload_n C9.1 C9.2.1 dL_quotient_2 rfl (lv_at hl9 0 rfl) ?_
  refine lv_iload_n C9.1 C9.2.1 dL_quotient_3 rfl (lv_at hl9 1 rfl) ?_
  refine lv_iload_n C9.1 C9.2.1 dL_quotient_4 rfl (lv_at hl9 2 rfl) ?_
  refine lv_iload_n C9.1 C9.2.1 dL_quotient_5 rfl (lv_at hl9 3 rfl) ?_
  refine zg_callX (as := [.int (iZ (f)), .int (iZ (g)), .int (iZ (z))]) C9 hLi9.1 (hLi9.2.2.2.1.narrow fun q h => Or.inr h) hS9 (fun q h => Or.inr h) (c_X3_quotient_badc l hlq D cJ o a c ac re kn f g z r9f r9g r9z hbad) ml_L_58 rfl (by decide) (by decide) hl9 (Nat.le_of_ble_eq_true rfl) rfl dL_quotient_6 (fun H1 locs1 ce1 q1 hAt1 hS1 hk1 hz1 hc1 hv1 hf1 => ?_)
  have hW1 := hLi9.2.1.kept (hk1 w9 hLi9.2.1.lt (fun z => z.elim hLi9.2.2.1.1 hLi9.2.2.1.2))
  refine zl_catch1 C9 (ht9.trans rfl) (by decide +kernel) (by decide) cl_L_19 hLi9.2.2.2.2.1 hc1 hv1 hf1 ?_
  refine lv_astore C9.1 C9.2.1 (x := q1) dL_quotient_16 hl9 (by decide) rfl (fun ls2 hl2 => ?_)
  refine z_iconst C9 dL_quotient_18 ?_
  exact zl_ret C9 hAt1 hW1 hS1 hr9 hk9 (Nat.le_of_ble_eq_true rfl) (Nat.le_of_ble_eq_true rfl) dL_quotient_19 rfl
set_option maxHeartbeats 4000000 in
set_option maxRecDepth 100000 in
theorem c_L_rest_badc (l : Launch) (hlq : l.stackTraces = false) (D : va_G) (cJ : ClassId) (o a : Nat) (c : Nat → Nat) (ac : Int32) (re : Int32) (kn : Int32) (f : Int) (g : Int) (z : Int) (r9f : -2147483648 ≤ f ∧ f ≤ 2147483647) (r9g : -2147483648 ≤ g ∧ g ≤ 2147483647) (r9z : -2147483648 ≤ z ∧ z ≤ 2147483647) (hbad : ¬ ((0 ≤ f ∧ f ≤ 5) ∧ (0 ≤ g ∧ g ≤ 5) ∧ (0 ≤ z ∧ z ≤ 5))) (w9 : Nat) (n9 : Int64) (s9 : Value) : zL l yL_rest 9 176 1 6 D cJ o a w9 [.ref o, .int (iZ (f)), .int (iZ (g)), .int (iZ (z)), .ref w9] c [.int (ac), .int (re), .int (kn)] n9 s9 1 c [.int (ac), .int (re), .int (kn)] n9 s9 := by
  refine zL.intro (lo := 151) (nA := 5) zw_L_rest (by decide) rfl rfl (by decide +kernel) rfl (Nat.le_of_ble_eq_true rfl) ?_
  intro p e s m below meth c0 ls C9 hr9 hk9 ht9 hLi9 hS9 hl9
  have hl9 : lv_has ls 6 [(0, .ref o), (1, .int (iZ (f))), (2, .int (iZ (g))), (3, .int (iZ (z))), (4, .ref w9)] := hl9
  refine lv_aload C9.1 C9.2.1 dL_rest_0 (lv_at hl9 4 rfl) ?_
  refine lv_aload_n C9.1 C9.2.1 dL_rest_2 rfl (lv_at hl9 0 rfl) ?_
  refine lv_iload_n C9.1 C9.2.1 dL_rest_3 rfl (lv_at hl9 1 rfl) ?_
  refine lv_iload_n C9.1 C9.2.1 dL_rest_4 rfl (lv_at hl9 2 rfl) ?_
  refine lv_iload_n C9.1 C9.2.1 dL_rest_5 rfl (lv_at hl9 3 rfl) ?_
  refine zg_callX (as := [.int (iZ (f)), .int (iZ (g)), .int (iZ (z))]) C9 hLi9.1 (hLi9.2.2.2.1.narrow fun q h => Or.inr h) hS9 (fun q h => Or.inr h) (c_X3_rest_badc l hlq D cJ o a c ac re kn f g z r9f r9g r9z hbad) ml_L_61 rfl (by decide) (by decide) hl9 (Nat.le_of_ble_eq_true rfl) rfl dL_rest_6 (fun H1 locs1 ce1 q1 hAt1 hS1 hk1 hz1 hc1 hv1 hf1 => ?_)
  have hW1 := hLi9.2.1.kept (hk1 w9 hLi9.2.1.lt (fun z => z.elim hLi9.2.2.1.1 hLi9.2.2.1.2))
  refine zl_catch1 C9 (ht9.trans rfl) (by decide +kernel) (by decide) cl_L_19 hLi9.2.2.2.2.1 hc1 hv1 hf1 ?_
  refine lv_astore C9.1 C9.2.1 (x := q1) dL_rest_16 hl9 (by decide) rfl (fun ls2 hl2 => ?_)
  refine z_iconst C9 dL_rest_18 ?_
  exact zl_ret C9 hAt1 hW1 hS1 hr9 hk9 (Nat.le_of_ble_eq_true rfl) (Nat.le_of_ble_eq_true rfl) dL_rest_19 rfl
set_option maxHeartbeats 4000000 in
set_option maxRecDepth 100000 in
theorem c_L_gcd_badc (l : Launch) (hlq : l.stackTraces = false) (D : va_G) (cJ : ClassId) (o a : Nat) (c : Nat → Nat) (ac : Int32) (re : Int32) (kn : Int32) (f : Int) (g : Int) (z : Int) (r9f : -2147483648 ≤ f ∧ f ≤ 2147483647) (r9g : -2147483648 ≤ g ∧ g ≤ 2147483647) (r9z : -2147483648 ≤ z ∧ z ≤ 2147483647) (hbad : ¬ ((0 ≤ f ∧ f ≤ 5) ∧ (0 ≤ g ∧ g ≤ 5) ∧ (0 ≤ z ∧ z ≤ 5))) (w9 : Nat) (n9 : Int64) (s9 : Value) : zL l yL_gcd 9 176 1 6 D cJ o a w9 [.ref o, .int (iZ (f)), .int (iZ (g)), .int (iZ (z)), .ref w9] c [.int (ac), .int (re), .int (kn)] n9 s9 1 c [.int (ac), .int (re), .int (kn)] n9 s9 := by
  refine zL.intro (lo := 151) (nA := 5) zw_L_gcd (by decide) rfl rfl (by decide +kernel) rfl (Nat.le_of_ble_eq_true rfl) ?_
  intro p e s m below meth c0 ls C9 hr9 hk9 ht9 hLi9 hS9 hl9
  have hl9 : lv_has ls 6 [(0, .ref o), (1, .int (iZ (f))), (2, .int (iZ (g))), (3, .int (iZ (z))), (4, .ref w9)] := hl9
  refine lv_aload C9.1 C9.2.1 dL_gcd_0 (lv_at hl9 4 rfl) ?_
  refine lv_aload_n C9.1 C9.2.1 dL_gcd_2 rfl (lv_at hl9 0 rfl) ?_
  refine lv_iload_n C9.1 C9.2.1 dL_gcd_3 rfl (lv_at hl9 1 rfl) ?_
  refine lv_iload_n C9.1 C9.2.1 dL_gcd_4 rfl (lv_at hl9 2 rfl) ?_
  refine lv_iload_n C9.1 C9.2.1 dL_gcd_5 rfl (lv_at hl9 3 rfl) ?_
  refine zg_callX (as := [.int (iZ (f)), .int (iZ (g)), .int (iZ (z))]) C9 hLi9.1 (hLi9.2.2.2.1.narrow fun q h => Or.inr h) hS9 (fun q h => Or.inr h) (c_X3_gcd_badc l hlq D cJ o a c ac re kn f g z r9f r9g r9z hbad) ml_L_64 rfl (by decide) (by decide) hl9 (Nat.le_of_ble_eq_true rfl) rfl dL_gcd_6 (fun H1 locs1 ce1 q1 hAt1 hS1 hk1 hz1 hc1 hv1 hf1 => ?_)
  have hW1 := hLi9.2.1.kept (hk1 w9 hLi9.2.1.lt (fun z => z.elim hLi9.2.2.1.1 hLi9.2.2.1.2))
  refine zl_catch1 C9 (ht9.trans rfl) (by decide +kernel) (by decide) cl_L_19 hLi9.2.2.2.2.1 hc1 hv1 hf1 ?_
  refine lv_astore C9.1 C9.2.1 (x := q1) dL_gcd_16 hl9 (by decide) rfl (fun ls2 hl2 => ?_)
  refine z_iconst C9 dL_gcd_18 ?_
  exact zl_ret C9 hAt1 hW1 hS1 hr9 hk9 (Nat.le_of_ble_eq_true rfl) (Nat.le_of_ble_eq_true rfl) dL_gcd_19 rfl
set_option maxHeartbeats 4000000 in
set_option maxRecDepth 100000 in
theorem c_L_lcm_badc (l : Launch) (hlq : l.stackTraces = false) (D : va_G) (cJ : ClassId) (o a : Nat) (c : Nat → Nat) (ac : Int32) (re : Int32) (kn : Int32) (f : Int) (g : Int) (z : Int) (r9f : -2147483648 ≤ f ∧ f ≤ 2147483647) (r9g : -2147483648 ≤ g ∧ g ≤ 2147483647) (r9z : -2147483648 ≤ z ∧ z ≤ 2147483647) (hbad : ¬ ((0 ≤ f ∧ f ≤ 5) ∧ (0 ≤ g ∧ g ≤ 5) ∧ (0 ≤ z ∧ z ≤ 5))) (w9 : Nat) (n9 : Int64) (s9 : Value) : zL l yL_lcm 9 176 1 6 D cJ o a w9 [.ref o, .int (iZ (f)), .int (iZ (g)), .int (iZ (z)), .ref w9] c [.int (ac), .int (re), .int (kn)] n9 s9 1 c [.int (ac), .int (re), .int (kn)] n9 s9 := by
  refine zL.intro (lo := 151) (nA := 5) zw_L_lcm (by decide) rfl rfl (by decide +kernel) rfl (Nat.le_of_ble_eq_true rfl) ?_
  intro p e s m below meth c0 ls C9 hr9 hk9 ht9 hLi9 hS9 hl9
  have hl9 : lv_has ls 6 [(0, .ref o), (1, .int (iZ (f))), (2, .int (iZ (g))), (3, .int (iZ (z))), (4, .ref w9)] := hl9
  refine lv_aload C9.1 C9.2.1 dL_lcm_0 (lv_at hl9 4 rfl) ?_
  refine lv_aload_n C9.1 C9.2.1 dL_lcm_2 rfl (lv_at hl9 0 rfl) ?_
  refine lv_iload_n C9.1 C9.2.1 dL_lcm_3 rfl (lv_at hl9 1 rfl) ?_
  refine lv_iload_n C9.1 C9.2.1 dL_lcm_4 rfl (lv_at hl9 2 rfl) ?_
  refine lv_iload_n C9.1 C9.2.1 dL_lcm_5 rfl (lv_at hl9 3 rfl) ?_
  refine zg_callX (as := [.int (iZ (f)), .int (iZ (g)), .int (iZ (z))]) C9 hLi9.1 (hLi9.2.2.2.1.narrow fun q h => Or.inr h) hS9 (fun q h => Or.inr h) (c_X3_lcm_badc l hlq D cJ o a c ac re kn f g z r9f r9g r9z hbad) ml_L_67 rfl (by decide) (by decide) hl9 (Nat.le_of_ble_eq_true rfl) rfl dL_lcm_6 (fun H1 locs1 ce1 q1 hAt1 hS1 hk1 hz1 hc1 hv1 hf1 => ?_)
  have hW1 := hLi9.2.1.kept (hk1 w9 hLi9.2.1.lt (fun z => z.elim hLi9.2.2.1.1 hLi9.2.2.1.2))
  refine zl_catch1 C9 (ht9.trans rfl) (by decide +kernel) (by decide) cl_L_19 hLi9.2.2.2.2.1 hc1 hv1 hf1 ?_
  refine lv_astore C9.1 C9.2.1 (x := q1) dL_lcm_16 hl9 (by decide) rfl (fun ls2 hl2 => ?_)
  refine z_iconst C9 dL_lcm_18 ?_
  exact zl_ret C9 hAt1 hW1 hS1 hr9 hk9 (Nat.le_of_ble_eq_true rfl) (Nat.le_of_ble_eq_true rfl) dL_lcm_19 rfl
set_option maxHeartbeats 4000000 in
set_option maxRecDepth 100000 in
theorem c_L_bezout_badc (l : Launch) (hlq : l.stackTraces = false) (D : va_G) (cJ : ClassId) (o a : Nat) (c : Nat → Nat) (ac : Int32) (re : Int32) (kn : Int32) (f : Int) (g : Int) (b : Bool) (z : Int) (r9f : -2147483648 ≤ f ∧ f ≤ 2147483647) (r9g : -2147483648 ≤ g ∧ g ≤ 2147483647) (r9z : -2147483648 ≤ z ∧ z ≤ 2147483647) (hbad : ¬ ((0 ≤ f ∧ f ≤ 5) ∧ (0 ≤ g ∧ g ≤ 5) ∧ (0 ≤ z ∧ z ≤ 5))) (w9 : Nat) (n9 : Int64) (s9 : Value) : zL l yL_bezout 9 178 1 6 D cJ o a w9 [.ref o, .int (iZ (f)), .int (iZ (g)), .int (iZ (zB (b))), .int (iZ (z)), .ref w9] c [.int (ac), .int (re), .int (kn)] n9 s9 1 c [.int (ac), .int (re), .int (kn)] n9 s9 := by
  refine zL.intro (lo := 152) (nA := 6) zw_L_bezout (by decide) rfl rfl (by decide +kernel) rfl (Nat.le_of_ble_eq_true rfl) ?_
  intro p e s m below meth c0 ls C9 hr9 hk9 ht9 hLi9 hS9 hl9
  have hl9 : lv_has ls 7 [(0, .ref o), (1, .int (iZ (f))), (2, .int (iZ (g))), (3, .int (iZ (zB (b)))), (4, .int (iZ (z))), (5, .ref w9)] := hl9
  refine lv_aload C9.1 C9.2.1 dL_bezout_0 (lv_at hl9 5 rfl) ?_
  refine lv_aload_n C9.1 C9.2.1 dL_bezout_2 rfl (lv_at hl9 0 rfl) ?_
  refine lv_iload_n C9.1 C9.2.1 dL_bezout_3 rfl (lv_at hl9 1 rfl) ?_
  refine lv_iload_n C9.1 C9.2.1 dL_bezout_4 rfl (lv_at hl9 2 rfl) ?_
  refine lv_iload_n C9.1 C9.2.1 dL_bezout_5 rfl (lv_at hl9 3 rfl) ?_
  refine lv_iload C9.1 C9.2.1 dL_bezout_6 (lv_at hl9 4 rfl) ?_
  refine zg_callX (as := [.int (iZ (f)), .int (iZ (g)), .int (iZ (zB (b))), .int (iZ (z))]) C9 hLi9.1 (hLi9.2.2.2.1.narrow fun q h => Or.inr h) hS9 (fun q h => Or.inr h) (c_X3_bezout_badc l hlq D cJ o a c ac re kn f g b z r9f r9g r9z hbad) ml_L_70 rfl (by decide) (by decide) hl9 (Nat.le_of_ble_eq_true rfl) rfl dL_bezout_8 (fun H1 locs1 ce1 q1 hAt1 hS1 hk1 hz1 hc1 hv1 hf1 => ?_)
  have hW1 := hLi9.2.1.kept (hk1 w9 hLi9.2.1.lt (fun z => z.elim hLi9.2.2.1.1 hLi9.2.2.1.2))
  refine zl_catch1 C9 (ht9.trans rfl) (by decide +kernel) (by decide) cl_L_19 hLi9.2.2.2.2.1 hc1 hv1 hf1 ?_
  refine lv_astore C9.1 C9.2.1 (x := q1) dL_bezout_18 hl9 (by decide) rfl (fun ls2 hl2 => ?_)
  refine z_iconst C9 dL_bezout_20 ?_
  exact zl_ret C9 hAt1 hW1 hS1 hr9 hk9 (Nat.le_of_ble_eq_true rfl) (Nat.le_of_ble_eq_true rfl) dL_bezout_21 rfl
set_option maxHeartbeats 4000000 in
set_option maxRecDepth 100000 in
theorem c_L_derive_badc (l : Launch) (hlq : l.stackTraces = false) (D : va_G) (cJ : ClassId) (o a : Nat) (c : Nat → Nat) (ac : Int32) (re : Int32) (kn : Int32) (f : Int) (z : Int) (r9f : -2147483648 ≤ f ∧ f ≤ 2147483647) (r9z : -2147483648 ≤ z ∧ z ≤ 2147483647) (hbad : ¬ ((0 ≤ f ∧ f ≤ 5) ∧ (0 ≤ z ∧ z ≤ 5))) (w9 : Nat) (n9 : Int64) (s9 : Value) : zL l yL_derive 9 172 1 6 D cJ o a w9 [.ref o, .int (iZ (f)), .int (iZ (z)), .ref w9] c [.int (ac), .int (re), .int (kn)] n9 s9 1 c [.int (ac), .int (re), .int (kn)] n9 s9 := by
  refine zL.intro (lo := 148) (nA := 4) zw_L_derive (by decide) rfl rfl (by decide +kernel) rfl (Nat.le_of_ble_eq_true rfl) ?_
  intro p e s m below meth c0 ls C9 hr9 hk9 ht9 hLi9 hS9 hl9
  have hl9 : lv_has ls 5 [(0, .ref o), (1, .int (iZ (f))), (2, .int (iZ (z))), (3, .ref w9)] := hl9
  refine lv_aload_n C9.1 C9.2.1 dL_derive_0 rfl (lv_at hl9 3 rfl) ?_
  refine lv_aload_n C9.1 C9.2.1 dL_derive_1 rfl (lv_at hl9 0 rfl) ?_
  refine lv_iload_n C9.1 C9.2.1 dL_derive_2 rfl (lv_at hl9 1 rfl) ?_
  refine lv_iload_n C9.1 C9.2.1 dL_derive_3 rfl (lv_at hl9 2 rfl) ?_
  refine zg_callX (as := [.int (iZ (f)), .int (iZ (z))]) C9 hLi9.1 (hLi9.2.2.2.1.narrow fun q h => Or.inr h) hS9 (fun q h => Or.inr h) (c_X3_derive_badc l hlq D cJ o a c ac re kn f z r9f r9z hbad) ml_L_73 rfl (by decide) (by decide) hl9 (Nat.le_of_ble_eq_true rfl) rfl dL_derive_4 (fun H1 locs1 ce1 q1 hAt1 hS1 hk1 hz1 hc1 hv1 hf1 => ?_)
  have hW1 := hLi9.2.1.kept (hk1 w9 hLi9.2.1.lt (fun z => z.elim hLi9.2.2.1.1 hLi9.2.2.1.2))
  refine zl_catch1 C9 (ht9.trans rfl) (by decide +kernel) (by decide) cl_L_19 hLi9.2.2.2.2.1 hc1 hv1 hf1 ?_
  refine lv_astore C9.1 C9.2.1 (x := q1) dL_derive_14 hl9 (by decide) rfl (fun ls2 hl2 => ?_)
  refine z_iconst C9 dL_derive_16 ?_
  exact zl_ret C9 hAt1 hW1 hS1 hr9 hk9 (Nat.le_of_ble_eq_true rfl) (Nat.le_of_ble_eq_true rfl) dL_derive_17 rfl
set_option maxHeartbeats 4000000 in
set_option maxRecDepth 100000 in
theorem c_L_root_badc (l : Launch) (hlq : l.stackTraces = false) (D : va_G) (cJ : ClassId) (o a : Nat) (c : Nat → Nat) (ac : Int32) (re : Int32) (kn : Int32) (f : Int) (z : Int) (r9f : -2147483648 ≤ f ∧ f ≤ 2147483647) (r9z : -2147483648 ≤ z ∧ z ≤ 2147483647) (hbad : ¬ ((0 ≤ f ∧ f ≤ 5) ∧ (0 ≤ z ∧ z ≤ 5))) (w9 : Nat) (n9 : Int64) (s9 : Value) : zL l yL_root 9 172 1 6 D cJ o a w9 [.ref o, .int (iZ (f)), .int (iZ (z)), .ref w9] c [.int (ac), .int (re), .int (kn)] n9 s9 1 c [.int (ac), .int (re), .int (kn)] n9 s9 := by
  refine zL.intro (lo := 148) (nA := 4) zw_L_root (by decide) rfl rfl (by decide +kernel) rfl (Nat.le_of_ble_eq_true rfl) ?_
  intro p e s m below meth c0 ls C9 hr9 hk9 ht9 hLi9 hS9 hl9
  have hl9 : lv_has ls 5 [(0, .ref o), (1, .int (iZ (f))), (2, .int (iZ (z))), (3, .ref w9)] := hl9
  refine lv_aload_n C9.1 C9.2.1 dL_root_0 rfl (lv_at hl9 3 rfl) ?_
  refine lv_aload_n C9.1 C9.2.1 dL_root_1 rfl (lv_at hl9 0 rfl) ?_
  refine lv_iload_n C9.1 C9.2.1 dL_root_2 rfl (lv_at hl9 1 rfl) ?_
  refine lv_iload_n C9.1 C9.2.1 dL_root_3 rfl (lv_at hl9 2 rfl) ?_
  refine zg_callX (as := [.int (iZ (f)), .int (iZ (z))]) C9 hLi9.1 (hLi9.2.2.2.1.narrow fun q h => Or.inr h) hS9 (fun q h => Or.inr h) (c_X3_root_badc l hlq D cJ o a c ac re kn f z r9f r9z hbad) ml_L_76 rfl (by decide) (by decide) hl9 (Nat.le_of_ble_eq_true rfl) rfl dL_root_4 (fun H1 locs1 ce1 q1 hAt1 hS1 hk1 hz1 hc1 hv1 hf1 => ?_)
  have hW1 := hLi9.2.1.kept (hk1 w9 hLi9.2.1.lt (fun z => z.elim hLi9.2.2.1.1 hLi9.2.2.1.2))
  refine zl_catch1 C9 (ht9.trans rfl) (by decide +kernel) (by decide) cl_L_19 hLi9.2.2.2.2.1 hc1 hv1 hf1 ?_
  refine lv_astore C9.1 C9.2.1 (x := q1) dL_root_14 hl9 (by decide) rfl (fun ls2 hl2 => ?_)
  refine z_iconst C9 dL_root_16 ?_
  exact zl_ret C9 hAt1 hW1 hS1 hr9 hk9 (Nat.le_of_ble_eq_true rfl) (Nat.le_of_ble_eq_true rfl) dL_root_17 rfl
set_option maxHeartbeats 4000000 in
set_option maxRecDepth 100000 in
theorem c_L_turn_badc (l : Launch) (hlq : l.stackTraces = false) (D : va_G) (cJ : ClassId) (o a : Nat) (c : Nat → Nat) (ac : Int32) (re : Int32) (kn : Int32) (f : Int) (z : Int) (r9f : -2147483648 ≤ f ∧ f ≤ 2147483647) (r9z : -2147483648 ≤ z ∧ z ≤ 2147483647) (hbad : ¬ ((0 ≤ f ∧ f ≤ 5) ∧ (0 ≤ z ∧ z ≤ 5))) (w9 : Nat) (n9 : Int64) (s9 : Value) : zL l yL_turn 9 172 1 6 D cJ o a w9 [.ref o, .int (iZ (f)), .int (iZ (z)), .ref w9] c [.int (ac), .int (re), .int (kn)] n9 s9 1 c [.int (ac), .int (re), .int (kn)] n9 s9 := by
  refine zL.intro (lo := 148) (nA := 4) zw_L_turn (by decide) rfl rfl (by decide +kernel) rfl (Nat.le_of_ble_eq_true rfl) ?_
  intro p e s m below meth c0 ls C9 hr9 hk9 ht9 hLi9 hS9 hl9
  have hl9 : lv_has ls 5 [(0, .ref o), (1, .int (iZ (f))), (2, .int (iZ (z))), (3, .ref w9)] := hl9
  refine lv_aload_n C9.1 C9.2.1 dL_turn_0 rfl (lv_at hl9 3 rfl) ?_
  refine lv_aload_n C9.1 C9.2.1 dL_turn_1 rfl (lv_at hl9 0 rfl) ?_
  refine lv_iload_n C9.1 C9.2.1 dL_turn_2 rfl (lv_at hl9 1 rfl) ?_
  refine lv_iload_n C9.1 C9.2.1 dL_turn_3 rfl (lv_at hl9 2 rfl) ?_
  refine zg_callX (as := [.int (iZ (f)), .int (iZ (z))]) C9 hLi9.1 (hLi9.2.2.2.1.narrow fun q h => Or.inr h) hS9 (fun q h => Or.inr h) (c_X3_turn_badc l hlq D cJ o a c ac re kn f z r9f r9z hbad) ml_L_79 rfl (by decide) (by decide) hl9 (Nat.le_of_ble_eq_true rfl) rfl dL_turn_4 (fun H1 locs1 ce1 q1 hAt1 hS1 hk1 hz1 hc1 hv1 hf1 => ?_)
  have hW1 := hLi9.2.1.kept (hk1 w9 hLi9.2.1.lt (fun z => z.elim hLi9.2.2.1.1 hLi9.2.2.1.2))
  refine zl_catch1 C9 (ht9.trans rfl) (by decide +kernel) (by decide) cl_L_19 hLi9.2.2.2.2.1 hc1 hv1 hf1 ?_
  refine lv_astore C9.1 C9.2.1 (x := q1) dL_turn_14 hl9 (by decide) rfl (fun ls2 hl2 => ?_)
  refine z_iconst C9 dL_turn_16 ?_
  exact zl_ret C9 hAt1 hW1 hS1 hr9 hk9 (Nat.le_of_ble_eq_true rfl) (Nat.le_of_ble_eq_true rfl) dL_turn_17 rfl
set_option maxHeartbeats 4000000 in
set_option maxRecDepth 100000 in
theorem c_L_move_badc (l : Launch) (hlq : l.stackTraces = false) (D : va_G) (cJ : ClassId) (o a : Nat) (c : Nat → Nat) (ac : Int32) (re : Int32) (kn : Int32) (f : Int) (z : Int) (r9f : -2147483648 ≤ f ∧ f ≤ 2147483647) (r9z : -2147483648 ≤ z ∧ z ≤ 2147483647) (hbad : ¬ ((0 ≤ f ∧ f ≤ 5) ∧ (0 ≤ z ∧ z ≤ 5))) (w9 : Nat) (n9 : Int64) (s9 : Value) : zL l yL_move 9 172 1 6 D cJ o a w9 [.ref o, .int (iZ (f)), .int (iZ (z)), .ref w9] c [.int (ac), .int (re), .int (kn)] n9 s9 1 c [.int (ac), .int (re), .int (kn)] n9 s9 := by
  refine zL.intro (lo := 148) (nA := 4) zw_L_move (by decide) rfl rfl (by decide +kernel) rfl (Nat.le_of_ble_eq_true rfl) ?_
  intro p e s m below meth c0 ls C9 hr9 hk9 ht9 hLi9 hS9 hl9
  have hl9 : lv_has ls 5 [(0, .ref o), (1, .int (iZ (f))), (2, .int (iZ (z))), (3, .ref w9)] := hl9
  refine lv_aload_n C9.1 C9.2.1 dL_move_0 rfl (lv_at hl9 3 rfl) ?_
  refine lv_aload_n C9.1 C9.2.1 dL_move_1 rfl (lv_at hl9 0 rfl) ?_
  refine lv_iload_n C9.1 C9.2.1 dL_move_2 rfl (lv_at hl9 1 rfl) ?_
  refine lv_iload_n C9.1 C9.2.1 dL_move_3 rfl (lv_at hl9 2 rfl) ?_
  refine zg_callX (as := [.int (iZ (f)), .int (iZ (z))]) C9 hLi9.1 (hLi9.2.2.2.1.narrow fun q h => Or.inr h) hS9 (fun q h => Or.inr h) (c_X3_move_badc l hlq D cJ o a c ac re kn f z r9f r9z hbad) ml_L_82 rfl (by decide) (by decide) hl9 (Nat.le_of_ble_eq_true rfl) rfl dL_move_4 (fun H1 locs1 ce1 q1 hAt1 hS1 hk1 hz1 hc1 hv1 hf1 => ?_)
  have hW1 := hLi9.2.1.kept (hk1 w9 hLi9.2.1.lt (fun z => z.elim hLi9.2.2.1.1 hLi9.2.2.1.2))
  refine zl_catch1 C9 (ht9.trans rfl) (by decide +kernel) (by decide) cl_L_19 hLi9.2.2.2.2.1 hc1 hv1 hf1 ?_
  refine lv_astore C9.1 C9.2.1 (x := q1) dL_move_14 hl9 (by decide) rfl (fun ls2 hl2 => ?_)
  refine z_iconst C9 dL_move_16 ?_
  exact zl_ret C9 hAt1 hW1 hS1 hr9 hk9 (Nat.le_of_ble_eq_true rfl) (Nat.le_of_ble_eq_true rfl) dL_move_17 rfl
set_option maxHeartbeats 4000000 in
set_option maxRecDepth 100000 in
theorem c_L_power_badc (l : Launch) (hlq : l.stackTraces = false) (D : va_G) (cJ : ClassId) (o a : Nat) (c : Nat → Nat) (ac : Int32) (re : Int32) (kn : Int32) (f : Int) (t : Int) (g : Int) (z : Int) (r9f : -2147483648 ≤ f ∧ f ≤ 2147483647) (r9t : -2147483648 ≤ t ∧ t ≤ 2147483647) (r9g : -2147483648 ≤ g ∧ g ≤ 2147483647) (r9z : -2147483648 ≤ z ∧ z ≤ 2147483647) (hbad : ¬ ((0 ≤ f ∧ f ≤ 5) ∧ (0 ≤ g ∧ g ≤ 5) ∧ (0 ≤ z ∧ z ≤ 5))) (w9 : Nat) (n9 : Int64) (s9 : Value) : zL l yL_power 9 178 1 6 D cJ o a w9 [.ref o, .int (iZ (f)), .int (iZ (t)), .int (iZ (g)), .int (iZ (z)), .ref w9] c [.int (ac), .int (re), .int (kn)] n9 s9 1 c [.int (ac), .int (re), .int (kn)] n9 s9 := by
  refine zL.intro (lo := 152) (nA := 6) zw_L_power (by decide) rfl rfl (by decide +kernel) rfl (Nat.le_of_ble_eq_true rfl) ?_
  intro p e s m below meth c0 ls C9 hr9 hk9 ht9 hLi9 hS9 hl9
  have hl9 : lv_has ls 7 [(0, .ref o), (1, .int (iZ (f))), (2, .int (iZ (t))), (3, .int (iZ (g))), (4, .int (iZ (z))), (5, .ref w9)] := hl9
  refine lv_aload C9.1 C9.2.1 dL_power_0 (lv_at hl9 5 rfl) ?_
  refine lv_aload_n C9.1 C9.2.1 dL_power_2 rfl (lv_at hl9 0 rfl) ?_
  refine lv_iload_n C9.1 C9.2.1 dL_power_3 rfl (lv_at hl9 1 rfl) ?_
  refine lv_iload_n C9.1 C9.2.1 dL_power_4 rfl (lv_at hl9 2 rfl) ?_
  refine lv_iload_n C9.1 C9.2.1 dL_power_5 rfl (lv_at hl9 3 rfl) ?_
  refine lv_iload C9.1 C9.2.1 dL_power_6 (lv_at hl9 4 rfl) ?_
  refine zg_callX (as := [.int (iZ (f)), .int (iZ (t)), .int (iZ (g)), .int (iZ (z))]) C9 hLi9.1 (hLi9.2.2.2.1.narrow fun q h => Or.inr h) hS9 (fun q h => Or.inr h) (c_X3_power_badc l hlq D cJ o a c ac re kn f t g z r9f r9t r9g r9z hbad) ml_L_85 rfl (by decide) (by decide) hl9 (Nat.le_of_ble_eq_true rfl) rfl dL_power_8 (fun H1 locs1 ce1 q1 hAt1 hS1 hk1 hz1 hc1 hv1 hf1 => ?_)
  have hW1 := hLi9.2.1.kept (hk1 w9 hLi9.2.1.lt (fun z => z.elim hLi9.2.2.1.1 hLi9.2.2.1.2))
  refine zl_catch1 C9 (ht9.trans rfl) (by decide +kernel) (by decide) cl_L_19 hLi9.2.2.2.2.1 hc1 hv1 hf1 ?_
  refine lv_astore C9.1 C9.2.1 (x := q1) dL_power_18 hl9 (by decide) rfl (fun ls2 hl2 => ?_)
  refine z_iconst C9 dL_power_20 ?_
  exact zl_ret C9 hAt1 hW1 hS1 hr9 hk9 (Nat.le_of_ble_eq_true rfl) (Nat.le_of_ble_eq_true rfl) dL_power_21 rfl
set_option maxHeartbeats 4000000 in
set_option maxRecDepth 100000 in
theorem c_L_power_badr (l : Launch) (hlq : l.stackTraces = false) (D : va_G) (cJ : ClassId) (o a : Nat) (c : Nat → Nat) (ac : Int32) (re : Int32) (kn : Int32) (f : Int) (t : Int) (g : Int) (z : Int) (r9f : -2147483648 ≤ f ∧ f ≤ 2147483647) (r9t : -2147483648 ≤ t ∧ t ≤ 2147483647) (r9g : -2147483648 ≤ g ∧ g ≤ 2147483647) (r9z : -2147483648 ≤ z ∧ z ≤ 2147483647) (hf : 0 ≤ f ∧ f ≤ 5) (hg : 0 ≤ g ∧ g ≤ 5) (hz : 0 ≤ z ∧ z ≤ 5) (hbad : ¬ ((0 ≤ t ∧ t ≤ 255))) (w9 : Nat) (n9 : Int64) (s9 : Value) : zL l yL_power 8 158 1 6 D cJ o a w9 [.ref o, .int (iZ (f)), .int (iZ (t)), .int (iZ (g)), .int (iZ (z)), .ref w9] c [.int (ac), .int (re), .int (kn)] n9 s9 2 c [.int (ac), .int (re), .int (kn)] n9 s9 := by
  refine zL.intro (lo := 132) (nA := 6) zw_L_power (by decide) rfl rfl (by decide +kernel) rfl (Nat.le_of_ble_eq_true rfl) ?_
  intro p e s m below meth c0 ls C9 hr9 hk9 ht9 hLi9 hS9 hl9
  have hl9 : lv_has ls 7 [(0, .ref o), (1, .int (iZ (f))), (2, .int (iZ (t))), (3, .int (iZ (g))), (4, .int (iZ (z))), (5, .ref w9)] := hl9
  refine lv_aload C9.1 C9.2.1 dL_power_0 (lv_at hl9 5 rfl) ?_
  refine lv_aload_n C9.1 C9.2.1 dL_power_2 rfl (lv_at hl9 0 rfl) ?_
  refine lv_iload_n C9.1 C9.2.1 dL_power_3 rfl (lv_at hl9 1 rfl) ?_
  refine lv_iload_n C9.1 C9.2.1 dL_power_4 rfl (lv_at hl9 2 rfl) ?_
  refine lv_iload_n C9.1 C9.2.1 dL_power_5 rfl (lv_at hl9 3 rfl) ?_
  refine lv_iload C9.1 C9.2.1 dL_power_6 (lv_at hl9 4 rfl) ?_
  refine zg_callX (as := [.int (iZ (f)), .int (iZ (t)), .int (iZ (g)), .int (iZ (z))]) C9 hLi9.1 (hLi9.2.2.2.1.narrow fun q h => Or.inr h) hS9 (fun q h => Or.inr h) (c_X3_power_badr l hlq D cJ o a c ac re kn f t g z r9f r9t r9g r9z hf hg hz hbad) ml_L_85 rfl (by decide) (by decide) hl9 (Nat.le_of_ble_eq_true rfl) rfl dL_power_8 (fun H1 locs1 ce1 q1 hAt1 hS1 hk1 hz1 hc1 hv1 hf1 => ?_)
  have hW1 := hLi9.2.1.kept (hk1 w9 hLi9.2.1.lt (fun z => z.elim hLi9.2.2.1.1 hLi9.2.2.1.2))
  refine zl_catch2 C9 (ht9.trans rfl) (by decide) cl_L_19 hLi9.2.2.2.2.2.2.1 (by decide +kernel) (by decide) cl_L_24 hLi9.2.2.2.2.2.1 hc1 hv1 hf1 ?_
  refine lv_astore C9.1 C9.2.1 (x := q1) dL_power_22 hl9 (by decide) rfl (fun ls2 hl2 => ?_)
  refine z_iconst C9 dL_power_24 ?_
  exact zl_ret C9 hAt1 hW1 hS1 hr9 hk9 (Nat.le_of_ble_eq_true rfl) (Nat.le_of_ble_eq_true rfl) dL_power_25 rfl
set_option maxHeartbeats 4000000 in
set_option maxRecDepth 100000 in
theorem c_L_nth_badc (l : Launch) (hlq : l.stackTraces = false) (D : va_G) (cJ : ClassId) (o a : Nat) (c : Nat → Nat) (ac : Int32) (re : Int32) (kn : Int32) (d : Int) (r : Int) (z : Int) (r9d : -2147483648 ≤ d ∧ d ≤ 2147483647) (r9r : -2147483648 ≤ r ∧ r ≤ 2147483647) (r9z : -2147483648 ≤ z ∧ z ≤ 2147483647) (hbad : ¬ ((0 ≤ z ∧ z ≤ 5))) (w9 : Nat) (n9 : Int64) (s9 : Value) : zL l yL_nth 8 153 1 6 D cJ o a w9 [.ref o, .int (iZ (d)), .int (iZ (r)), .int (iZ (z)), .ref w9] c [.int (ac), .int (re), .int (kn)] n9 s9 1 c [.int (ac), .int (re), .int (kn)] n9 s9 := by
  refine zL.intro (lo := 128) (nA := 5) zw_L_nth (by decide) rfl rfl (by decide +kernel) rfl (Nat.le_of_ble_eq_true rfl) ?_
  intro p e s m below meth c0 ls C9 hr9 hk9 ht9 hLi9 hS9 hl9
  have hl9 : lv_has ls 6 [(0, .ref o), (1, .int (iZ (d))), (2, .int (iZ (r))), (3, .int (iZ (z))), (4, .ref w9)] := hl9
  refine lv_aload C9.1 C9.2.1 dL_nth_0 (lv_at hl9 4 rfl) ?_
  refine lv_aload_n C9.1 C9.2.1 dL_nth_2 rfl (lv_at hl9 0 rfl) ?_
  refine lv_iload_n C9.1 C9.2.1 dL_nth_3 rfl (lv_at hl9 1 rfl) ?_
  refine lv_iload_n C9.1 C9.2.1 dL_nth_4 rfl (lv_at hl9 2 rfl) ?_
  refine lv_iload_n C9.1 C9.2.1 dL_nth_5 rfl (lv_at hl9 3 rfl) ?_
  refine zg_callX (as := [.int (iZ (d)), .int (iZ (r)), .int (iZ (z))]) C9 hLi9.1 (hLi9.2.2.2.1.narrow fun q h => Or.inr h) hS9 (fun q h => Or.inr h) (c_X3_nth_badc l hlq D cJ o a c ac re kn d r z r9d r9r r9z hbad) ml_L_88 rfl (by decide) (by decide) hl9 (Nat.le_of_ble_eq_true rfl) rfl dL_nth_6 (fun H1 locs1 ce1 q1 hAt1 hS1 hk1 hz1 hc1 hv1 hf1 => ?_)
  have hW1 := hLi9.2.1.kept (hk1 w9 hLi9.2.1.lt (fun z => z.elim hLi9.2.2.1.1 hLi9.2.2.1.2))
  refine zl_catch1 C9 (ht9.trans rfl) (by decide +kernel) (by decide) cl_L_19 hLi9.2.2.2.2.1 hc1 hv1 hf1 ?_
  refine lv_astore C9.1 C9.2.1 (x := q1) dL_nth_16 hl9 (by decide) rfl (fun ls2 hl2 => ?_)
  refine z_iconst C9 dL_nth_18 ?_
  exact zl_ret C9 hAt1 hW1 hS1 hr9 hk9 (Nat.le_of_ble_eq_true rfl) (Nat.le_of_ble_eq_true rfl) dL_nth_19 rfl
set_option maxHeartbeats 4000000 in
set_option maxRecDepth 100000 in
theorem c_L_nth_badr (l : Launch) (hlq : l.stackTraces = false) (D : va_G) (cJ : ClassId) (o a : Nat) (c : Nat → Nat) (ac : Int32) (re : Int32) (kn : Int32) (d : Int) (r : Int) (z : Int) (r9d : -2147483648 ≤ d ∧ d ≤ 2147483647) (r9r : -2147483648 ≤ r ∧ r ≤ 2147483647) (r9z : -2147483648 ≤ z ∧ z ≤ 2147483647) (hz : 0 ≤ z ∧ z ≤ 5) (hbad : ¬ ((1 ≤ d ∧ d ≤ 8) ∧ (0 ≤ r ∧ r ≤ 40))) (w9 : Nat) (n9 : Int64) (s9 : Value) : zL l yL_nth 8 154 1 6 D cJ o a w9 [.ref o, .int (iZ (d)), .int (iZ (r)), .int (iZ (z)), .ref w9] c [.int (ac), .int (re), .int (kn)] n9 s9 2 c [.int (ac), .int (re), .int (kn)] n9 s9 := by
  refine zL.intro (lo := 129) (nA := 5) zw_L_nth (by decide) rfl rfl (by decide +kernel) rfl (Nat.le_of_ble_eq_true rfl) ?_
  intro p e s m below meth c0 ls C9 hr9 hk9 ht9 hLi9 hS9 hl9
  have hl9 : lv_has ls 6 [(0, .ref o), (1, .int (iZ (d))), (2, .int (iZ (r))), (3, .int (iZ (z))), (4, .ref w9)] := hl9
  refine lv_aload C9.1 C9.2.1 dL_nth_0 (lv_at hl9 4 rfl) ?_
  refine lv_aload_n C9.1 C9.2.1 dL_nth_2 rfl (lv_at hl9 0 rfl) ?_
  refine lv_iload_n C9.1 C9.2.1 dL_nth_3 rfl (lv_at hl9 1 rfl) ?_
  refine lv_iload_n C9.1 C9.2.1 dL_nth_4 rfl (lv_at hl9 2 rfl) ?_
  refine lv_iload_n C9.1 C9.2.1 dL_nth_5 rfl (lv_at hl9 3 rfl) ?_
  refine zg_callX (as := [.int (iZ (d)), .int (iZ (r)), .int (iZ (z))]) C9 hLi9.1 (hLi9.2.2.2.1.narrow fun q h => Or.inr h) hS9 (fun q h => Or.inr h) (c_X3_nth_badr l hlq D cJ o a c ac re kn d r z r9d r9r r9z hz hbad) ml_L_88 rfl (by decide) (by decide) hl9 (Nat.le_of_ble_eq_true rfl) rfl dL_nth_6 (fun H1 locs1 ce1 q1 hAt1 hS1 hk1 hz1 hc1 hv1 hf1 => ?_)
  have hW1 := hLi9.2.1.kept (hk1 w9 hLi9.2.1.lt (fun z => z.elim hLi9.2.2.1.1 hLi9.2.2.1.2))
  refine zl_catch2 C9 (ht9.trans rfl) (by decide) cl_L_19 hLi9.2.2.2.2.2.2.1 (by decide +kernel) (by decide) cl_L_24 hLi9.2.2.2.2.2.1 hc1 hv1 hf1 ?_
  refine lv_astore C9.1 C9.2.1 (x := q1) dL_nth_20 hl9 (by decide) rfl (fun ls2 hl2 => ?_)
  refine z_iconst C9 dL_nth_22 ?_
  exact zl_ret C9 hAt1 hW1 hS1 hr9 hk9 (Nat.le_of_ble_eq_true rfl) (Nat.le_of_ble_eq_true rfl) dL_nth_23 rfl
set_option maxHeartbeats 4000000 in
set_option maxRecDepth 100000 in
theorem c_L_field_badc (l : Launch) (hlq : l.stackTraces = false) (D : va_G) (cJ : ClassId) (o a : Nat) (c : Nat → Nat) (ac : Int32) (re : Int32) (kn : Int32) (n : Int) (z : Int) (r9n : -2147483648 ≤ n ∧ n ≤ 2147483647) (r9z : -2147483648 ≤ z ∧ z ≤ 2147483647) (hbad : ¬ ((0 ≤ z ∧ z ≤ 5))) (w9 : Nat) (n9 : Int64) (s9 : Value) : zL l yL_field 8 149 1 6 D cJ o a w9 [.ref o, .int (iZ (n)), .int (iZ (z)), .ref w9] c [.int (ac), .int (re), .int (kn)] n9 s9 1 c [.int (ac), .int (re), .int (kn)] n9 s9 := by
  refine zL.intro (lo := 125) (nA := 4) zw_L_field (by decide) rfl rfl (by decide +kernel) rfl (Nat.le_of_ble_eq_true rfl) ?_
  intro p e s m below meth c0 ls C9 hr9 hk9 ht9 hLi9 hS9 hl9
  have hl9 : lv_has ls 5 [(0, .ref o), (1, .int (iZ (n))), (2, .int (iZ (z))), (3, .ref w9)] := hl9
  refine lv_aload_n C9.1 C9.2.1 dL_field_0 rfl (lv_at hl9 3 rfl) ?_
  refine lv_aload_n C9.1 C9.2.1 dL_field_1 rfl (lv_at hl9 0 rfl) ?_
  refine lv_iload_n C9.1 C9.2.1 dL_field_2 rfl (lv_at hl9 1 rfl) ?_
  refine lv_iload_n C9.1 C9.2.1 dL_field_3 rfl (lv_at hl9 2 rfl) ?_
  refine zg_callX (as := [.int (iZ (n)), .int (iZ (z))]) C9 hLi9.1 (hLi9.2.2.2.1.narrow fun q h => Or.inr h) hS9 (fun q h => Or.inr h) (c_X3_field_badc l hlq D cJ o a c ac re kn n z r9n r9z hbad) ml_L_91 rfl (by decide) (by decide) hl9 (Nat.le_of_ble_eq_true rfl) rfl dL_field_4 (fun H1 locs1 ce1 q1 hAt1 hS1 hk1 hz1 hc1 hv1 hf1 => ?_)
  have hW1 := hLi9.2.1.kept (hk1 w9 hLi9.2.1.lt (fun z => z.elim hLi9.2.2.1.1 hLi9.2.2.1.2))
  refine zl_catch1 C9 (ht9.trans rfl) (by decide +kernel) (by decide) cl_L_19 hLi9.2.2.2.2.1 hc1 hv1 hf1 ?_
  refine lv_astore C9.1 C9.2.1 (x := q1) dL_field_14 hl9 (by decide) rfl (fun ls2 hl2 => ?_)
  refine z_iconst C9 dL_field_16 ?_
  exact zl_ret C9 hAt1 hW1 hS1 hr9 hk9 (Nat.le_of_ble_eq_true rfl) (Nat.le_of_ble_eq_true rfl) dL_field_17 rfl
set_option maxHeartbeats 4000000 in
set_option maxRecDepth 100000 in
theorem c_L_field_badr (l : Launch) (hlq : l.stackTraces = false) (D : va_G) (cJ : ClassId) (o a : Nat) (c : Nat → Nat) (ac : Int32) (re : Int32) (kn : Int32) (n : Int) (z : Int) (r9n : -2147483648 ≤ n ∧ n ≤ 2147483647) (r9z : -2147483648 ≤ z ∧ z ≤ 2147483647) (hz : 0 ≤ z ∧ z ≤ 5) (hbad : ¬ ((1 ≤ n ∧ n ≤ 5))) (w9 : Nat) (n9 : Int64) (s9 : Value) : zL l yL_field 8 150 1 6 D cJ o a w9 [.ref o, .int (iZ (n)), .int (iZ (z)), .ref w9] c [.int (ac), .int (re), .int (kn)] n9 s9 2 c [.int (ac), .int (re), .int (kn)] n9 s9 := by
  refine zL.intro (lo := 126) (nA := 4) zw_L_field (by decide) rfl rfl (by decide +kernel) rfl (Nat.le_of_ble_eq_true rfl) ?_
  intro p e s m below meth c0 ls C9 hr9 hk9 ht9 hLi9 hS9 hl9
  have hl9 : lv_has ls 5 [(0, .ref o), (1, .int (iZ (n))), (2, .int (iZ (z))), (3, .ref w9)] := hl9
  refine lv_aload_n C9.1 C9.2.1 dL_field_0 rfl (lv_at hl9 3 rfl) ?_
  refine lv_aload_n C9.1 C9.2.1 dL_field_1 rfl (lv_at hl9 0 rfl) ?_
  refine lv_iload_n C9.1 C9.2.1 dL_field_2 rfl (lv_at hl9 1 rfl) ?_
  refine lv_iload_n C9.1 C9.2.1 dL_field_3 rfl (lv_at hl9 2 rfl) ?_
  refine zg_callX (as := [.int (iZ (n)), .int (iZ (z))]) C9 hLi9.1 (hLi9.2.2.2.1.narrow fun q h => Or.inr h) hS9 (fun q h => Or.inr h) (c_X3_field_badr l hlq D cJ o a c ac re kn n z r9n r9z hz hbad) ml_L_91 rfl (by decide) (by decide) hl9 (Nat.le_of_ble_eq_true rfl) rfl dL_field_4 (fun H1 locs1 ce1 q1 hAt1 hS1 hk1 hz1 hc1 hv1 hf1 => ?_)
  have hW1 := hLi9.2.1.kept (hk1 w9 hLi9.2.1.lt (fun z => z.elim hLi9.2.2.1.1 hLi9.2.2.1.2))
  refine zl_catch2 C9 (ht9.trans rfl) (by decide) cl_L_19 hLi9.2.2.2.2.2.2.1 (by decide +kernel) (by decide) cl_L_24 hLi9.2.2.2.2.2.1 hc1 hv1 hf1 ?_
  refine lv_astore C9.1 C9.2.1 (x := q1) dL_field_18 hl9 (by decide) rfl (fun ls2 hl2 => ?_)
  refine z_iconst C9 dL_field_20 ?_
  exact zl_ret C9 hAt1 hW1 hS1 hr9 hk9 (Nat.le_of_ble_eq_true rfl) (Nat.le_of_ble_eq_true rfl) dL_field_21 rfl
set_option maxHeartbeats 4000000 in
set_option maxRecDepth 100000 in
theorem c_L_again_badc (l : Launch) (hlq : l.stackTraces = false) (D : va_G) (cJ : ClassId) (o a : Nat) (c : Nat → Nat) (ac : Int32) (re : Int32) (kn : Int32) (f : Int) (r : Int) (z : Int) (r9f : -2147483648 ≤ f ∧ f ≤ 2147483647) (r9r : -2147483648 ≤ r ∧ r ≤ 2147483647) (r9z : -2147483648 ≤ z ∧ z ≤ 2147483647) (hbad : ¬ ((0 ≤ f ∧ f ≤ 5) ∧ (0 ≤ z ∧ z ≤ 5))) (w9 : Nat) (n9 : Int64) (s9 : Value) : zL l yL_again 9 174 1 6 D cJ o a w9 [.ref o, .int (iZ (f)), .int (iZ (r)), .int (iZ (z)), .ref w9] c [.int (ac), .int (re), .int (kn)] n9 s9 1 c [.int (ac), .int (re), .int (kn)] n9 s9 := by
  refine zL.intro (lo := 149) (nA := 5) zw_L_again (by decide) rfl rfl (by decide +kernel) rfl (Nat.le_of_ble_eq_true rfl) ?_
  intro p e s m below meth c0 ls C9 hr9 hk9 ht9 hLi9 hS9 hl9
  have hl9 : lv_has ls 6 [(0, .ref o), (1, .int (iZ (f))), (2, .int (iZ (r))), (3, .int (iZ (z))), (4, .ref w9)] := hl9
  refine lv_aload C9.1 C9.2.1 dL_again_0 (lv_at hl9 4 rfl) ?_
  refine lv_aload_n C9.1 C9.2.1 dL_again_2 rfl (lv_at hl9 0 rfl) ?_
  refine lv_iload_n C9.1 C9.2.1 dL_again_3 rfl (lv_at hl9 1 rfl) ?_
  refine lv_iload_n C9.1 C9.2.1 dL_again_4 rfl (lv_at hl9 2 rfl) ?_
  refine lv_iload_n C9.1 C9.2.1 dL_again_5 rfl (lv_at hl9 3 rfl) ?_
  refine zg_callX (as := [.int (iZ (f)), .int (iZ (r)), .int (iZ (z))]) C9 hLi9.1 (hLi9.2.2.2.1.narrow fun q h => Or.inr h) hS9 (fun q h => Or.inr h) (c_X3_again_badc l hlq D cJ o a c ac re kn f r z r9f r9r r9z hbad) ml_L_94 rfl (by decide) (by decide) hl9 (Nat.le_of_ble_eq_true rfl) rfl dL_again_6 (fun H1 locs1 ce1 q1 hAt1 hS1 hk1 hz1 hc1 hv1 hf1 => ?_)
  have hW1 := hLi9.2.1.kept (hk1 w9 hLi9.2.1.lt (fun z => z.elim hLi9.2.2.1.1 hLi9.2.2.1.2))
  refine zl_catch1 C9 (ht9.trans rfl) (by decide +kernel) (by decide) cl_L_19 hLi9.2.2.2.2.1 hc1 hv1 hf1 ?_
  refine lv_astore C9.1 C9.2.1 (x := q1) dL_again_16 hl9 (by decide) rfl (fun ls2 hl2 => ?_)
  refine z_iconst C9 dL_again_18 ?_
  exact zl_ret C9 hAt1 hW1 hS1 hr9 hk9 (Nat.le_of_ble_eq_true rfl) (Nat.le_of_ble_eq_true rfl) dL_again_19 rfl
set_option maxHeartbeats 4000000 in
set_option maxRecDepth 100000 in
theorem c_L_again_badr (l : Launch) (hlq : l.stackTraces = false) (D : va_G) (cJ : ClassId) (o a : Nat) (c : Nat → Nat) (ac : Int32) (re : Int32) (kn : Int32) (f : Int) (r : Int) (z : Int) (r9f : -2147483648 ≤ f ∧ f ≤ 2147483647) (r9r : -2147483648 ≤ r ∧ r ≤ 2147483647) (r9z : -2147483648 ≤ z ∧ z ≤ 2147483647) (hf : 0 ≤ f ∧ f ≤ 5) (hz : 0 ≤ z ∧ z ≤ 5) (hbad : ¬ ((2 ≤ r ∧ r ≤ 36))) (w9 : Nat) (n9 : Int64) (s9 : Value) : zL l yL_again 8 154 1 6 D cJ o a w9 [.ref o, .int (iZ (f)), .int (iZ (r)), .int (iZ (z)), .ref w9] c [.int (ac), .int (re), .int (kn)] n9 s9 2 c [.int (ac), .int (re), .int (kn)] n9 s9 := by
  refine zL.intro (lo := 129) (nA := 5) zw_L_again (by decide) rfl rfl (by decide +kernel) rfl (Nat.le_of_ble_eq_true rfl) ?_
  intro p e s m below meth c0 ls C9 hr9 hk9 ht9 hLi9 hS9 hl9
  have hl9 : lv_has ls 6 [(0, .ref o), (1, .int (iZ (f))), (2, .int (iZ (r))), (3, .int (iZ (z))), (4, .ref w9)] := hl9
  refine lv_aload C9.1 C9.2.1 dL_again_0 (lv_at hl9 4 rfl) ?_
  refine lv_aload_n C9.1 C9.2.1 dL_again_2 rfl (lv_at hl9 0 rfl) ?_
  refine lv_iload_n C9.1 C9.2.1 dL_again_3 rfl (lv_at hl9 1 rfl) ?_
  refine lv_iload_n C9.1 C9.2.1 dL_again_4 rfl (lv_at hl9 2 rfl) ?_
  refine lv_iload_n C9.1 C9.2.1 dL_again_5 rfl (lv_at hl9 3 rfl) ?_
  refine zg_callX (as := [.int (iZ (f)), .int (iZ (r)), .int (iZ (z))]) C9 hLi9.1 (hLi9.2.2.2.1.narrow fun q h => Or.inr h) hS9 (fun q h => Or.inr h) (c_X3_again_badr l hlq D cJ o a c ac re kn f r z r9f r9r r9z hf hz hbad) ml_L_94 rfl (by decide) (by decide) hl9 (Nat.le_of_ble_eq_true rfl) rfl dL_again_6 (fun H1 locs1 ce1 q1 hAt1 hS1 hk1 hz1 hc1 hv1 hf1 => ?_)
  have hW1 := hLi9.2.1.kept (hk1 w9 hLi9.2.1.lt (fun z => z.elim hLi9.2.2.1.1 hLi9.2.2.1.2))
  refine zl_catch2 C9 (ht9.trans rfl) (by decide) cl_L_19 hLi9.2.2.2.2.2.2.1 (by decide +kernel) (by decide) cl_L_24 hLi9.2.2.2.2.2.1 hc1 hv1 hf1 ?_
  refine lv_astore C9.1 C9.2.1 (x := q1) dL_again_20 hl9 (by decide) rfl (fun ls2 hl2 => ?_)
  refine z_iconst C9 dL_again_22 ?_
  exact zl_ret C9 hAt1 hW1 hS1 hr9 hk9 (Nat.le_of_ble_eq_true rfl) (Nat.le_of_ble_eq_true rfl) dL_again_23 rfl
set_option maxHeartbeats 4000000 in
set_option maxRecDepth 100000 in
theorem c_L_degree_badc (l : Launch) (hlq : l.stackTraces = false) (D : va_G) (cJ : ClassId) (o a : Nat) (c : Nat → Nat) (ac : Int32) (re : Int32) (kn : Int32) (z : Int) (r9z : -2147483648 ≤ z ∧ z ≤ 2147483647) (hbad : ¬ ((0 ≤ z ∧ z ≤ 5))) (w9 : Nat) (n9 : Int64) (s9 : Value) : zL l yL_degree 9 168 1 6 D cJ o a w9 [.ref o, .int (iZ (z)), .ref w9] c [.int (ac), .int (re), .int (kn)] n9 s9 1 c [.int (ac), .int (re), .int (kn)] n9 s9 := by
  refine zL.intro (lo := 145) (nA := 3) zw_L_degree (by decide) rfl rfl (by decide +kernel) rfl (Nat.le_of_ble_eq_true rfl) ?_
  intro p e s m below meth c0 ls C9 hr9 hk9 ht9 hLi9 hS9 hl9
  have hl9 : lv_has ls 4 [(0, .ref o), (1, .int (iZ (z))), (2, .ref w9)] := hl9
  refine lv_aload_n C9.1 C9.2.1 dL_degree_0 rfl (lv_at hl9 2 rfl) ?_
  refine lv_aload_n C9.1 C9.2.1 dL_degree_1 rfl (lv_at hl9 0 rfl) ?_
  refine lv_iload_n C9.1 C9.2.1 dL_degree_2 rfl (lv_at hl9 1 rfl) ?_
  refine zg_callX (as := [.int (iZ (z))]) C9 hLi9.1 (hLi9.2.2.2.1.narrow fun q h => Or.inr h) hS9 (fun q h => Or.inr h) (c_X3_degree_badc l hlq D cJ o a c ac re kn z r9z hbad) ml_L_97 rfl (by decide) (by decide) hl9 (Nat.le_of_ble_eq_true rfl) rfl dL_degree_3 (fun H1 locs1 ce1 q1 hAt1 hS1 hk1 hz1 hc1 hv1 hf1 => ?_)
  have hW1 := hLi9.2.1.kept (hk1 w9 hLi9.2.1.lt (fun z => z.elim hLi9.2.2.1.1 hLi9.2.2.1.2))
  refine zl_catch1 C9 (ht9.trans rfl) (by decide +kernel) (by decide) cl_L_19 hLi9.2.2.2.2.1 hc1 hv1 hf1 ?_
  refine lv_astore_n C9.1 C9.2.1 (x := q1) dL_degree_13 rfl hl9 (by decide) rfl (fun ls2 hl2 => ?_)
  refine z_iconst C9 dL_degree_14 ?_
  exact zl_ret C9 hAt1 hW1 hS1 hr9 hk9 (Nat.le_of_ble_eq_true rfl) (Nat.le_of_ble_eq_true rfl) dL_degree_15 rfl
set_option maxHeartbeats 4000000 in
set_option maxRecDepth 100000 in
theorem c_L_low_badc (l : Launch) (hlq : l.stackTraces = false) (D : va_G) (cJ : ClassId) (o a : Nat) (c : Nat → Nat) (ac : Int32) (re : Int32) (kn : Int32) (z : Int) (r9z : -2147483648 ≤ z ∧ z ≤ 2147483647) (hbad : ¬ ((0 ≤ z ∧ z ≤ 5))) (w9 : Nat) (n9 : Int64) (s9 : Value) : zL l yL_low 9 168 1 6 D cJ o a w9 [.ref o, .int (iZ (z)), .ref w9] c [.int (ac), .int (re), .int (kn)] n9 s9 1 c [.int (ac), .int (re), .int (kn)] n9 s9 := by
  refine zL.intro (lo := 145) (nA := 3) zw_L_low (by decide) rfl rfl (by decide +kernel) rfl (Nat.le_of_ble_eq_true rfl) ?_
  intro p e s m below meth c0 ls C9 hr9 hk9 ht9 hLi9 hS9 hl9
  have hl9 : lv_has ls 4 [(0, .ref o), (1, .int (iZ (z))), (2, .ref w9)] := hl9
  refine lv_aload_n C9.1 C9.2.1 dL_low_0 rfl (lv_at hl9 2 rfl) ?_
  refine lv_aload_n C9.1 C9.2.1 dL_low_1 rfl (lv_at hl9 0 rfl) ?_
  refine lv_iload_n C9.1 C9.2.1 dL_low_2 rfl (lv_at hl9 1 rfl) ?_
  refine zg_callX (as := [.int (iZ (z))]) C9 hLi9.1 (hLi9.2.2.2.1.narrow fun q h => Or.inr h) hS9 (fun q h => Or.inr h) (c_X3_low_badc l hlq D cJ o a c ac re kn z r9z hbad) ml_L_101 rfl (by decide) (by decide) hl9 (Nat.le_of_ble_eq_true rfl) rfl dL_low_3 (fun H1 locs1 ce1 q1 hAt1 hS1 hk1 hz1 hc1 hv1 hf1 => ?_)
  have hW1 := hLi9.2.1.kept (hk1 w9 hLi9.2.1.lt (fun z => z.elim hLi9.2.2.1.1 hLi9.2.2.1.2))
  refine zl_catch1 C9 (ht9.trans rfl) (by decide +kernel) (by decide) cl_L_19 hLi9.2.2.2.2.1 hc1 hv1 hf1 ?_
  refine lv_astore_n C9.1 C9.2.1 (x := q1) dL_low_13 rfl hl9 (by decide) rfl (fun ls2 hl2 => ?_)
  refine z_iconst C9 dL_low_14 ?_
  exact zl_ret C9 hAt1 hW1 hS1 hr9 hk9 (Nat.le_of_ble_eq_true rfl) (Nat.le_of_ble_eq_true rfl) dL_low_15 rfl
set_option maxHeartbeats 4000000 in
set_option maxRecDepth 100000 in
theorem c_L_weight_badc (l : Launch) (hlq : l.stackTraces = false) (D : va_G) (cJ : ClassId) (o a : Nat) (c : Nat → Nat) (ac : Int32) (re : Int32) (kn : Int32) (z : Int) (r9z : -2147483648 ≤ z ∧ z ≤ 2147483647) (hbad : ¬ ((0 ≤ z ∧ z ≤ 5))) (w9 : Nat) (n9 : Int64) (s9 : Value) : zL l yL_weight 9 168 1 6 D cJ o a w9 [.ref o, .int (iZ (z)), .ref w9] c [.int (ac), .int (re), .int (kn)] n9 s9 1 c [.int (ac), .int (re), .int (kn)] n9 s9 := by
  refine zL.intro (lo := 145) (nA := 3) zw_L_weight (by decide) rfl rfl (by decide +kernel) rfl (Nat.le_of_ble_eq_true rfl) ?_
  intro p e s m below meth c0 ls C9 hr9 hk9 ht9 hLi9 hS9 hl9
  have hl9 : lv_has ls 4 [(0, .ref o), (1, .int (iZ (z))), (2, .ref w9)] := hl9
  refine lv_aload_n C9.1 C9.2.1 dL_weight_0 rfl (lv_at hl9 2 rfl) ?_
  refine lv_aload_n C9.1 C9.2.1 dL_weight_1 rfl (lv_at hl9 0 rfl) ?_
  refine lv_iload_n C9.1 C9.2.1 dL_weight_2 rfl (lv_at hl9 1 rfl) ?_
  refine zg_callX (as := [.int (iZ (z))]) C9 hLi9.1 (hLi9.2.2.2.1.narrow fun q h => Or.inr h) hS9 (fun q h => Or.inr h) (c_X3_weight_badc l hlq D cJ o a c ac re kn z r9z hbad) ml_L_104 rfl (by decide) (by decide) hl9 (Nat.le_of_ble_eq_true rfl) rfl dL_weight_3 (fun H1 locs1 ce1 q1 hAt1 hS1 hk1 hz1 hc1 hv1 hf1 => ?_)
  have hW1 := hLi9.2.1.kept (hk1 w9 hLi9.2.1.lt (fun z => z.elim hLi9.2.2.1.1 hLi9.2.2.1.2))
  refine zl_catch1 C9 (ht9.trans rfl) (by decide +kernel) (by decide) cl_L_19 hLi9.2.2.2.2.1 hc1 hv1 hf1 ?_
  refine lv_astore_n C9.1 C9.2.1 (x := q1) dL_weight_13 rfl hl9 (by decide) rfl (fun ls2 hl2 => ?_)
  refine z_iconst C9 dL_weight_14 ?_
  exact zl_ret C9 hAt1 hW1 hS1 hr9 hk9 (Nat.le_of_ble_eq_true rfl) (Nat.le_of_ble_eq_true rfl) dL_weight_15 rfl
set_option maxHeartbeats 4000000 in
set_option maxRecDepth 100000 in
theorem c_L_digits_badc (l : Launch) (hlq : l.stackTraces = false) (D : va_G) (cJ : ClassId) (o a : Nat) (c : Nat → Nat) (ac : Int32) (re : Int32) (kn : Int32) (z : Int) (r9z : -2147483648 ≤ z ∧ z ≤ 2147483647) (hbad : ¬ ((0 ≤ z ∧ z ≤ 5))) (w9 : Nat) (n9 : Int64) (s9 : Value) : zL l yL_digits 9 168 1 6 D cJ o a w9 [.ref o, .int (iZ (z)), .ref w9] c [.int (ac), .int (re), .int (kn)] n9 s9 1 c [.int (ac), .int (re), .int (kn)] n9 s9 := by
  refine zL.intro (lo := 145) (nA := 3) zw_L_digits (by decide) rfl rfl (by decide +kernel) rfl (Nat.le_of_ble_eq_true rfl) ?_
  intro p e s m below meth c0 ls C9 hr9 hk9 ht9 hLi9 hS9 hl9
  have hl9 : lv_has ls 4 [(0, .ref o), (1, .int (iZ (z))), (2, .ref w9)] := hl9
  refine lv_aload_n C9.1 C9.2.1 dL_digits_0 rfl (lv_at hl9 2 rfl) ?_
  refine lv_aload_n C9.1 C9.2.1 dL_digits_1 rfl (lv_at hl9 0 rfl) ?_
  refine lv_iload_n C9.1 C9.2.1 dL_digits_2 rfl (lv_at hl9 1 rfl) ?_
  refine zg_callX (as := [.int (iZ (z))]) C9 hLi9.1 (hLi9.2.2.2.1.narrow fun q h => Or.inr h) hS9 (fun q h => Or.inr h) (c_X3_digits_badc l hlq D cJ o a c ac re kn z r9z hbad) ml_L_110 rfl (by decide) (by decide) hl9 (Nat.le_of_ble_eq_true rfl) rfl dL_digits_3 (fun H1 locs1 ce1 q1 hAt1 hS1 hk1 hz1 hc1 hv1 hf1 => ?_)
  have hW1 := hLi9.2.1.kept (hk1 w9 hLi9.2.1.lt (fun z => z.elim hLi9.2.2.1.1 hLi9.2.2.1.2))
  refine zl_catch1 C9 (ht9.trans rfl) (by decide +kernel) (by decide) cl_L_19 hLi9.2.2.2.2.1 hc1 hv1 hf1 ?_
  refine lv_astore_n C9.1 C9.2.1 (x := q1) dL_digits_13 rfl hl9 (by decide) rfl (fun ls2 hl2 => ?_)
  refine z_iconst C9 dL_digits_14 ?_
  exact zl_ret C9 hAt1 hW1 hS1 hr9 hk9 (Nat.le_of_ble_eq_true rfl) (Nat.le_of_ble_eq_true rfl) dL_digits_15 rfl
set_option maxHeartbeats 4000000 in
set_option maxRecDepth 100000 in
theorem c_L_at_badc (l : Launch) (hlq : l.stackTraces = false) (D : va_G) (cJ : ClassId) (o a : Nat) (c : Nat → Nat) (ac : Int32) (re : Int32) (kn : Int32) (z : Int) (g : Int) (r9z : -2147483648 ≤ z ∧ z ≤ 2147483647) (r9g : -2147483648 ≤ g ∧ g ≤ 2147483647) (hbad : ¬ ((0 ≤ z ∧ z ≤ 5))) (w9 : Nat) (n9 : Int64) (s9 : Value) : zL l yL_at 9 172 1 6 D cJ o a w9 [.ref o, .int (iZ (z)), .int (iZ (g)), .ref w9] c [.int (ac), .int (re), .int (kn)] n9 s9 1 c [.int (ac), .int (re), .int (kn)] n9 s9 := by
  refine zL.intro (lo := 148) (nA := 4) zw_L_at (by decide) rfl rfl (by decide +kernel) rfl (Nat.le_of_ble_eq_true rfl) ?_
  intro p e s m below meth c0 ls C9 hr9 hk9 ht9 hLi9 hS9 hl9
  have hl9 : lv_has ls 5 [(0, .ref o), (1, .int (iZ (z))), (2, .int (iZ (g))), (3, .ref w9)] := hl9
  refine lv_aload_n C9.1 C9.2.1 dL_at_0 rfl (lv_at hl9 3 rfl) ?_
  refine lv_aload_n C9.1 C9.2.1 dL_at_1 rfl (lv_at hl9 0 rfl) ?_
  refine lv_iload_n C9.1 C9.2.1 dL_at_2 rfl (lv_at hl9 1 rfl) ?_
  refine lv_iload_n C9.1 C9.2.1 dL_at_3 rfl (lv_at hl9 2 rfl) ?_
  refine zg_callX (as := [.int (iZ (z)), .int (iZ (g))]) C9 hLi9.1 (hLi9.2.2.2.1.narrow fun q h => Or.inr h) hS9 (fun q h => Or.inr h) (c_X3_at_badc l hlq D cJ o a c ac re kn z g r9z r9g hbad) ml_L_107 rfl (by decide) (by decide) hl9 (Nat.le_of_ble_eq_true rfl) rfl dL_at_4 (fun H1 locs1 ce1 q1 hAt1 hS1 hk1 hz1 hc1 hv1 hf1 => ?_)
  have hW1 := hLi9.2.1.kept (hk1 w9 hLi9.2.1.lt (fun z => z.elim hLi9.2.2.1.1 hLi9.2.2.1.2))
  refine zl_catch1 C9 (ht9.trans rfl) (by decide +kernel) (by decide) cl_L_19 hLi9.2.2.2.2.1 hc1 hv1 hf1 ?_
  refine lv_astore C9.1 C9.2.1 (x := q1) dL_at_21 hl9 (by decide) rfl (fun ls2 hl2 => ?_)
  refine z_iconst C9 dL_at_23 ?_
  exact zl_ret C9 hAt1 hW1 hS1 hr9 hk9 (Nat.le_of_ble_eq_true rfl) (Nat.le_of_ble_eq_true rfl) dL_at_24 rfl
set_option maxHeartbeats 4000000 in
set_option maxRecDepth 100000 in
theorem c_L_at_badr (l : Launch) (hlq : l.stackTraces = false) (D : va_G) (cJ : ClassId) (o a : Nat) (c : Nat → Nat) (ac : Int32) (re : Int32) (kn : Int32) (z : Int) (g : Int) (r9z : -2147483648 ≤ z ∧ z ≤ 2147483647) (r9g : -2147483648 ≤ g ∧ g ≤ 2147483647) (hz : 0 ≤ z ∧ z ≤ 5) (hbad : ¬ ((0 ≤ g ∧ g ≤ 99))) (w9 : Nat) (n9 : Int64) (s9 : Value) : zL l yL_at 8 152 1 6 D cJ o a w9 [.ref o, .int (iZ (z)), .int (iZ (g)), .ref w9] c [.int (ac), .int (re), .int (kn)] n9 s9 2 c [.int (ac), .int (re), .int (kn)] n9 s9 := by
  refine zL.intro (lo := 128) (nA := 4) zw_L_at (by decide) rfl rfl (by decide +kernel) rfl (Nat.le_of_ble_eq_true rfl) ?_
  intro p e s m below meth c0 ls C9 hr9 hk9 ht9 hLi9 hS9 hl9
  have hl9 : lv_has ls 5 [(0, .ref o), (1, .int (iZ (z))), (2, .int (iZ (g))), (3, .ref w9)] := hl9
  refine lv_aload_n C9.1 C9.2.1 dL_at_0 rfl (lv_at hl9 3 rfl) ?_
  refine lv_aload_n C9.1 C9.2.1 dL_at_1 rfl (lv_at hl9 0 rfl) ?_
  refine lv_iload_n C9.1 C9.2.1 dL_at_2 rfl (lv_at hl9 1 rfl) ?_
  refine lv_iload_n C9.1 C9.2.1 dL_at_3 rfl (lv_at hl9 2 rfl) ?_
  refine zg_callX (as := [.int (iZ (z)), .int (iZ (g))]) C9 hLi9.1 (hLi9.2.2.2.1.narrow fun q h => Or.inr h) hS9 (fun q h => Or.inr h) (c_X3_at_badr l hlq D cJ o a c ac re kn z g r9z r9g hz hbad) ml_L_107 rfl (by decide) (by decide) hl9 (Nat.le_of_ble_eq_true rfl) rfl dL_at_4 (fun H1 locs1 ce1 q1 hAt1 hS1 hk1 hz1 hc1 hv1 hf1 => ?_)
  have hW1 := hLi9.2.1.kept (hk1 w9 hLi9.2.1.lt (fun z => z.elim hLi9.2.2.1.1 hLi9.2.2.1.2))
  refine zl_catch2 C9 (ht9.trans rfl) (by decide) cl_L_19 hLi9.2.2.2.2.2.2.1 (by decide +kernel) (by decide) cl_L_24 hLi9.2.2.2.2.2.1 hc1 hv1 hf1 ?_
  refine lv_astore C9.1 C9.2.1 (x := q1) dL_at_25 hl9 (by decide) rfl (fun ls2 hl2 => ?_)
  refine z_iconst C9 dL_at_27 ?_
  exact zl_ret C9 hAt1 hW1 hS1 hr9 hk9 (Nat.le_of_ble_eq_true rfl) (Nat.le_of_ble_eq_true rfl) dL_at_28 rfl
set_option maxHeartbeats 4000000 in
set_option maxRecDepth 100000 in
theorem c_L_order_badc (l : Launch) (hlq : l.stackTraces = false) (D : va_G) (cJ : ClassId) (o a : Nat) (c : Nat → Nat) (ac : Int32) (re : Int32) (kn : Int32) (f : Int) (z : Int) (r9f : -2147483648 ≤ f ∧ f ≤ 2147483647) (r9z : -2147483648 ≤ z ∧ z ≤ 2147483647) (hbad : ¬ ((0 ≤ f ∧ f ≤ 5) ∧ (0 ≤ z ∧ z ≤ 5))) (w9 : Nat) (n9 : Int64) (s9 : Value) : zL l yL_order 9 174 1 6 D cJ o a w9 [.ref o, .int (iZ (f)), .int (iZ (z)), .ref w9] c [.int (ac), .int (re), .int (kn)] n9 s9 1 c [.int (ac), .int (re), .int (kn)] n9 s9 := by
  refine zL.intro (lo := 150) (nA := 4) zw_L_order (by decide) rfl rfl (by decide +kernel) rfl (Nat.le_of_ble_eq_true rfl) ?_
  intro p e s m below meth c0 ls C9 hr9 hk9 ht9 hLi9 hS9 hl9
  have hl9 : lv_has ls 5 [(0, .ref o), (1, .int (iZ (f))), (2, .int (iZ (z))), (3, .ref w9)] := hl9
  refine lv_aload_n C9.1 C9.2.1 dL_order_0 rfl (lv_at hl9 3 rfl) ?_
  refine lv_aload_n C9.1 C9.2.1 dL_order_1 rfl (lv_at hl9 0 rfl) ?_
  refine lv_iload_n C9.1 C9.2.1 dL_order_2 rfl (lv_at hl9 1 rfl) ?_
  refine lv_iload_n C9.1 C9.2.1 dL_order_3 rfl (lv_at hl9 2 rfl) ?_
  refine zg_callX (as := [.int (iZ (f)), .int (iZ (z))]) C9 hLi9.1 (hLi9.2.2.2.1.narrow fun q h => Or.inr h) hS9 (fun q h => Or.inr h) (c_X3_order_badc l hlq D cJ o a c ac re kn f z r9f r9z hbad) ml_L_125 rfl (by decide) (by decide) hl9 (Nat.le_of_ble_eq_true rfl) rfl dL_order_4 (fun H1 locs1 ce1 q1 hAt1 hS1 hk1 hz1 hc1 hv1 hf1 => ?_)
  have hW1 := hLi9.2.1.kept (hk1 w9 hLi9.2.1.lt (fun z => z.elim hLi9.2.2.1.1 hLi9.2.2.1.2))
  refine zl_catch1 C9 (ht9.trans rfl) (by decide +kernel) (by decide) cl_L_19 hLi9.2.2.2.2.1 hc1 hv1 hf1 ?_
  refine lv_astore C9.1 C9.2.1 (x := q1) dL_order_14 hl9 (by decide) rfl (fun ls2 hl2 => ?_)
  refine z_iconst C9 dL_order_16 ?_
  exact zl_ret C9 hAt1 hW1 hS1 hr9 hk9 (Nat.le_of_ble_eq_true rfl) (Nat.le_of_ble_eq_true rfl) dL_order_17 rfl
set_option maxHeartbeats 4000000 in
set_option maxRecDepth 100000 in
theorem c_L_isSame_badc (l : Launch) (hlq : l.stackTraces = false) (D : va_G) (cJ : ClassId) (o a : Nat) (c : Nat → Nat) (ac : Int32) (re : Int32) (kn : Int32) (f : Int) (z : Int) (r9f : -2147483648 ≤ f ∧ f ≤ 2147483647) (r9z : -2147483648 ≤ z ∧ z ≤ 2147483647) (hbad : ¬ ((0 ≤ f ∧ f ≤ 5) ∧ (0 ≤ z ∧ z ≤ 5))) (w9 : Nat) (n9 : Int64) (s9 : Value) : zL l yL_isSame 9 170 1 6 D cJ o a w9 [.ref o, .int (iZ (f)), .int (iZ (z)), .ref w9] c [.int (ac), .int (re), .int (kn)] n9 s9 1 c [.int (ac), .int (re), .int (kn)] n9 s9 := by
  refine zL.intro (lo := 146) (nA := 4) zw_L_isSame (by decide) rfl rfl (by decide +kernel) rfl (Nat.le_of_ble_eq_true rfl) ?_
  intro p e s m below meth c0 ls C9 hr9 hk9 ht9 hLi9 hS9 hl9
  have hl9 : lv_has ls 5 [(0, .ref o), (1, .int (iZ (f))), (2, .int (iZ (z))), (3, .ref w9)] := hl9
  refine lv_aload_n C9.1 C9.2.1 dL_isSame_0 rfl (lv_at hl9 3 rfl) ?_
  refine lv_aload_n C9.1 C9.2.1 dL_isSame_1 rfl (lv_at hl9 0 rfl) ?_
  refine lv_iload_n C9.1 C9.2.1 dL_isSame_2 rfl (lv_at hl9 1 rfl) ?_
  refine lv_iload_n C9.1 C9.2.1 dL_isSame_3 rfl (lv_at hl9 2 rfl) ?_
  refine zg_callX (as := [.int (iZ (f)), .int (iZ (z))]) C9 hLi9.1 (hLi9.2.2.2.1.narrow fun q h => Or.inr h) hS9 (fun q h => Or.inr h) (c_X3_isSame_badc l hlq D cJ o a c ac re kn f z r9f r9z hbad) ml_L_128 rfl (by decide) (by decide) hl9 (Nat.le_of_ble_eq_true rfl) rfl dL_isSame_4 (fun H1 locs1 ce1 q1 hAt1 hS1 hk1 hz1 hc1 hv1 hf1 => ?_)
  have hW1 := hLi9.2.1.kept (hk1 w9 hLi9.2.1.lt (fun z => z.elim hLi9.2.2.1.1 hLi9.2.2.1.2))
  refine zl_catch1 C9 (ht9.trans rfl) (by decide +kernel) (by decide) cl_L_19 hLi9.2.2.2.2.1 hc1 hv1 hf1 ?_
  refine lv_astore C9.1 C9.2.1 (x := q1) dL_isSame_21 hl9 (by decide) rfl (fun ls2 hl2 => ?_)
  refine z_iconst C9 dL_isSame_23 ?_
  exact zl_ret C9 hAt1 hW1 hS1 hr9 hk9 (Nat.le_of_ble_eq_true rfl) (Nat.le_of_ble_eq_true rfl) dL_isSame_24 rfl
set_option maxHeartbeats 4000000 in
set_option maxRecDepth 100000 in
theorem c_L_value_badc (l : Launch) (hlq : l.stackTraces = false) (D : va_G) (cJ : ClassId) (o a : Nat) (c : Nat → Nat) (ac : Int32) (re : Int32) (kn : Int32) (z : Int) (b : Bool) (r9z : -2147483648 ≤ z ∧ z ≤ 2147483647) (hbad : ¬ ((0 ≤ z ∧ z ≤ 5))) (w9 : Nat) (n9 : Int64) (s9 : Value) : zL l yL_value 9 172 1 6 D cJ o a w9 [.ref o, .int (iZ (z)), .int (iZ (zB (b))), .ref w9] c [.int (ac), .int (re), .int (kn)] n9 s9 1 c [.int (ac), .int (re), .int (kn)] n9 s9 := by
  refine zL.intro (lo := 148) (nA := 4) zw_L_value (by decide) rfl rfl (by decide +kernel) rfl (Nat.le_of_ble_eq_true rfl) ?_
  intro p e s m below meth c0 ls C9 hr9 hk9 ht9 hLi9 hS9 hl9
  have hl9 : lv_has ls 5 [(0, .ref o), (1, .int (iZ (z))), (2, .int (iZ (zB (b)))), (3, .ref w9)] := hl9
  refine lv_aload_n C9.1 C9.2.1 dL_value_0 rfl (lv_at hl9 3 rfl) ?_
  refine lv_aload_n C9.1 C9.2.1 dL_value_1 rfl (lv_at hl9 0 rfl) ?_
  refine lv_iload_n C9.1 C9.2.1 dL_value_2 rfl (lv_at hl9 1 rfl) ?_
  refine lv_iload_n C9.1 C9.2.1 dL_value_3 rfl (lv_at hl9 2 rfl) ?_
  refine zg_callX (as := [.int (iZ (z)), .int (iZ (zB (b)))]) C9 hLi9.1 (hLi9.2.2.2.1.narrow fun q h => Or.inr h) hS9 (fun q h => Or.inr h) (c_X3_value_badc l hlq D cJ o a c ac re kn z b r9z hbad) ml_L_131 rfl (by decide) (by decide) hl9 (Nat.le_of_ble_eq_true rfl) rfl dL_value_4 (fun H1 locs1 ce1 q1 hAt1 hS1 hk1 hz1 hc1 hv1 hf1 => ?_)
  have hW1 := hLi9.2.1.kept (hk1 w9 hLi9.2.1.lt (fun z => z.elim hLi9.2.2.1.1 hLi9.2.2.1.2))
  refine zl_catch1 C9 (ht9.trans rfl) (by decide +kernel) (by decide) cl_L_19 hLi9.2.2.2.2.1 hc1 hv1 hf1 ?_
  refine lv_astore C9.1 C9.2.1 (x := q1) dL_value_14 hl9 (by decide) rfl (fun ls2 hl2 => ?_)
  refine z_iconst C9 dL_value_16 ?_
  exact zl_ret C9 hAt1 hW1 hS1 hr9 hk9 (Nat.le_of_ble_eq_true rfl) (Nat.le_of_ble_eq_true rfl) dL_value_17 rfl
set_option maxHeartbeats 4000000 in
set_option maxRecDepth 100000 in
theorem c_L_divides_badc (l : Launch) (hlq : l.stackTraces = false) (D : va_G) (cJ : ClassId) (o a : Nat) (c : Nat → Nat) (ac : Int32) (re : Int32) (kn : Int32) (f : Int) (z : Int) (r9f : -2147483648 ≤ f ∧ f ≤ 2147483647) (r9z : -2147483648 ≤ z ∧ z ≤ 2147483647) (hbad : ¬ ((0 ≤ f ∧ f ≤ 5) ∧ (0 ≤ z ∧ z ≤ 5))) (w9 : Nat) (n9 : Int64) (s9 : Value) : zL l yL_divides 9 170 1 6 D cJ o a w9 [.ref o, .int (iZ (f)), .int (iZ (z)), .ref w9] c [.int (ac), .int (re), .int (kn)] n9 s9 1 c [.int (ac), .int (re), .int (kn)] n9 s9 := by
  refine zL.intro (lo := 146) (nA := 4) zw_L_divides (by decide) rfl rfl (by decide +kernel) rfl (Nat.le_of_ble_eq_true rfl) ?_
  intro p e s m below meth c0 ls C9 hr9 hk9 ht9 hLi9 hS9 hl9
  have hl9 : lv_has ls 5 [(0, .ref o), (1, .int (iZ (f))), (2, .int (iZ (z))), (3, .ref w9)] := hl9
  refine lv_aload_n C9.1 C9.2.1 dL_divides_0 rfl (lv_at hl9 3 rfl) ?_
  refine lv_aload_n C9.1 C9.2.1 dL_divides_1 rfl (lv_at hl9 0 rfl) ?_
  refine lv_iload_n C9.1 C9.2.1 dL_divides_2 rfl (lv_at hl9 1 rfl) ?_
  refine lv_iload_n C9.1 C9.2.1 dL_divides_3 rfl (lv_at hl9 2 rfl) ?_
  refine zg_callX (as := [.int (iZ (f)), .int (iZ (z))]) C9 hLi9.1 (hLi9.2.2.2.1.narrow fun q h => Or.inr h) hS9 (fun q h => Or.inr h) (c_X3_divides_badc l hlq D cJ o a c ac re kn f z r9f r9z hbad) ml_L_135 rfl (by decide) (by decide) hl9 (Nat.le_of_ble_eq_true rfl) rfl dL_divides_4 (fun H1 locs1 ce1 q1 hAt1 hS1 hk1 hz1 hc1 hv1 hf1 => ?_)
  have hW1 := hLi9.2.1.kept (hk1 w9 hLi9.2.1.lt (fun z => z.elim hLi9.2.2.1.1 hLi9.2.2.1.2))
  refine zl_catch1 C9 (ht9.trans rfl) (by decide +kernel) (by decide) cl_L_19 hLi9.2.2.2.2.1 hc1 hv1 hf1 ?_
  refine lv_astore C9.1 C9.2.1 (x := q1) dL_divides_21 hl9 (by decide) rfl (fun ls2 hl2 => ?_)
  refine z_iconst C9 dL_divides_23 ?_
  exact zl_ret C9 hAt1 hW1 hS1 hr9 hk9 (Nat.le_of_ble_eq_true rfl) (Nat.le_of_ble_eq_true rfl) dL_divides_24 rfl
set_option maxHeartbeats 4000000 in
set_option maxRecDepth 100000 in
theorem c_L_isFree_badc (l : Launch) (hlq : l.stackTraces = false) (D : va_G) (cJ : ClassId) (o a : Nat) (c : Nat → Nat) (ac : Int32) (re : Int32) (kn : Int32) (z : Int) (r9z : -2147483648 ≤ z ∧ z ≤ 2147483647) (hbad : ¬ ((0 ≤ z ∧ z ≤ 5))) (w9 : Nat) (n9 : Int64) (s9 : Value) : zL l yL_isFree 9 170 1 6 D cJ o a w9 [.ref o, .int (iZ (z)), .ref w9] c [.int (ac), .int (re), .int (kn)] n9 s9 1 c [.int (ac), .int (re), .int (kn)] n9 s9 := by
  refine zL.intro (lo := 147) (nA := 3) zw_L_isFree (by decide) rfl rfl (by decide +kernel) rfl (Nat.le_of_ble_eq_true rfl) ?_
  intro p e s m below meth c0 ls C9 hr9 hk9 ht9 hLi9 hS9 hl9
  have hl9 : lv_has ls 4 [(0, .ref o), (1, .int (iZ (z))), (2, .ref w9)] := hl9
  refine lv_aload_n C9.1 C9.2.1 dL_isFree_0 rfl (lv_at hl9 2 rfl) ?_
  refine lv_aload_n C9.1 C9.2.1 dL_isFree_1 rfl (lv_at hl9 0 rfl) ?_
  refine lv_iload_n C9.1 C9.2.1 dL_isFree_2 rfl (lv_at hl9 1 rfl) ?_
  refine zg_callX (as := [.int (iZ (z))]) C9 hLi9.1 (hLi9.2.2.2.1.narrow fun q h => Or.inr h) hS9 (fun q h => Or.inr h) (c_X3_isFree_badc l hlq D cJ o a c ac re kn z r9z hbad) ml_L_138 rfl (by decide) (by decide) hl9 (Nat.le_of_ble_eq_true rfl) rfl dL_isFree_3 (fun H1 locs1 ce1 q1 hAt1 hS1 hk1 hz1 hc1 hv1 hf1 => ?_)
  have hW1 := hLi9.2.1.kept (hk1 w9 hLi9.2.1.lt (fun z => z.elim hLi9.2.2.1.1 hLi9.2.2.1.2))
  refine zl_catch1 C9 (ht9.trans rfl) (by decide +kernel) (by decide) cl_L_19 hLi9.2.2.2.2.1 hc1 hv1 hf1 ?_
  refine lv_astore_n C9.1 C9.2.1 (x := q1) dL_isFree_20 rfl hl9 (by decide) rfl (fun ls2 hl2 => ?_)
  refine z_iconst C9 dL_isFree_21 ?_
  exact zl_ret C9 hAt1 hW1 hS1 hr9 hk9 (Nat.le_of_ble_eq_true rfl) (Nat.le_of_ble_eq_true rfl) dL_isFree_22 rfl
set_option maxHeartbeats 4000000 in
set_option maxRecDepth 100000 in
theorem c_L_irreducible_badc (l : Launch) (hlq : l.stackTraces = false) (D : va_G) (cJ : ClassId) (o a : Nat) (c : Nat → Nat) (ac : Int32) (re : Int32) (kn : Int32) (z : Int) (r9z : -2147483648 ≤ z ∧ z ≤ 2147483647) (hbad : ¬ ((0 ≤ z ∧ z ≤ 5))) (w9 : Nat) (n9 : Int64) (s9 : Value) : zL l yL_irreducible 9 170 1 6 D cJ o a w9 [.ref o, .int (iZ (z)), .ref w9] c [.int (ac), .int (re), .int (kn)] n9 s9 1 c [.int (ac), .int (re), .int (kn)] n9 s9 := by
  refine zL.intro (lo := 147) (nA := 3) zw_L_irreducible (by decide) rfl rfl (by decide +kernel) rfl (Nat.le_of_ble_eq_true rfl) ?_
  intro p e s m below meth c0 ls C9 hr9 hk9 ht9 hLi9 hS9 hl9
  have hl9 : lv_has ls 4 [(0, .ref o), (1, .int (iZ (z))), (2, .ref w9)] := hl9
  refine lv_aload_n C9.1 C9.2.1 dL_irreducible_0 rfl (lv_at hl9 2 rfl) ?_
  refine lv_aload_n C9.1 C9.2.1 dL_irreducible_1 rfl (lv_at hl9 0 rfl) ?_
  refine lv_iload_n C9.1 C9.2.1 dL_irreducible_2 rfl (lv_at hl9 1 rfl) ?_
  refine zg_callX (as := [.int (iZ (z))]) C9 hLi9.1 (hLi9.2.2.2.1.narrow fun q h => Or.inr h) hS9 (fun q h => Or.inr h) (c_X3_irreducible_badc l hlq D cJ o a c ac re kn z r9z hbad) ml_L_142 rfl (by decide) (by decide) hl9 (Nat.le_of_ble_eq_true rfl) rfl dL_irreducible_3 (fun H1 locs1 ce1 q1 hAt1 hS1 hk1 hz1 hc1 hv1 hf1 => ?_)
  have hW1 := hLi9.2.1.kept (hk1 w9 hLi9.2.1.lt (fun z => z.elim hLi9.2.2.1.1 hLi9.2.2.1.2))
  refine zl_catch1 C9 (ht9.trans rfl) (by decide +kernel) (by decide) cl_L_19 hLi9.2.2.2.2.1 hc1 hv1 hf1 ?_
  refine lv_astore_n C9.1 C9.2.1 (x := q1) dL_irreducible_13 rfl hl9 (by decide) rfl (fun ls2 hl2 => ?_)
  refine z_iconst C9 dL_irreducible_14 ?_
  exact zl_ret C9 hAt1 hW1 hS1 hr9 hk9 (Nat.le_of_ble_eq_true rfl) (Nat.le_of_ble_eq_true rfl) dL_irreducible_15 rfl
set_option maxHeartbeats 4000000 in
set_option maxRecDepth 100000 in
theorem c_L_rank_badc (l : Launch) (hlq : l.stackTraces = false) (D : va_G) (cJ : ClassId) (o a : Nat) (c : Nat → Nat) (ac : Int32) (re : Int32) (kn : Int32) (z : Int) (r9z : -2147483648 ≤ z ∧ z ≤ 2147483647) (hbad : ¬ ((0 ≤ z ∧ z ≤ 5))) (w9 : Nat) (n9 : Int64) (s9 : Value) : zL l yL_rank 9 170 1 6 D cJ o a w9 [.ref o, .int (iZ (z)), .ref w9] c [.int (ac), .int (re), .int (kn)] n9 s9 1 c [.int (ac), .int (re), .int (kn)] n9 s9 := by
  refine zL.intro (lo := 147) (nA := 3) zw_L_rank (by decide) rfl rfl (by decide +kernel) rfl (Nat.le_of_ble_eq_true rfl) ?_
  intro p e s m below meth c0 ls C9 hr9 hk9 ht9 hLi9 hS9 hl9
  have hl9 : lv_has ls 4 [(0, .ref o), (1, .int (iZ (z))), (2, .ref w9)] := hl9
  refine lv_aload_n C9.1 C9.2.1 dL_rank_0 rfl (lv_at hl9 2 rfl) ?_
  refine lv_aload_n C9.1 C9.2.1 dL_rank_1 rfl (lv_at hl9 0 rfl) ?_
  refine lv_iload_n C9.1 C9.2.1 dL_rank_2 rfl (lv_at hl9 1 rfl) ?_
  refine zg_callX (as := [.int (iZ (z))]) C9 hLi9.1 (hLi9.2.2.2.1.narrow fun q h => Or.inr h) hS9 (fun q h => Or.inr h) (c_X3_rank_badc l hlq D cJ o a c ac re kn z r9z hbad) ml_L_145 rfl (by decide) (by decide) hl9 (Nat.le_of_ble_eq_true rfl) rfl dL_rank_3 (fun H1 locs1 ce1 q1 hAt1 hS1 hk1 hz1 hc1 hv1 hf1 => ?_)
  have hW1 := hLi9.2.1.kept (hk1 w9 hLi9.2.1.lt (fun z => z.elim hLi9.2.2.1.1 hLi9.2.2.1.2))
  refine zl_catch1 C9 (ht9.trans rfl) (by decide +kernel) (by decide) cl_L_19 hLi9.2.2.2.2.1 hc1 hv1 hf1 ?_
  refine lv_astore_n C9.1 C9.2.1 (x := q1) dL_rank_13 rfl hl9 (by decide) rfl (fun ls2 hl2 => ?_)
  refine z_iconst C9 dL_rank_14 ?_
  exact zl_ret C9 hAt1 hW1 hS1 hr9 hk9 (Nat.le_of_ble_eq_true rfl) (Nat.le_of_ble_eq_true rfl) dL_rank_15 rfl
set_option maxHeartbeats 4000000 in
set_option maxRecDepth 100000 in
theorem c_L_period_badc (l : Launch) (hlq : l.stackTraces = false) (D : va_G) (cJ : ClassId) (o a : Nat) (c : Nat → Nat) (ac : Int32) (re : Int32) (kn : Int32) (z : Int) (r9z : -2147483648 ≤ z ∧ z ≤ 2147483647) (hbad : ¬ ((0 ≤ z ∧ z ≤ 5))) (w9 : Nat) (n9 : Int64) (s9 : Value) : zL l yL_period 9 170 1 6 D cJ o a w9 [.ref o, .int (iZ (z)), .ref w9] c [.int (ac), .int (re), .int (kn)] n9 s9 1 c [.int (ac), .int (re), .int (kn)] n9 s9 := by
  refine zL.intro (lo := 147) (nA := 3) zw_L_period (by decide) rfl rfl (by decide +kernel) rfl (Nat.le_of_ble_eq_true rfl) ?_
  intro p e s m below meth c0 ls C9 hr9 hk9 ht9 hLi9 hS9 hl9
  have hl9 : lv_has ls 4 [(0, .ref o), (1, .int (iZ (z))), (2, .ref w9)] := hl9
  refine lv_aload_n C9.1 C9.2.1 dL_period_0 rfl (lv_at hl9 2 rfl) ?_
  refine lv_aload_n C9.1 C9.2.1 dL_period_1 rfl (lv_at hl9 0 rfl) ?_
  refine lv_iload_n C9.1 C9.2.1 dL_period_2 rfl (lv_at hl9 1 rfl) ?_
  refine zg_callX (as := [.int (iZ (z))]) C9 hLi9.1 (hLi9.2.2.2.1.narrow fun q h => Or.inr h) hS9 (fun q h => Or.inr h) (c_X3_period_badc l hlq D cJ o a c ac re kn z r9z hbad) ml_L_151 rfl (by decide) (by decide) hl9 (Nat.le_of_ble_eq_true rfl) rfl dL_period_3 (fun H1 locs1 ce1 q1 hAt1 hS1 hk1 hz1 hc1 hv1 hf1 => ?_)
  have hW1 := hLi9.2.1.kept (hk1 w9 hLi9.2.1.lt (fun z => z.elim hLi9.2.2.1.1 hLi9.2.2.1.2))
  refine zl_catch1 C9 (ht9.trans rfl) (by decide +kernel) (by decide) cl_L_19 hLi9.2.2.2.2.1 hc1 hv1 hf1 ?_
  refine lv_astore_n C9.1 C9.2.1 (x := q1) dL_period_13 rfl hl9 (by decide) rfl (fun ls2 hl2 => ?_)
  refine z_iconst C9 dL_period_14 ?_
  exact zl_ret C9 hAt1 hW1 hS1 hr9 hk9 (Nat.le_of_ble_eq_true rfl) (Nat.le_of_ble_eq_true rfl) dL_period_15 rfl
set_option maxHeartbeats 4000000 in
set_option maxRecDepth 100000 in
theorem c_L_find_badc (l : Launch) (hlq : l.stackTraces = false) (D : va_G) (cJ : ClassId) (o a : Nat) (c : Nat → Nat) (ac : Int32) (re : Int32) (kn : Int32) (z : Int) (b : Bool) (r9z : -2147483648 ≤ z ∧ z ≤ 2147483647) (hbad : ¬ ((0 ≤ z ∧ z ≤ 5))) (w9 : Nat) (n9 : Int64) (s9 : Value) : zL l yL_find 9 174 1 6 D cJ o a w9 [.ref o, .int (iZ (z)), .int (iZ (zB (b))), .ref w9] c [.int (ac), .int (re), .int (kn)] n9 s9 1 c [.int (ac), .int (re), .int (kn)] n9 s9 := by
  refine zL.intro (lo := 150) (nA := 4) zw_L_find (by decide) rfl rfl (by decide +kernel) rfl (Nat.le_of_ble_eq_true rfl) ?_
  intro p e s m below meth c0 ls C9 hr9 hk9 ht9 hLi9 hS9 hl9
  have hl9 : lv_has ls 5 [(0, .ref o), (1, .int (iZ (z))), (2, .int (iZ (zB (b)))), (3, .ref w9)] := hl9
  refine lv_aload_n C9.1 C9.2.1 dL_find_0 rfl (lv_at hl9 3 rfl) ?_
  refine lv_aload_n C9.1 C9.2.1 dL_find_1 rfl (lv_at hl9 0 rfl) ?_
  refine lv_iload_n C9.1 C9.2.1 dL_find_2 rfl (lv_at hl9 1 rfl) ?_
  refine lv_iload_n C9.1 C9.2.1 dL_find_3 rfl (lv_at hl9 2 rfl) ?_
  refine zg_callX (as := [.int (iZ (z)), .int (iZ (zB (b)))]) C9 hLi9.1 (hLi9.2.2.2.1.narrow fun q h => Or.inr h) hS9 (fun q h => Or.inr h) (c_X3_find_badc l hlq D cJ o a c ac re kn z b r9z hbad) ml_L_160 rfl (by decide) (by decide) hl9 (Nat.le_of_ble_eq_true rfl) rfl dL_find_4 (fun H1 locs1 ce1 q1 hAt1 hS1 hk1 hz1 hc1 hv1 hf1 => ?_)
  have hW1 := hLi9.2.1.kept (hk1 w9 hLi9.2.1.lt (fun z => z.elim hLi9.2.2.1.1 hLi9.2.2.1.2))
  refine zl_catch1 C9 (ht9.trans rfl) (by decide +kernel) (by decide) cl_L_19 hLi9.2.2.2.2.1 hc1 hv1 hf1 ?_
  refine lv_astore C9.1 C9.2.1 (x := q1) dL_find_14 hl9 (by decide) rfl (fun ls2 hl2 => ?_)
  refine z_iconst C9 dL_find_16 ?_
  exact zl_ret C9 hAt1 hW1 hS1 hr9 hk9 (Nat.le_of_ble_eq_true rfl) (Nat.le_of_ble_eq_true rfl) dL_find_17 rfl
set_option maxHeartbeats 4000000 in
set_option maxRecDepth 100000 in
theorem c_L_text_badc (l : Launch) (hlq : l.stackTraces = false) (D : va_G) (cJ : ClassId) (o a : Nat) (c : Nat → Nat) (ac : Int32) (re : Int32) (kn : Int32) (z : Int) (r9z : -2147483648 ≤ z ∧ z ≤ 2147483647) (hbad : ¬ ((0 ≤ z ∧ z ≤ 5))) (w9 : Nat) (n9 : Int64) (s9 : Value) : zL l yL_text 9 168 1 6 D cJ o a w9 [.ref o, .int (iZ (z)), .ref w9] c [.int (ac), .int (re), .int (kn)] n9 s9 1 c [.int (ac), .int (re), .int (kn)] n9 s9 := by
  refine zL.intro (lo := 145) (nA := 3) zw_L_text (by decide) rfl rfl (by decide +kernel) rfl (Nat.le_of_ble_eq_true rfl) ?_
  intro p e s m below meth c0 ls C9 hr9 hk9 ht9 hLi9 hS9 hl9
  have hl9 : lv_has ls 4 [(0, .ref o), (1, .int (iZ (z))), (2, .ref w9)] := hl9
  refine lv_aload_n C9.1 C9.2.1 dL_text_0 rfl (lv_at hl9 2 rfl) ?_
  refine lv_aload_n C9.1 C9.2.1 dL_text_1 rfl (lv_at hl9 0 rfl) ?_
  refine lv_iload_n C9.1 C9.2.1 dL_text_2 rfl (lv_at hl9 1 rfl) ?_
  refine zg_callX (as := [.int (iZ (z))]) C9 hLi9.1 (hLi9.2.2.2.1.narrow fun q h => Or.inr h) hS9 (fun q h => Or.inr h) (c_X3_text_badc l hlq D cJ o a c ac re kn z r9z hbad) ml_L_113 rfl (by decide) (by decide) hl9 (Nat.le_of_ble_eq_true rfl) rfl dL_text_3 (fun H1 locs1 ce1 q1 hAt1 hS1 hk1 hz1 hc1 hv1 hf1 => ?_)
  have hW1 := hLi9.2.1.kept (hk1 w9 hLi9.2.1.lt (fun z => z.elim hLi9.2.2.1.1 hLi9.2.2.1.2))
  refine zl_catch1 C9 (ht9.trans rfl) (by decide +kernel) (by decide) cl_L_19 hLi9.2.2.2.2.1 hc1 hv1 hf1 ?_
  refine lv_astore_n C9.1 C9.2.1 (x := q1) dL_text_12 rfl hl9 (by decide) rfl (fun ls2 hl2 => ?_)
  refine z_iconst C9 dL_text_13 ?_
  exact zl_ret C9 hAt1 hW1 hS1 hr9 hk9 (Nat.le_of_ble_eq_true rfl) (Nat.le_of_ble_eq_true rfl) dL_text_14 rfl
set_option maxHeartbeats 4000000 in
set_option maxRecDepth 100000 in
theorem c_L_code_badc (l : Launch) (hlq : l.stackTraces = false) (D : va_G) (cJ : ClassId) (o a : Nat) (c : Nat → Nat) (ac : Int32) (re : Int32) (kn : Int32) (z : Int) (r : Int) (r9z : -2147483648 ≤ z ∧ z ≤ 2147483647) (r9r : -2147483648 ≤ r ∧ r ≤ 2147483647) (hbad : ¬ ((0 ≤ z ∧ z ≤ 5))) (w9 : Nat) (n9 : Int64) (s9 : Value) : zL l yL_code 9 172 1 6 D cJ o a w9 [.ref o, .int (iZ (z)), .int (iZ (r)), .ref w9] c [.int (ac), .int (re), .int (kn)] n9 s9 1 c [.int (ac), .int (re), .int (kn)] n9 s9 := by
  refine zL.intro (lo := 148) (nA := 4) zw_L_code (by decide) rfl rfl (by decide +kernel) rfl (Nat.le_of_ble_eq_true rfl) ?_
  intro p e s m below meth c0 ls C9 hr9 hk9 ht9 hLi9 hS9 hl9
  have hl9 : lv_has ls 5 [(0, .ref o), (1, .int (iZ (z))), (2, .int (iZ (r))), (3, .ref w9)] := hl9
  refine lv_aload_n C9.1 C9.2.1 dL_code_0 rfl (lv_at hl9 3 rfl) ?_
  refine lv_aload_n C9.1 C9.2.1 dL_code_1 rfl (lv_at hl9 0 rfl) ?_
  refine lv_iload_n C9.1 C9.2.1 dL_code_2 rfl (lv_at hl9 1 rfl) ?_
  refine lv_iload_n C9.1 C9.2.1 dL_code_3 rfl (lv_at hl9 2 rfl) ?_
  refine zg_callX (as := [.int (iZ (z)), .int (iZ (r))]) C9 hLi9.1 (hLi9.2.2.2.1.narrow fun q h => Or.inr h) hS9 (fun q h => Or.inr h) (c_X3_code_badc l hlq D cJ o a c ac re kn z r r9z r9r hbad) ml_L_121 rfl (by decide) (by decide) hl9 (Nat.le_of_ble_eq_true rfl) rfl dL_code_4 (fun H1 locs1 ce1 q1 hAt1 hS1 hk1 hz1 hc1 hv1 hf1 => ?_)
  have hW1 := hLi9.2.1.kept (hk1 w9 hLi9.2.1.lt (fun z => z.elim hLi9.2.2.1.1 hLi9.2.2.1.2))
  refine zl_catch1 C9 (ht9.trans rfl) (by decide +kernel) (by decide) cl_L_19 hLi9.2.2.2.2.1 hc1 hv1 hf1 ?_
  refine lv_astore C9.1 C9.2.1 (x := q1) dL_code_13 hl9 (by decide) rfl (fun ls2 hl2 => ?_)
  refine z_iconst C9 dL_code_15 ?_
  exact zl_ret C9 hAt1 hW1 hS1 hr9 hk9 (Nat.le_of_ble_eq_true rfl) (Nat.le_of_ble_eq_true rfl) dL_code_16 rfl
set_option maxHeartbeats 4000000 in
set_option maxRecDepth 100000 in
theorem c_L_code_badr (l : Launch) (hlq : l.stackTraces = false) (D : va_G) (cJ : ClassId) (o a : Nat) (c : Nat → Nat) (ac : Int32) (re : Int32) (kn : Int32) (z : Int) (r : Int) (r9z : -2147483648 ≤ z ∧ z ≤ 2147483647) (r9r : -2147483648 ≤ r ∧ r ≤ 2147483647) (hz : 0 ≤ z ∧ z ≤ 5) (hbad : ¬ ((2 ≤ r ∧ r ≤ 36))) (w9 : Nat) (n9 : Int64) (s9 : Value) : zL l yL_code 8 152 1 6 D cJ o a w9 [.ref o, .int (iZ (z)), .int (iZ (r)), .ref w9] c [.int (ac), .int (re), .int (kn)] n9 s9 2 c [.int (ac), .int (re), .int (kn)] n9 s9 := by
  refine zL.intro (lo := 128) (nA := 4) zw_L_code (by decide) rfl rfl (by decide +kernel) rfl (Nat.le_of_ble_eq_true rfl) ?_
  intro p e s m below meth c0 ls C9 hr9 hk9 ht9 hLi9 hS9 hl9
  have hl9 : lv_has ls 5 [(0, .ref o), (1, .int (iZ (z))), (2, .int (iZ (r))), (3, .ref w9)] := hl9
  refine lv_aload_n C9.1 C9.2.1 dL_code_0 rfl (lv_at hl9 3 rfl) ?_
  refine lv_aload_n C9.1 C9.2.1 dL_code_1 rfl (lv_at hl9 0 rfl) ?_
  refine lv_iload_n C9.1 C9.2.1 dL_code_2 rfl (lv_at hl9 1 rfl) ?_
  refine lv_iload_n C9.1 C9.2.1 dL_code_3 rfl (lv_at hl9 2 rfl) ?_
  refine zg_callX (as := [.int (iZ (z)), .int (iZ (r))]) C9 hLi9.1 (hLi9.2.2.2.1.narrow fun q h => Or.inr h) hS9 (fun q h => Or.inr h) (c_X3_code_badr l hlq D cJ o a c ac re kn z r r9z r9r hz hbad) ml_L_121 rfl (by decide) (by decide) hl9 (Nat.le_of_ble_eq_true rfl) rfl dL_code_4 (fun H1 locs1 ce1 q1 hAt1 hS1 hk1 hz1 hc1 hv1 hf1 => ?_)
  have hW1 := hLi9.2.1.kept (hk1 w9 hLi9.2.1.lt (fun z => z.elim hLi9.2.2.1.1 hLi9.2.2.1.2))
  refine zl_catch2 C9 (ht9.trans rfl) (by decide) cl_L_19 hLi9.2.2.2.2.2.2.1 (by decide +kernel) (by decide) cl_L_24 hLi9.2.2.2.2.2.1 hc1 hv1 hf1 ?_
  refine lv_astore C9.1 C9.2.1 (x := q1) dL_code_17 hl9 (by decide) rfl (fun ls2 hl2 => ?_)
  refine z_iconst C9 dL_code_19 ?_
  exact zl_ret C9 hAt1 hW1 hS1 hr9 hk9 (Nat.le_of_ble_eq_true rfl) (Nat.le_of_ble_eq_true rfl) dL_code_20 rfl
set_option maxHeartbeats 4000000 in
set_option maxRecDepth 100000 in
theorem c_L_factors_badc (l : Launch) (hlq : l.stackTraces = false) (D : va_G) (cJ : ClassId) (o a : Nat) (c : Nat → Nat) (ac : Int32) (re : Int32) (kn : Int32) (z : Int) (r9z : -2147483648 ≤ z ∧ z ≤ 2147483647) (hbad : ¬ ((0 ≤ z ∧ z ≤ 5))) (w9 : Nat) (n9 : Int64) (s9 : Value) : zL l yL_factors 9 170 1 6 D cJ o a w9 [.ref o, .int (iZ (z)), .ref w9] c [.int (ac), .int (re), .int (kn)] n9 s9 1 c [.int (ac), .int (re), .int (kn)] n9 s9 := by
  refine zL.intro (lo := 147) (nA := 3) zw_L_factors (by decide) rfl rfl (by decide +kernel) rfl (Nat.le_of_ble_eq_true rfl) ?_
  intro p e s m below meth c0 ls C9 hr9 hk9 ht9 hLi9 hS9 hl9
  have hl9 : lv_has ls 4 [(0, .ref o), (1, .int (iZ (z))), (2, .ref w9)] := hl9
  refine lv_aload_n C9.1 C9.2.1 dL_factors_0 rfl (lv_at hl9 2 rfl) ?_
  refine lv_aload_n C9.1 C9.2.1 dL_factors_1 rfl (lv_at hl9 0 rfl) ?_
  refine lv_iload_n C9.1 C9.2.1 dL_factors_2 rfl (lv_at hl9 1 rfl) ?_
  refine zg_callX (as := [.int (iZ (z))]) C9 hLi9.1 (hLi9.2.2.2.1.narrow fun q h => Or.inr h) hS9 (fun q h => Or.inr h) (c_X3_factors_badc l hlq D cJ o a c ac re kn z r9z hbad) ml_L_148 rfl (by decide) (by decide) hl9 (Nat.le_of_ble_eq_true rfl) rfl dL_factors_3 (fun H1 locs1 ce1 q1 hAt1 hS1 hk1 hz1 hc1 hv1 hf1 => ?_)
  have hW1 := hLi9.2.1.kept (hk1 w9 hLi9.2.1.lt (fun z => z.elim hLi9.2.2.1.1 hLi9.2.2.1.2))
  refine zl_catch1 C9 (ht9.trans rfl) (by decide +kernel) (by decide) cl_L_19 hLi9.2.2.2.2.1 hc1 hv1 hf1 ?_
  refine lv_astore_n C9.1 C9.2.1 (x := q1) dL_factors_12 rfl hl9 (by decide) rfl (fun ls2 hl2 => ?_)
  refine z_iconst C9 dL_factors_13 ?_
  exact zl_ret C9 hAt1 hW1 hS1 hr9 hk9 (Nat.le_of_ble_eq_true rfl) (Nat.le_of_ble_eq_true rfl) dL_factors_14 rfl
set_option maxHeartbeats 4000000 in
set_option maxRecDepth 100000 in
theorem c_L_many_badr (l : Launch) (hlq : l.stackTraces = false) (D : va_G) (cJ : ClassId) (o a : Nat) (c : Nat → Nat) (ac : Int32) (re : Int32) (kn : Int32) (z : Int) (r9z : -2147483648 ≤ z ∧ z ≤ 2147483647) (hbad : ¬ (1 ≤ z ∧ z ≤ 8)) (w9 : Nat) (n9 : Int64) (s9 : Value) : zL l yL_many 8 148 1 6 D cJ o a w9 [.ref o, .int (iZ (z)), .ref w9] c [.int (ac), .int (re), .int (kn)] n9 s9 1 c [.int (ac), .int (re), .int (kn)] n9 s9 := by
  refine zL.intro (lo := 125) (nA := 3) zw_L_many (by decide) rfl rfl (by decide +kernel) rfl (Nat.le_of_ble_eq_true rfl) ?_
  intro p e s m below meth c0 ls C9 hr9 hk9 ht9 hLi9 hS9 hl9
  have hl9 : lv_has ls 4 [(0, .ref o), (1, .int (iZ (z))), (2, .ref w9)] := hl9
  refine lv_aload_n C9.1 C9.2.1 dL_many_0 rfl (lv_at hl9 2 rfl) ?_
  refine lv_aload_n C9.1 C9.2.1 dL_many_1 rfl (lv_at hl9 0 rfl) ?_
  refine lv_iload_n C9.1 C9.2.1 dL_many_2 rfl (lv_at hl9 1 rfl) ?_
  refine zg_callX (as := [.int (iZ (z))]) C9 hLi9.1 (hLi9.2.2.2.1.narrow fun q h => Or.inr h) hS9 (fun q h => Or.inr h) (c_X3_many_badr l hlq D cJ o a c ac re kn z r9z hbad) ml_L_154 rfl (by decide) (by decide) hl9 (Nat.le_of_ble_eq_true rfl) rfl dL_many_3 (fun H1 locs1 ce1 q1 hAt1 hS1 hk1 hz1 hc1 hv1 hf1 => ?_)
  have hW1 := hLi9.2.1.kept (hk1 w9 hLi9.2.1.lt (fun z => z.elim hLi9.2.2.1.1 hLi9.2.2.1.2))
  refine zl_catch1 C9 (ht9.trans rfl) (by decide +kernel) (by decide) cl_L_24 hLi9.2.2.2.2.2.1 hc1 hv1 hf1 ?_
  refine lv_astore_n C9.1 C9.2.1 (x := q1) dL_many_13 rfl hl9 (by decide) rfl (fun ls2 hl2 => ?_)
  refine z_iconst C9 dL_many_14 ?_
  exact zl_ret C9 hAt1 hW1 hS1 hr9 hk9 (Nat.le_of_ble_eq_true rfl) (Nat.le_of_ble_eq_true rfl) dL_many_15 rfl
set_option maxHeartbeats 4000000 in
set_option maxRecDepth 100000 in
theorem c_L_house_badr (l : Launch) (hlq : l.stackTraces = false) (D : va_G) (cJ : ClassId) (o a : Nat) (c : Nat → Nat) (ac : Int32) (re : Int32) (kn : Int32) (z : Int) (r9z : -2147483648 ≤ z ∧ z ≤ 2147483647) (hbad : ¬ (0 ≤ z ∧ z ≤ 4)) (w9 : Nat) (n9 : Int64) (s9 : Value) : zL l yL_house 8 148 1 6 D cJ o a w9 [.ref o, .int (iZ (z)), .ref w9] c [.int (ac), .int (re), .int (kn)] n9 s9 1 c [.int (ac), .int (re), .int (kn)] n9 s9 := by
  refine zL.intro (lo := 125) (nA := 3) zw_L_house (by decide) rfl rfl (by decide +kernel) rfl (Nat.le_of_ble_eq_true rfl) ?_
  intro p e s m below meth c0 ls C9 hr9 hk9 ht9 hLi9 hS9 hl9
  have hl9 : lv_has ls 4 [(0, .ref o), (1, .int (iZ (z))), (2, .ref w9)] := hl9
  refine lv_aload_n C9.1 C9.2.1 dL_house_0 rfl (lv_at hl9 2 rfl) ?_
  refine lv_aload_n C9.1 C9.2.1 dL_house_1 rfl (lv_at hl9 0 rfl) ?_
  refine lv_iload_n C9.1 C9.2.1 dL_house_2 rfl (lv_at hl9 1 rfl) ?_
  refine zg_callX (as := [.int (iZ (z))]) C9 hLi9.1 (hLi9.2.2.2.1.narrow fun q h => Or.inr h) hS9 (fun q h => Or.inr h) (c_X3_house_badr l hlq D cJ o a c ac re kn z r9z hbad) ml_L_163 rfl (by decide) (by decide) hl9 (Nat.le_of_ble_eq_true rfl) rfl dL_house_3 (fun H1 locs1 ce1 q1 hAt1 hS1 hk1 hz1 hc1 hv1 hf1 => ?_)
  have hW1 := hLi9.2.1.kept (hk1 w9 hLi9.2.1.lt (fun z => z.elim hLi9.2.2.1.1 hLi9.2.2.1.2))
  refine zl_catch1 C9 (ht9.trans rfl) (by decide +kernel) (by decide) cl_L_24 hLi9.2.2.2.2.2.1 hc1 hv1 hf1 ?_
  refine lv_astore_n C9.1 C9.2.1 (x := q1) dL_house_13 rfl hl9 (by decide) rfl (fun ls2 hl2 => ?_)
  refine z_iconst C9 dL_house_14 ?_
  exact zl_ret C9 hAt1 hW1 hS1 hr9 hk9 (Nat.le_of_ble_eq_true rfl) (Nat.le_of_ble_eq_true rfl) dL_house_15 rfl
set_option maxHeartbeats 4000000 in
set_option maxRecDepth 100000 in
theorem c_L_formula_badr (l : Launch) (hlq : l.stackTraces = false) (D : va_G) (cJ : ClassId) (o a : Nat) (c : Nat → Nat) (ac : Int32) (re : Int32) (kn : Int32) (z : Int) (r9z : -2147483648 ≤ z ∧ z ≤ 2147483647) (hbad : ¬ (1 ≤ z ∧ z ≤ 8)) (w9 : Nat) (n9 : Int64) (s9 : Value) : zL l yL_formula 8 148 1 6 D cJ o a w9 [.ref o, .int (iZ (z)), .ref w9] c [.int (ac), .int (re), .int (kn)] n9 s9 1 c [.int (ac), .int (re), .int (kn)] n9 s9 := by
  refine zL.intro (lo := 125) (nA := 3) zw_L_formula (by decide) rfl rfl (by decide +kernel) rfl (Nat.le_of_ble_eq_true rfl) ?_
  intro p e s m below meth c0 ls C9 hr9 hk9 ht9 hLi9 hS9 hl9
  have hl9 : lv_has ls 4 [(0, .ref o), (1, .int (iZ (z))), (2, .ref w9)] := hl9
  refine lv_aload_n C9.1 C9.2.1 dL_formula_0 rfl (lv_at hl9 2 rfl) ?_
  refine lv_aload_n C9.1 C9.2.1 dL_formula_1 rfl (lv_at hl9 0 rfl) ?_
  refine lv_iload_n C9.1 C9.2.1 dL_formula_2 rfl (lv_at hl9 1 rfl) ?_
  refine zg_callX (as := [.int (iZ (z))]) C9 hLi9.1 (hLi9.2.2.2.1.narrow fun q h => Or.inr h) hS9 (fun q h => Or.inr h) (c_X3_formula_badr l hlq D cJ o a c ac re kn z r9z hbad) ml_L_157 rfl (by decide) (by decide) hl9 (Nat.le_of_ble_eq_true rfl) rfl dL_formula_3 (fun H1 locs1 ce1 q1 hAt1 hS1 hk1 hz1 hc1 hv1 hf1 => ?_)
  have hW1 := hLi9.2.1.kept (hk1 w9 hLi9.2.1.lt (fun z => z.elim hLi9.2.2.1.1 hLi9.2.2.1.2))
  refine zl_catch1 C9 (ht9.trans rfl) (by decide +kernel) (by decide) cl_L_24 hLi9.2.2.2.2.2.1 hc1 hv1 hf1 ?_
  refine lv_astore_n C9.1 C9.2.1 (x := q1) dL_formula_13 rfl hl9 (by decide) rfl (fun ls2 hl2 => ?_)
  refine z_iconst C9 dL_formula_14 ?_
  exact zl_ret C9 hAt1 hW1 hS1 hr9 hk9 (Nat.le_of_ble_eq_true rfl) (Nat.le_of_ble_eq_true rfl) dL_formula_15 rfl
end WF
