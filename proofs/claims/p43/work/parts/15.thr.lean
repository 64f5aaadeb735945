/-! ===== what throws: wrong cells and numbers ===== -/
section TA
def zWk (w : Cond) : Bool := goodWord w || (match w with
  | .castable _ _ => true
  | .declares _ => true
  | _ => false)
theorem zW_move {w : Cond} {A A' : Array Value} {s U : State} (hW : s.WarmedH U.vm) (h : zWk w = true) (hb : w.before A s = true) : w.before A' U = true := by
  by_cases g : goodWord w = true
  · exact word_at hW (good_of_word g) hb
  · cases w with
    | castable a b => exact va_Nw.use rfl (va_Nw.warmC hW (va_Nw.of rfl hb))
    | declares x => exact va_Nw.use rfl (va_Nw.warmD hW (va_Nw.of rfl hb))
    | _ => exact absurd (Eq.trans (Bool.or_false _).symm h) g
def xI : List Cond := vx_atS RX3 207 "java/lang/IndexOutOfBoundsException" ["java/lang/RuntimeException", "java/lang/Exception"]
def xA : List Cond := vx_atS RX3 214 "java/lang/IllegalArgumentException" ["java/lang/RuntimeException", "java/lang/Exception"]
theorem xI_ok : ∀ w ∈ xI, zWk w = true := by decide +kernel
theorem xA_ok : ∀ w ∈ xA, zWk w = true := by decide +kernel
/-- what a throw wants of a heap: two statics of Throwable, the two texts, the words -/
def zE (A : Nat → Prop) (U : State) (H : Heap) : Prop :=
  vx_Zq Bundle.tN "UNASSIGNED_STACK" Bundle.steD A U H ∧ vx_Zq Bundle.tN "SUPPRESSED_SENTINEL" Bundle.listD A U H ∧ (∃ a, vk_R RX3 205 "a cell is 0 to 5" a U) ∧ (∃ a, vk_R RX3 212 "a number is out of its range" a U) ∧ (∀ w ∈ xI, w.before #[] U = true) ∧ ∀ w ∈ xA, w.before #[] U = true
theorem zE.warm {A : Nat → Prop} {s U : State} {H : Heap} (hW : s.WarmedH U.vm) (h : zE A s H) : zE A U H :=
  ⟨h.1.moved hW.alike, h.2.1.moved hW.alike, h.2.2.1.imp fun _ g => vk_R.warm hW g, h.2.2.2.1.imp fun _ g => vk_R.warm hW g, fun w hw => zW_move hW (xI_ok w hw) (h.2.2.2.2.1 w hw), fun w hw => zW_move hW (xA_ok w hw) (h.2.2.2.2.2 w hw)⟩
theorem zE.kept {A : Nat → Prop} {U : State} {H H1 : Heap} (h : zE A U H) (hq : ∀ a : Nat, a < H.size → ¬ A a → H1[a]? = H[a]?) : zE A U H1 := ⟨h.1.kept hq, h.2.1.kept hq, h.2.2⟩
theorem zE.narrow {A B : Nat → Prop} {U : State} {H : Heap} (h : zE A U H) (hAB : ∀ q, B q → A q) : zE B U H := ⟨h.1.narrow hAB, h.2.1.narrow hAB, h.2.2⟩
theorem zZ_up {A : Nat → Prop} {C n d : String} {U : State} {H : Heap} (h : vx_Zq C n d A U H) : vx_Zq C n d (fun q => A q ∨ H.size ≤ q) U H := by
  obtain ⟨h1, c, k, i, f, a, cell, g1, g2, g3, g4, g5, g6, g7, g8, g9, g10⟩ := h
  have hl : a < H.size := (Array.getElem?_eq_some_iff.mp g5).1
  refine ⟨?_, c, k, i, f, a, cell, g1, g2, g3, g4, g5, g6, g7, g8, g9, fun z => z.elim g10 (fun z => by omega)⟩
  rcases h1 with h1 | ⟨t, h1⟩
  · obtain ⟨cf, kf, fi, f, a, cell, e1, e2, e3, e4, e5, e6, e7, e8⟩ := h1
    have hl : a < H.size := (Array.getElem?_eq_some_iff.mp e5).1
    exact Or.inl ⟨cf, kf, fi, f, a, cell, e1, e2, e3, e4, e5, e6, e7, fun z => z.elim e8 (fun z => by omega)⟩
  · obtain ⟨cf, kf, fi, f, a, cell, e1, e2, e3, e4, e5, e6, e7, e8⟩ := h1
    have hl : a < H.size := (Array.getElem?_eq_some_iff.mp e5).1
    exact Or.inr ⟨t, cf, kf, fi, f, a, cell, e1, e2, e3, e4, e5, e6, e7, fun z => z.elim e8 (fun z => by omega)⟩
theorem zE.up {A : Nat → Prop} {U : State} {H : Heap} (h : zE A U H) : zE (fun q => A q ∨ H.size ≤ q) U H := ⟨zZ_up h.1, zZ_up h.2.1, h.2.2⟩
def zoa (o a : Nat) : Nat → Prop := fun q => q = o ∨ q = a
/-- a static method that throws E -/
def zXS (l : Launch) (y : MethodName) (fr need : Nat) (as : List Value) (E : String) : Prop :=
  ∃ (bytes : ByteArray) (maxL lo : Nat) (ret : Option FieldType), zS y bytes maxL ret ∧ need = 8 + (maxL + 11) + lo ∧
    (y.cls ≠ "java/lang/invoke/MethodHandle" ∧ y.cls ≠ "java/lang/invoke/VarHandle" ∧ (parseMethodDescriptor y.desc).map (fun d => d.parameters.length) = some as.length) ∧
    ∀ sz : Nat, vx_Met l y (Cond.code y bytes maxL ret :: T0) { frames := fr, cells := 1, slots := 6, locals := lo } (fun v U => v = as.toArray ∧ U.heap.size = sz ∧ zE (fun _ => False) U U.heap)
      (fun _ _ _ _ => False) (fun E' st t => E' = E ∧ va_F (fun q => sz ≤ q) st t) 1 6 (fun q => sz ≤ q)
/-- a method of the object that throws E -/
def zXI (l : Launch) (y : MethodName) (fr need : Nat) (D : va_G) (cJ : ClassId) (o a : Nat) (as : List Value) (c : Nat → Nat) (fs : List Value) (E : String) : Prop :=
  ∃ (bytes : ByteArray) (maxL lo : Nat) (ret : Option FieldType), zI y bytes maxL ret ∧ need = 8 + (maxL + 11) + lo ∧
    (y.cls = y.cls ∧ y.cls ≠ "java/lang/invoke/MethodHandle" ∧ y.cls ≠ "java/lang/invoke/VarHandle" ∧ (parseMethodDescriptor y.desc).map (fun d => d.parameters.length) = some as.length) ∧
    ∀ sz : Nat, vx_Met l y (Cond.code y bytes maxL ret :: T0) { frames := fr, cells := 1, slots := 6, locals := lo } (fun v U => v = (Value.ref o :: as).toArray ∧ U.heap.size = sz ∧ AtO D 2 cJ o a c fs U U.heap ∧ zE (zoa o a) U U.heap)
      (fun _ _ _ _ => False) (fun E' st t => E' = E ∧ AtO D 2 cJ o a c fs t t.heap ∧ va_F (zF o a sz) st t) 1 6 (zF o a sz)
abbrev zX1 (below : List Frame) (av : Array Value) (s : State) (E : String) : State → Prop :=
  vx_MQ below (fun _ _ _ _ => False) (fun E' st t => E' = E ∧ va_F (fun q => s.heap.size ≤ q) st t) av s 1 6 (fun q => s.heap.size ≤ q)
abbrev zX2 (below : List Frame) (D : va_G) (cJ : ClassId) (o a : Nat) (c : Nat → Nat) (fs : List Value) (av : Array Value) (s : State) (E : String) : State → Prop :=
  vx_MQ below (fun _ _ _ _ => False) (fun E' st t => E' = E ∧ AtO D 2 cJ o a c fs t t.heap ∧ va_F (zF o a s.heap.size) st t) av s 1 6 (zF o a s.heap.size)
theorem zXS.intro {l : Launch} {y : MethodName} {fr need lo nA : Nat} {as : List Value} {E : String} {cc : ByteArray} {maxL : Nat} {ret : Option FieldType} {own : String} (hz : zS y cc maxL ret) (hy : plainName y.cls = true) (ho : own = y.cls) (hn : need = 8 + (maxL + 11) + lo)
    (hd : y.cls ≠ "java/lang/invoke/MethodHandle" ∧ y.cls ≠ "java/lang/invoke/VarHandle" ∧ (parseMethodDescriptor y.desc).map (fun d => d.parameters.length) = some nA) (hA : as.length = nA) (hle : (lg_sl as).length ≤ maxL)
    (body : ∀ (p : Program) (e : Env) (s : State) (m : MethodId) (below : List Frame) (meth : Method) (c0 : Code) (ls : Array Slot), CallFix p m c0 cc maxL s as.toArray T0 own → (∀ x ∈ c0.exceptionTable.toList, False) → meth.locks = false → zE (fun _ => False) s s.heap → lv_has ls maxL (lv_args 0 as) →
      W p l e { frames := fr, cells := 1, slots := 6, locals := lo } s m as.toArray below meth c0 s.heap [] 0 0 (zX1 below as.toArray s E) (F0 m 0 ls [])) : zXS l y fr need as E := by
  subst hA
  refine ⟨cc, maxL, lo, ret, hz, hn, hd, fun sz => ?_⟩
  refine vx_ofW (ws' := T0) hy rfl ?_
  intro p e s m args below meth c0 s₁ B hml htab hv
  obtain ⟨hv, hsz, hE⟩ := hv
  subst hv
  subst hsz
  have hts := atoms_spec (ws := Cond.code y cc maxL ret :: T0) B.pre
  have hown : s.vm.findClass own = some m.cls := by rw [ho]; exact findClass_of_methodNamed B.named
  rw [lg_entry_eq]
  exact body p e s m below meth c0 _ ⟨B.exec, B.bytes, hml, hown, fun w h => hts w (List.mem_cons_of_mem _ h)⟩ htab B.notSynchronized hE (lv_entry as hle)
theorem zXI.intro {l : Launch} {y : MethodName} {fr need lo nA : Nat} {D : va_G} {cJ : ClassId} {o a : Nat} {as : List Value} {c : Nat → Nat} {fs : List Value} {E : String} {cc : ByteArray} {maxL : Nat} {ret : Option FieldType} {own : String} (hz : zI y cc maxL ret) (hy : plainName y.cls = true) (ho : own = y.cls) (hn : need = 8 + (maxL + 11) + lo)
    (hd : y.cls ≠ "java/lang/invoke/MethodHandle" ∧ y.cls ≠ "java/lang/invoke/VarHandle" ∧ (parseMethodDescriptor y.desc).map (fun d => d.parameters.length) = some nA) (hA : as.length = nA) (hle : (lg_sl (.ref o :: as)).length ≤ maxL)
    (body : ∀ (p : Program) (e : Env) (s : State) (m : MethodId) (below : List Frame) (meth : Method) (c0 : Code) (ls : Array Slot), CallFix p m c0 cc maxL s (Value.ref o :: as).toArray T0 own → (∀ x ∈ c0.exceptionTable.toList, False) → meth.locks = false → zIn D 2 cJ o a c fs s s.heap [] → zE (zoa o a) s s.heap → lv_has ls maxL (lv_args 0 (.ref o :: as)) →
      W p l e { frames := fr, cells := 1, slots := 6, locals := lo } s m (Value.ref o :: as).toArray below meth c0 s.heap [] 0 0 (zX2 below D cJ o a c fs (Value.ref o :: as).toArray s E) (F0 m 0 ls [])) : zXI l y fr need D cJ o a as c fs E := by
  subst hA
  refine ⟨cc, maxL, lo, ret, hz, hn, ⟨rfl, hd⟩, fun sz => ?_⟩
  refine vx_ofW (ws' := T0) hy rfl ?_
  intro p e s m args below meth c0 s₁ B hml htab hv
  obtain ⟨hv, hsz, hAt, hE⟩ := hv
  subst hv
  subst hsz
  have hts := atoms_spec (ws := Cond.code y cc maxL ret :: T0) B.pre
  have hown : s.vm.findClass own = some m.cls := by rw [ho]; exact findClass_of_methodNamed B.named
  rw [lg_entry_eq]
  exact body p e s m below meth c0 _ ⟨B.exec, B.bytes, hml, hown, fun w h => hts w (List.mem_cons_of_mem _ h)⟩ htab B.notSynchronized ⟨hAt, va_S.rf⟩ hE (lv_entry (.ref o :: as) hle)
end TA
section TB
variable {p : Program} {l : Launch} {e : Env} {R : Room} {s : State} {m : MethodId} {args : Array Value} {below : List Frame} {meth : Method} {c : Code} {H : Heap} {locs : List Loc} {cells slots : Nat} {Q : State → Prop}
variable {cc : ByteArray} {pc nL : Nat} {ls : Array Slot} {rest st : List Value} {own : String} {lv : List (Nat × Value)} {D : va_G} {cJ : ClassId} {o a : Nat} {ce : Nat → Nat} {fs : List Value} {E : String}
/-- the throw itself -/
theorem zx_throwI (C : CallFix p m c cc nL s args T0 RX3) (hl : l.stackTraces = false) (hE : zE (fun _ => False) s s.heap) (htab : ∀ x ∈ c.exceptionTable.toList, False) (hk : meth.locks = false) (B : zIn D 2 cJ o a ce fs s s.heap []) (hls : lv_has ls nL lv)
    (d0 : decode cc pc = .ok (.new 203, 3)) (d3 : decode cc (pc + 3) = .ok (.dup, 1)) (d4 : decode cc (pc + 4) = .ok (.ldc 205, 2)) (d6 : decode cc (pc + 6) = .ok (.invokespecial 207, 3)) (d9 : decode cc (pc + 9) = .ok (.athrow, 1)) (hR : 5 < R.frames ∧ 82 ≤ R.locals ∧ 1 ≤ R.cells ∧ 6 ≤ R.slots) :
    W p l e R s m args below meth c s.heap [] 0 0 (zX2 below D cJ o a ce fs args s "java/lang/IndexOutOfBoundsException") (F0 m pc ls []) := by
  obtain ⟨sa, hsa⟩ := hE.2.2.1
  refine vx_throwS (A := fun q => False ∨ s.heap.size ≤ q) C.1 C.2.1 hl C.2.2.2.1 (by decide +kernel) (by decide +kernel) (C.2.2.2.2 _ (T0_of cl_X3_203 rfl)) (C.2.2.2.2 _ (T0_of ini_java_lang_IndexOutOfBoundsException rfl)) hsa (fun w hw => zW_move (State.WarmedH.refl s) (xI_ok w hw) (hE.2.2.2.2.1 w hw)) (by decide +kernel) (zZ_up hE.1) (zZ_up hE.2.1) va_S.rf (hls.1.trans C.2.2.1.symm) d0 d3 d4 d6 d9 (fun x hx => (htab x hx).elim) (by simpa using hR.1) (by simpa using hR.2.1) hR.2.2.1 hR.2.2.2 hk (fun t ha hsz hq => ?_) (fun z hz => nomatch hz) (Nat.le_refl _) (Nat.le_refl _)
  have hlt := B.1.lt
  exact ⟨rfl, (B.1.kept (hq o hlt.1) (hq a hlt.2)).moved ha, hsz, fun q h1 _ => hq q h1⟩
theorem zx_throwA (C : CallFix p m c cc nL s args T0 RX3) (hl : l.stackTraces = false) (hE : zE (fun _ => False) s s.heap) (htab : ∀ x ∈ c.exceptionTable.toList, False) (hk : meth.locks = false) (hls : lv_has ls nL lv)
    (d0 : decode cc pc = .ok (.new 210, 3)) (d3 : decode cc (pc + 3) = .ok (.dup, 1)) (d4 : decode cc (pc + 4) = .ok (.ldc 212, 2)) (d6 : decode cc (pc + 6) = .ok (.invokespecial 214, 3)) (d9 : decode cc (pc + 9) = .ok (.athrow, 1)) (hR : 5 < R.frames ∧ 82 ≤ R.locals ∧ 1 ≤ R.cells ∧ 6 ≤ R.slots) :
    W p l e R s m args below meth c s.heap [] 0 0 (zX1 below args s "java/lang/IllegalArgumentException") (F0 m pc ls []) := by
  obtain ⟨sa, hsa⟩ := hE.2.2.2.1
  refine vx_throwS (A := fun q => False ∨ s.heap.size ≤ q) C.1 C.2.1 hl C.2.2.2.1 (by decide +kernel) (by decide +kernel) (C.2.2.2.2 _ (T0_of cl_X3_210 rfl)) (C.2.2.2.2 _ (T0_of ini_java_lang_IllegalArgumentException rfl)) hsa (fun w hw => zW_move (State.WarmedH.refl s) (xA_ok w hw) (hE.2.2.2.2.2 w hw)) (by decide +kernel) (zZ_up hE.1) (zZ_up hE.2.1) va_S.rf (hls.1.trans C.2.2.1.symm) d0 d3 d4 d6 d9 (fun x hx => (htab x hx).elim) (by simpa using hR.1) (by simpa using hR.2.1) hR.2.2.1 hR.2.2.2 hk (fun t ha hsz hq => ?_) (fun z hz => nomatch hz) (Nat.le_refl _) (Nat.le_refl _)
  exact ⟨rfl, hsz, fun q h1 _ => hq q h1⟩
end TB
