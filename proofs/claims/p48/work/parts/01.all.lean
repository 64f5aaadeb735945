-- ===== PART A: goes FIRST, ahead of the names: the tables' words, and 'selects' of the private methods out of them =====
/-- a private method of a class that the tables say can be made, by its rows of tables_1 -/
def lw_okq (q : MethodName × Nat) : Prop := (q.1.cls ≠ "java/lang/invoke/MethodHandle" ∧ q.1.cls ≠ "java/lang/invoke/VarHandle") ∧ Cond.instantiable q.1.cls q.2 ∈ tables_1 ∧ Cond.privateMethod q.1 ∈ tables_1 ∧ Cond.instanceMethod q.1 ∈ tables_1
theorem lw_p0 : lw_okq (⟨"Carryfree", "polyIn", "(I)J"⟩, 4) := ⟨⟨by decide +kernel, by decide +kernel⟩, List.mem_of_getElem? (i := 26) (by decide +kernel), List.mem_of_getElem? (i := 65) (by decide +kernel), List.mem_of_getElem? (i := 66) (by decide +kernel)⟩
theorem lw_p1 : lw_okq (⟨"Carryfree", "checkCell", "(I)V"⟩, 4) := ⟨⟨by decide +kernel, by decide +kernel⟩, List.mem_of_getElem? (i := 26) (by decide +kernel), List.mem_of_getElem? (i := 69) (by decide +kernel), List.mem_of_getElem? (i := 70) (by decide +kernel)⟩
theorem lw_p2 : lw_okq (⟨"java/lang/Throwable", "fillInStackTrace", "(I)Ljava/lang/Throwable;"⟩, 6) := ⟨⟨by decide +kernel, by decide +kernel⟩, List.mem_of_getElem? (i := 110) (by decide +kernel), List.mem_of_getElem? (i := 108) (by decide +kernel), List.mem_of_getElem? (i := 109) (by decide +kernel)⟩
theorem lw_p3 : lw_okq (⟨"Carryfree", "cellsWithZero", "()I"⟩, 4) := ⟨⟨by decide +kernel, by decide +kernel⟩, List.mem_of_getElem? (i := 26) (by decide +kernel), List.mem_of_getElem? (i := 222) (by decide +kernel), List.mem_of_getElem? (i := 223) (by decide +kernel)⟩
theorem lw_p4 : lw_okq (⟨"Carryfree", "allWeights", "()I"⟩, 4) := ⟨⟨by decide +kernel, by decide +kernel⟩, List.mem_of_getElem? (i := 26) (by decide +kernel), List.mem_of_getElem? (i := 226) (by decide +kernel), List.mem_of_getElem? (i := 227) (by decide +kernel)⟩
theorem lw_p5 : lw_okq (⟨"Carryfree", "fill", "(IJ)I"⟩, 4) := ⟨⟨by decide +kernel, by decide +kernel⟩, List.mem_of_getElem? (i := 26) (by decide +kernel), List.mem_of_getElem? (i := 253) (by decide +kernel), List.mem_of_getElem? (i := 254) (by decide +kernel)⟩
theorem lw_p6 : lw_okq (⟨"Carryfree", "fillProduct", "(IJJ)I"⟩, 4) := ⟨⟨by decide +kernel, by decide +kernel⟩, List.mem_of_getElem? (i := 26) (by decide +kernel), List.mem_of_getElem? (i := 327) (by decide +kernel), List.mem_of_getElem? (i := 328) (by decide +kernel)⟩
theorem lw_p7 : lw_okq (⟨"Carryfree", "refuse", "()I"⟩, 4) := ⟨⟨by decide +kernel, by decide +kernel⟩, List.mem_of_getElem? (i := 26) (by decide +kernel), List.mem_of_getElem? (i := 331) (by decide +kernel), List.mem_of_getElem? (i := 332) (by decide +kernel)⟩
theorem lw_p8 : lw_okq (⟨"CarryfreeModel", "start", "(ZI)Z"⟩, 5) := ⟨⟨by decide +kernel, by decide +kernel⟩, List.mem_of_getElem? (i := 937) (by decide +kernel), List.mem_of_getElem? (i := 969) (by decide +kernel), List.mem_of_getElem? (i := 970) (by decide +kernel)⟩
theorem lw_p9 : lw_okq (⟨"CarryfreeModel", "refuse", "(ZI)Z"⟩, 5) := ⟨⟨by decide +kernel, by decide +kernel⟩, List.mem_of_getElem? (i := 937) (by decide +kernel), List.mem_of_getElem? (i := 973) (by decide +kernel), List.mem_of_getElem? (i := 974) (by decide +kernel)⟩
theorem lw_p10 : lw_okq (⟨"CarryfreeModel", "lay", "(IJ)I"⟩, 5) := ⟨⟨by decide +kernel, by decide +kernel⟩, List.mem_of_getElem? (i := 937) (by decide +kernel), List.mem_of_getElem? (i := 978) (by decide +kernel), List.mem_of_getElem? (i := 979) (by decide +kernel)⟩
theorem lw_p11 : lw_okq (⟨"CarryfreeModel", "multiply", "(JJI)I"⟩, 5) := ⟨⟨by decide +kernel, by decide +kernel⟩, List.mem_of_getElem? (i := 937) (by decide +kernel), List.mem_of_getElem? (i := 1023) (by decide +kernel), List.mem_of_getElem? (i := 1024) (by decide +kernel)⟩
theorem lw_p12 : lw_okq (⟨"CarryfreeModel", "layIf", "(ZIJ)I"⟩, 5) := ⟨⟨by decide +kernel, by decide +kernel⟩, List.mem_of_getElem? (i := 937) (by decide +kernel), List.mem_of_getElem? (i := 1033) (by decide +kernel), List.mem_of_getElem? (i := 1034) (by decide +kernel)⟩
theorem lw_p13 : lw_okq (⟨"CarryfreeModel", "no", "()I"⟩, 5) := ⟨⟨by decide +kernel, by decide +kernel⟩, List.mem_of_getElem? (i := 937) (by decide +kernel), List.mem_of_getElem? (i := 1037) (by decide +kernel), List.mem_of_getElem? (i := 1038) (by decide +kernel)⟩
theorem lw_p14 : lw_okq (⟨"CarryfreeModel", "side", "(II)I"⟩, 5) := ⟨⟨by decide +kernel, by decide +kernel⟩, List.mem_of_getElem? (i := 937) (by decide +kernel), List.mem_of_getElem? (i := 1182) (by decide +kernel), List.mem_of_getElem? (i := 1183) (by decide +kernel)⟩
theorem lw_p15 : lw_okq (⟨"CarryfreeModel", "found", "(IZ)I"⟩, 5) := ⟨⟨by decide +kernel, by decide +kernel⟩, List.mem_of_getElem? (i := 937) (by decide +kernel), List.mem_of_getElem? (i := 1239) (by decide +kernel), List.mem_of_getElem? (i := 1240) (by decide +kernel)⟩
def lw_privs_1 : List (MethodName × Nat) := [(⟨"Carryfree", "polyIn", "(I)J"⟩, 4), (⟨"Carryfree", "checkCell", "(I)V"⟩, 4), (⟨"java/lang/Throwable", "fillInStackTrace", "(I)Ljava/lang/Throwable;"⟩, 6), (⟨"Carryfree", "cellsWithZero", "()I"⟩, 4), (⟨"Carryfree", "allWeights", "()I"⟩, 4), (⟨"Carryfree", "fill", "(IJ)I"⟩, 4), (⟨"Carryfree", "fillProduct", "(IJJ)I"⟩, 4), (⟨"Carryfree", "refuse", "()I"⟩, 4), (⟨"CarryfreeModel", "start", "(ZI)Z"⟩, 5), (⟨"CarryfreeModel", "refuse", "(ZI)Z"⟩, 5), (⟨"CarryfreeModel", "lay", "(IJ)I"⟩, 5), (⟨"CarryfreeModel", "multiply", "(JJI)I"⟩, 5), (⟨"CarryfreeModel", "layIf", "(ZIJ)I"⟩, 5), (⟨"CarryfreeModel", "no", "()I"⟩, 5), (⟨"CarryfreeModel", "side", "(II)I"⟩, 5), (⟨"CarryfreeModel", "found", "(IZ)I"⟩, 5)]
theorem lw_r1 : ∀ q ∈ lw_privs_1, lw_okq q := List.forall_mem_cons.mpr ⟨lw_p0, List.forall_mem_cons.mpr ⟨lw_p1, List.forall_mem_cons.mpr ⟨lw_p2, List.forall_mem_cons.mpr ⟨lw_p3, List.forall_mem_cons.mpr ⟨lw_p4, List.forall_mem_cons.mpr ⟨lw_p5, List.forall_mem_cons.mpr ⟨lw_p6, List.forall_mem_cons.mpr ⟨lw_p7, List.forall_mem_cons.mpr ⟨lw_p8, List.forall_mem_cons.mpr ⟨lw_p9, List.forall_mem_cons.mpr ⟨lw_p10, List.forall_mem_cons.mpr ⟨lw_p11, List.forall_mem_cons.mpr ⟨lw_p12, List.forall_mem_cons.mpr ⟨lw_p13, List.forall_mem_cons.mpr ⟨lw_p14, List.forall_mem_cons.mpr ⟨lw_p15, fun _ h => absurd h List.not_mem_nil⟩⟩⟩⟩⟩⟩⟩⟩⟩⟩⟩⟩⟩⟩⟩⟩
theorem lw_p16 : lw_okq (⟨"CarryfreeModel", "houseTold", "(I)I"⟩, 5) := ⟨⟨by decide +kernel, by decide +kernel⟩, List.mem_of_getElem? (i := 937) (by decide +kernel), List.mem_of_getElem? (i := 1247) (by decide +kernel), List.mem_of_getElem? (i := 1248) (by decide +kernel)⟩
theorem lw_p17 : lw_okq (⟨"CarryfreeModel", "isWhole", "()Z"⟩, 5) := ⟨⟨by decide +kernel, by decide +kernel⟩, List.mem_of_getElem? (i := 937) (by decide +kernel), List.mem_of_getElem? (i := 1259) (by decide +kernel), List.mem_of_getElem? (i := 1260) (by decide +kernel)⟩
def lw_privs_2 : List (MethodName × Nat) := [(⟨"CarryfreeModel", "houseTold", "(I)I"⟩, 5), (⟨"CarryfreeModel", "isWhole", "()Z"⟩, 5)]
theorem lw_r2 : ∀ q ∈ lw_privs_2, lw_okq q := List.forall_mem_cons.mpr ⟨lw_p16, List.forall_mem_cons.mpr ⟨lw_p17, fun _ h => absurd h List.not_mem_nil⟩⟩
def lw_privs : List (MethodName × Nat) := lw_privs_1 ++ (lw_privs_2)
def lw_tbl : List Cond := k2_sels lw_privs ++ tables_1
theorem lw_privs_ok : ∀ q ∈ lw_privs, lw_okq q := by
  show ∀ q ∈ lw_privs_1 ++ (lw_privs_2), lw_okq q
  exact List.forall_mem_append.mpr ⟨lw_r1, lw_r2⟩
/-- the tables' words that a call may bear: one list for every method -/
def T0 : List Cond := lw_tbl.filter goodWord
theorem T0_of {w : Cond} (h : w ∈ lw_tbl) (hg : goodWord w = true) : w ∈ T0 := List.mem_filter.mpr ⟨h, hg⟩
theorem T0_in {w : Cond} (h : w ∈ T0) : w ∈ lw_tbl := (List.mem_filter.mp h).1
theorem T0_good {w : Cond} (h : w ∈ T0) : (w.onTables && w.keeps) = true ∨ ∃ ty, w = .arrayClass ty := good_of_word (List.mem_filter.mp h).2
theorem tb1 {w : Cond} (h : w ∈ tables_1_1) : w ∈ lw_tbl := List.mem_append_right _ (List.mem_append_left _ h)
theorem tb2 {w : Cond} (h : w ∈ tables_1_2) : w ∈ lw_tbl := List.mem_append_right _ (List.mem_append_right _ (List.mem_append_left _ h))
theorem tb3 {w : Cond} (h : w ∈ tables_1_3) : w ∈ lw_tbl := List.mem_append_right _ (List.mem_append_right _ (List.mem_append_right _ (List.mem_append_left _ h)))
theorem tb4 {w : Cond} (h : w ∈ tables_1_4) : w ∈ lw_tbl := List.mem_append_right _ (List.mem_append_right _ (List.mem_append_right _ (List.mem_append_right _ (List.mem_append_left _ h))))
theorem tb5 {w : Cond} (h : w ∈ tables_1_5) : w ∈ lw_tbl := List.mem_append_right _ (List.mem_append_right _ (List.mem_append_right _ (List.mem_append_right _ (List.mem_append_right _ (List.mem_append_left _ h)))))
theorem tb6 {w : Cond} (h : w ∈ tables_1_6) : w ∈ lw_tbl := List.mem_append_right _ (List.mem_append_right _ (List.mem_append_right _ (List.mem_append_right _ (List.mem_append_right _ (List.mem_append_right _ (h))))))
/-- what the tables hold of a static method; of an instance method; of a constructor -/
def zS (y : MethodName) (bytes : ByteArray) (maxL : Nat) (ret : Option FieldType) : Prop := Cond.static y ∈ lw_tbl ∧ Cond.initialized y.cls ∈ lw_tbl ∧ Cond.code y bytes maxL ret ∈ lw_tbl
def zI (y : MethodName) (bytes : ByteArray) (maxL : Nat) (ret : Option FieldType) : Prop := Cond.instanceMethod y ∈ lw_tbl ∧ Cond.selects y.cls y y ∈ lw_tbl ∧ Cond.initialized y.cls ∈ lw_tbl ∧ Cond.code y bytes maxL ret ∈ lw_tbl
def zN (y : MethodName) (bytes : ByteArray) (maxL : Nat) : Prop := Cond.instanceMethod y ∈ lw_tbl ∧ Cond.initialized y.cls ∈ lw_tbl ∧ Cond.code y bytes maxL none ∈ lw_tbl
/-! ===== BEGIN exceptions that leave a method, and their catching by the caller (launches without stack traces) ===== -/
section VXA
/-! The laws vx_back, vx_callV, vx_callS, vx_callSW, vx_throw0, vx_throwS follow proofs of the library, with one case more: JvmDerived/Free/Laws.lean (Back.of_free), Shelf42/LK1.lean (callV, callS), Shelf/KitTraced.lean (throwNew0V, throwNewS). -/
/-- where a method has thrown q: the class by its name, the cell, what was written, the world -/
def vx_T (XC : String → State → State → Prop) (st : State) (q : Addr) (t : State) (mc ms : Nat) (free : Addr → Prop) : Prop :=
  ∃ (E : String) (ce : Cell) (L : List Loc), XC E st t ∧ t.heap[q]? = some ce ∧ ce.vm = .none ∧ st.vm.findClass E = some ce.cls ∧ st.WarmedH t.vm ∧ st.sameButNew ({ t with vm := st.vm } : State) L mc ms ∧ ∀ z ∈ L, free z.base
def vx_Q (Qc : Array Value → State → Outcome → State → Prop) (XC : String → State → State → Prop) (mc ms : Nat) (free : Addr → Prop) : Array Value → State → Outcome → State → Prop := fun a st o t =>
  (Qc a st o t ∧ ∃ L, FrameEnd st o t L mc ms ∧ ∀ q ∈ L, free q.base) ∨ ∃ q, o = .threw q ∧ vx_T XC st q t mc ms free
/-- a callee that returns or throws -/
def vx_Met (l : Launch) (y : MethodName) (ws : List Cond) (rm : Room) (Pc : Array Value → State → Prop) (Qc : Array Value → State → Outcome → State → Prop) (XC : String → State → State → Prop) (mc ms : Nat) (free : Addr → Prop) : Prop :=
  MetFree l y (headSpec ws rm) Pc (fun _ _ _ _ _ => True) (vx_Q Qc XC mc ms free)
def vx_Post (XC : String → State → State → Prop) (mc ms : Nat) (free : Addr → Prop) : Pt → Array Value → Addr → Pt → Prop := fun A a q B =>
  ∃ (g : JFrame) (mk : MethodId) (t : State) (L : List Loc) (E : String) (ce : Cell), B.U.heap = t.heap ∧ B.U.vm = t.vm ∧ XC E (A.U.calling g mk a) t ∧ t.heap[q]? = some ce ∧ ce.vm = .none ∧ A.U.vm.findClass E = some ce.cls ∧ B.locs = A.locs ++ L ∧ (∀ z ∈ L, free z.base) ∧ B.cells = A.cells + mc ∧ B.slots = A.slots + ms
def vx_Back (l : Launch) (R : Room) (p : Program) (e : Env) (below : List Frame) (s : State) (sargs : Array Value) (y : MethodName) (len W9 : Nat)
    (Pre : Pt → Array Value → Prop) (Post : Pt → Array Value → Option Value → Pt → Prop) (PostX : Pt → Array Value → Addr → Pt → Prop) : Prop :=
  ∀ (m : MethodId) (meth : Method) (c : Code) (A : Pt) (g : JFrame) (ig : Instr) (mk : MethodId) (a : Array Value),
    Stand p l e R s m sargs below meth c A.U A.locs A.cells A.slots → g.method = m → g.locals.size = c.maxLocals → decode c.code g.pc = .ok (ig, len) →
    2 * g.monitorRoom + (g.stack.map fun v => v.category).sum ≤ W9 → A.U.methodNamed? y = some mk → Pre A a →
    (∃ (v : Option Value) (B : Pt), Stand p l e R s m sargs below meth c B.U B.locs B.cells B.slots ∧ Post A a v B ∧
      Steps p.tables e below (doInvoke e (A.U.setTop g) [] mk a).1 (B.U.setTop { g with pc := g.pc + len, stack := v.toList ++ g.stack })) ∨
    (∃ (q : Addr) (B : Pt), Stand p l e R s m sargs below meth c B.U B.locs B.cells B.slots ∧ PostX A a q B ∧
      Steps p.tables e below (doInvoke e (A.U.setTop g) [] mk a).1 ((B.U.setTop g).pushFrame (.throwing q)))
section Payer
variable {l : Launch} {R : Room} {p : Program} {e : Env} {below : List Frame} {s : State} {sargs : Array Value} {y : MethodName} {len W9 : Nat}
theorem vx_back {ws : List Cond} {rm : Room} {Pc : Array Value → State → Prop} {Qc : Array Value → State → Outcome → State → Prop} {XC : String → State → State → Prop} {mc ms : Nat} {free : Addr → Prop} {bytes : ByteArray} {maxL : Nat} {ret : Option FieldType}
    (hM : vx_Met l y ws rm Pc Qc XC mc ms free) (hblind : FrameBlind Pc) (hrc : rm.cells = mc) (hrs : rm.slots = ms)
    (hframes : rm.frames + 1 ≤ R.frames) (hlocals : W9 + (maxL + 11) + rm.locals ≤ R.locals)
    (hws : ∀ w ∈ ws, ∀ a' U, s.WarmedH U.vm → w.before a' U = true) (hcode : Cond.code y bytes maxL ret ∈ ws) (hinit : ∀ a' U, s.WarmedH U.vm → (Cond.initialized y.cls).before a' U = true) :
    vx_Back l R p e below s sargs y len W9 (PreOf R mc ms Pc) (PostOf Qc mc ms free) (vx_Post XC mc ms free) := by
  intro m meth c A g ig mk a X hg hsize hdg hW hn hp
  have h1 : (headSpec ws rm).pre.before a A.U = true := atoms_intro fun w hw => hws w hw _ _ X.warmed
  have h2 : (Cond.code y bytes maxL ret).before a A.U = true := hws _ hcode _ _ X.warmed
  have h3 : (Cond.initialized y.cls).before a A.U = true := hinit _ _ X.warmed
  have h4 : A.cells + (headSpec ws rm).room.cells ≤ R.cells := by rw [show (headSpec ws rm).room.cells = mc from hrc]; exact hp.1
  have h5 : A.slots + (headSpec ws rm).room.slots ≤ R.slots := by rw [show (headSpec ws rm).room.slots = ms from hrs]; exact hp.2.1
  have hPc : Pc a (A.U.calling g mk a) := hblind _ _ _ _ hp.2.2
  obtain ⟨U, Ls, c0, s0⟩ := A
  dsimp only [Pt.U, Pt.locs, Pt.cells, Pt.slots] at h1 h2 h3 h4 h5 X hn hPc ⊢
  obtain ⟨methY, cY, hmY, hcY, -, hlY, -, -, -, -⟩ := Cond.code_spec hn h2
  obtain ⟨kY, hkY, -⟩ := className_of_methodNamed hn
  have hinitY : kY.init = .initialized := Cond.initialized_spec (findClass_of_methodNamed hn) hkY h3
  have h : At U g.method c below := by rw [hg]; exact X.here
  have hlocals9 : W9 + (maxL + 11) + (headSpec ws rm).room.locals ≤ R.locals := hlocals
  have happ : (headSpec ws rm).appliesLoose y e.platform (U.calling g mk a) = true :=
    Spec.appliesLoose_calling (g := g) h hdg hn hkY hinitY
      (X.room_calling (g := g) (R' := (headSpec ws rm).room) hsize hmY hcY hframes (by rw [hlY]; omega) h4 h5) h1
  obtain ⟨mid, hmid⟩ := h.above
  have hfr : (U.setTop g).frames = (.java g :: mid) ++ below := by rw [State.frames_setTop' g h.top, hmid]; rfl
  obtain ⟨o, s₂, hsteps, -, hend, hq⟩ := Steps.callFree hM p X.admits X.cas X.clock (acts := []) hfr happ hPc trivial
  have hq' : vx_Q Qc XC mc ms free a (U.calling g mk a) o s₂ := hq
  rw [State.frames_setTop' g h.top] at hend
  obtain ⟨g₀, hg0⟩ := Option.isSome_iff_exists.mp h.top
  obtain ⟨r, hr⟩ := State.topJava?_eq_some.mp hg0
  have hr' : (({ U with heap := s₂.heap, slotsUsed := s₂.slotsUsed } : State).setVm s₂.vm).frames = .java g₀ :: r := hr
  rcases hq' with ⟨hqc, L, hfe, hL⟩ | ⟨q, rfl, E, ce, L, hx, hce, hcv, hcl, hW₂, hsm, hL⟩
  · obtain ⟨⟨v, rfl⟩, hW₂, e2, q2, q3, q4, q5, q6⟩ := id hfe
    have e3 : s₂ = ({ (U.calling g mk a).setFrames s₂.frames with heap := s₂.heap, slotsUsed := s₂.slotsUsed } : State).setVm s₂.vm := by
      have : s₂ = ({ s₂ with vm := (U.calling g mk a).vm } : State).setVm s₂.vm := rfl
      rw [e2] at this
      exact this
    obtain ⟨c₂, i₂, len₂, hc₂, hd₂, hf₂⟩ := hend
    have hW' : U.WarmedH s₂.vm := hW₂
    have hcc : c₂ = c := by
      have h1 : s₂.code? g.method = U.code? g.method := by
        rw [State.code?_eq, State.code?_eq, hW'.alike.method?]
      exact Option.some.inj (hc₂.symm.trans (h1.trans h.code))
    subst hcc
    have hlen : len₂ = len := by rw [hdg] at hd₂; cases hd₂; rfl
    subst hlen
    have hs₂ : s₂ = (({ U with heap := s₂.heap, slotsUsed := s₂.slotsUsed } : State).setVm s₂.vm).setTop { g with pc := g.pc + len₂, stack := v.toList ++ g.stack } := by
      refine e3.trans ?_
      rw [hf₂, State.calling_eq h.top, State.setFrames_setFrames, State.setTop_of_frames _ hr', hr]
      rfl
    have hsame : U.sameButNew ({ U with heap := s₂.heap, slotsUsed := s₂.slotsUsed } : State) L mc ms := by
      refine ⟨?_, q2, q3, q4, q5, q6⟩
      obtain ⟨t, ht, -⟩ := State.frames_cons hr
      show ({ U with heap := s₂.heap, slotsUsed := s₂.slotsUsed } : State) = { U.setFrames U.frames with heap := s₂.heap, slotsUsed := s₂.slotsUsed }
      rw [State.setFrames_self ht]
    subst hg
    refine Or.inl ⟨v, ⟨(({ U with heap := s₂.heap, slotsUsed := s₂.slotsUsed } : State).setVm s₂.vm), Ls ++ L, c0 + mc, s0 + ms⟩,
      ⟨X.admits, X.cas, X.clock, X.frames, X.room, X.hears, X.method, X.code, (X.here.setHeapUsed s₂.heap s₂.slotsUsed).setVm hW'.alike, X.tail, State.WarmedH.trans X.warmed hW', X.limits, X.bytes, X.same.trans (hsame.setVm s.vm)⟩,
      ⟨g, mk, s₂, L, rfl, rfl, hqc, rfl, hL, rfl, rfl⟩, ?_⟩
    show Steps p.tables e below _ ((({ U with heap := s₂.heap, slotsUsed := s₂.slotsUsed } : State).setVm s₂.vm).setTop { g with pc := g.pc + len₂, stack := v.toList ++ g.stack })
    rw [← hs₂]
    exact hsteps
  · obtain ⟨e2, q2, q3, q4, q5, q6⟩ := id hsm
    have e3 : s₂ = ({ (U.calling g mk a).setFrames s₂.frames with heap := s₂.heap, slotsUsed := s₂.slotsUsed } : State).setVm s₂.vm := by
      have : s₂ = ({ s₂ with vm := (U.calling g mk a).vm } : State).setVm s₂.vm := rfl
      rw [e2] at this
      exact this
    have hf₂ : s₂.frames = .throwing q :: .java g :: U.frames.tail := hend
    have hW' : U.WarmedH s₂.vm := hW₂
    have hs₂ : s₂ = ((({ U with heap := s₂.heap, slotsUsed := s₂.slotsUsed } : State).setVm s₂.vm).setTop g).pushFrame (.throwing q) := by
      refine e3.trans ?_
      rw [hf₂, State.calling_eq h.top, State.setFrames_setFrames, State.pushFrame, State.frames_setTop _ hr', State.setTop_of_frames _ hr', State.setFrames_setFrames, hr]
      rfl
    have hsame : U.sameButNew ({ U with heap := s₂.heap, slotsUsed := s₂.slotsUsed } : State) L mc ms := by
      refine ⟨?_, q2, q3, q4, q5, q6⟩
      obtain ⟨t, ht, -⟩ := State.frames_cons hr
      show ({ U with heap := s₂.heap, slotsUsed := s₂.slotsUsed } : State) = { U.setFrames U.frames with heap := s₂.heap, slotsUsed := s₂.slotsUsed }
      rw [State.setFrames_self ht]
    subst hg
    refine Or.inr ⟨q, ⟨(({ U with heap := s₂.heap, slotsUsed := s₂.slotsUsed } : State).setVm s₂.vm), Ls ++ L, c0 + mc, s0 + ms⟩,
      ⟨X.admits, X.cas, X.clock, X.frames, X.room, X.hears, X.method, X.code, (X.here.setHeapUsed s₂.heap s₂.slotsUsed).setVm hW'.alike, X.tail, State.WarmedH.trans X.warmed hW', X.limits, X.bytes, X.same.trans (hsame.setVm s.vm)⟩,
      ⟨g, mk, s₂, L, E, ce, rfl, rfl, hx, hce, hcv, hcl, rfl, hL, rfl, rfl⟩, ?_⟩
    show Steps p.tables e below _ (((({ U with heap := s₂.heap, slotsUsed := s₂.slotsUsed } : State).setVm s₂.vm).setTop g).pushFrame (.throwing q))
    rw [← hs₂]
    exact hsteps
end Payer
section Calls
variable {p : Program} {l : Launch} {e : Env} {R : Room} {s : State} {m : MethodId} {args : Array Value} {below : List Frame} {meth : Method} {c : Code} {T : State} {locs : List Loc} {cells slots : Nat}
theorem vx_callV (X : Stand p l e R s m args below meth c T locs cells slots) (hexec : p.tables.exec = Jvm.exec) {own C : String} {index : Nat} {y : MethodName} {bytes : ByteArray} {maxL : Nat} {ret : Option FieldType}
    (hown : s.vm.findClass own = some m.cls) (hlink : (Cond.methodLink own index y).before args s = true) (hinst : (Cond.instanceMethod y).before args s = true) (hsel : (Cond.selects C y y).before args s = true)
    (hcode : (Cond.code y bytes maxL ret).before args s = true) (hy : y.cls ≠ "java/lang/invoke/MethodHandle" ∧ y.cls ≠ "java/lang/invoke/VarHandle")
    {W9 : Nat} {Pre : Pt → Array Value → Prop} {Post : Pt → Array Value → Option Value → Pt → Prop} {PostX : Pt → Array Value → Addr → Pt → Prop} (hK : vx_Back l R p e below s args y 3 W9 Pre Post PostX)
    {b : Addr} {cellB : Cell} (hcell : T.heap[b]? = some cellB) (hobj : cellB.vm.isStatics = false) (hcls : s.vm.findClass C = some cellB.cls)
    {g : JFrame} (hg : g.method = m) (hsize : g.locals.size = c.maxLocals) {argsL rest : List Value} (hlen : ∀ sig, parseMethodDescriptor y.desc = some sig → argsL.length = sig.parameters.length)
    (hstack : g.stack = argsL.reverse ++ .ref b :: rest) (hW : 2 * g.monitorRoom + (rest.map fun v => v.category).sum ≤ W9) (hdg : decode c.code g.pc = .ok (.invokevirtual index, 3))
    (hpre : ∀ vm₁, s.WarmedH vm₁ → Pre ⟨T.setVm vm₁, locs, cells, slots⟩ (Value.ref b :: argsL).toArray) :
    (∃ (v : Option Value) (vm₁ : Vm) (B : Pt), s.WarmedH vm₁ ∧ Stand p l e R s m args below meth c B.U B.locs B.cells B.slots ∧ Post ⟨T.setVm vm₁, locs, cells, slots⟩ (Value.ref b :: argsL).toArray v B ∧
      ∀ target, Steps p.tables e below (B.U.setTop { g with pc := g.pc + 3, stack := v.toList ++ rest }) target → Steps p.tables e below (T.setTop g) target) ∨
    (∃ (q : Addr) (vm₁ : Vm) (B : Pt), s.WarmedH vm₁ ∧ Stand p l e R s m args below meth c B.U B.locs B.cells B.slots ∧ PostX ⟨T.setVm vm₁, locs, cells, slots⟩ (Value.ref b :: argsL).toArray q B ∧
      Steps p.tables e below (T.setTop g) ((B.U.setTop { g with stack := rest }).pushFrame (.throwing q))) := by
  obtain ⟨mk, methM, hnamed, hmethM, hstM, habM⟩ := Cond.instanceMethod_spec hinst
  obtain ⟨methM', cM, hmethM', -, -, -, -, -, -, hsigM⟩ := Cond.code_spec hnamed hcode
  cases hmethM.symm.trans hmethM'
  obtain ⟨c2, r2, m2, q1, q2, q3, q4, kP, hkP, hkPi⟩ := Cond.selects_spec hsel
  cases hcls.symm.trans q1
  cases (State.methodFound?_of_named hnamed hy).symm.trans q2
  cases hnamed.symm.trans q3
  have hselP : selectMethod e.platform s.vm cellB.cls mk = .method mk := by rw [Launch.admits_selectMethod X.admits]; exact q4
  obtain ⟨vm₁, X₁, hstep₁⟩ := X.invokevirtual hexec hown hlink hnamed hmethM hstM hkP hkPi hy (a := b) (cell := cellB) hcell
    (fun z h => by rw [h] at hobj; cases hobj) hselP hmethM habM hkP hkPi (g := g) hg (argsL := argsL) (rest := rest) (hlen _ hsigM) hstack hdg
  rcases hK m meth c ⟨T.setVm vm₁, locs, cells, slots⟩ { g with stack := rest } (.invokevirtual index) mk (Value.ref b :: argsL).toArray X₁ hg hsize hdg hW (X₁.named hnamed) (hpre vm₁ X₁.warmed) with ⟨v, B, X', hpost, hsteps⟩ | ⟨q, B, X', hpost, hsteps⟩
  · exact Or.inl ⟨v, vm₁, B, X₁.warmed, X', hpost, fun target h => hstep₁ _ fun acts => by rw [doInvoke_state]; exact hsteps.trans h⟩
  · exact Or.inr ⟨q, vm₁, B, X₁.warmed, X', hpost, hstep₁ _ fun acts => by rw [doInvoke_state]; exact hsteps⟩
theorem vx_callS (X : Stand p l e R s m args below meth c T locs cells slots) (hexec : p.tables.exec = Jvm.exec) {own : String} {index : Nat} {y : MethodName} {bytes : ByteArray} {maxL : Nat} {ret : Option FieldType}
    (hown : s.vm.findClass own = some m.cls) (hlink : (Cond.methodLink own index y).before args s = true) (hstat : (Cond.static y).before args s = true) (hinit : (Cond.initialized y.cls).before args s = true)
    (hcode : (Cond.code y bytes maxL ret).before args s = true) (hy : y.cls ≠ "java/lang/invoke/MethodHandle" ∧ y.cls ≠ "java/lang/invoke/VarHandle")
    {W9 : Nat} {Pre : Pt → Array Value → Prop} {Post : Pt → Array Value → Option Value → Pt → Prop} {PostX : Pt → Array Value → Addr → Pt → Prop} (hK : vx_Back l R p e below s args y 3 W9 Pre Post PostX)
    {g : JFrame} (hg : g.method = m) (hsize : g.locals.size = c.maxLocals) {argsL rest : List Value} (hlen : ∀ sig, parseMethodDescriptor y.desc = some sig → argsL.length = sig.parameters.length)
    (hstack : g.stack = argsL.reverse ++ rest) (hW : 2 * g.monitorRoom + (rest.map fun v => v.category).sum ≤ W9) (hdg : decode c.code g.pc = .ok (.invokestatic index, 3))
    (hpre : ∀ vm₁, s.WarmedH vm₁ → Pre ⟨T.setVm vm₁, locs, cells, slots⟩ argsL.toArray) :
    (∃ (v : Option Value) (vm₁ : Vm) (B : Pt), s.WarmedH vm₁ ∧ Stand p l e R s m args below meth c B.U B.locs B.cells B.slots ∧ Post ⟨T.setVm vm₁, locs, cells, slots⟩ argsL.toArray v B ∧
      ∀ target, Steps p.tables e below (B.U.setTop { g with pc := g.pc + 3, stack := v.toList ++ rest }) target → Steps p.tables e below (T.setTop g) target) ∨
    (∃ (q : Addr) (vm₁ : Vm) (B : Pt), s.WarmedH vm₁ ∧ Stand p l e R s m args below meth c B.U B.locs B.cells B.slots ∧ PostX ⟨T.setVm vm₁, locs, cells, slots⟩ argsL.toArray q B ∧
      Steps p.tables e below (T.setTop g) ((B.U.setTop { g with stack := rest }).pushFrame (.throwing q))) := by
  obtain ⟨mk, hnamed⟩ := Cond.code_named hcode
  obtain ⟨methM, cM, hmethM, -, -, -, -, -, -, hsigM⟩ := Cond.code_spec hnamed hcode
  have hstatic : methM.isStatic = true := Cond.static_spec hnamed hmethM hstat
  obtain ⟨kP, hkP, -⟩ := className_of_methodNamed hnamed
  have hinitP : kP.init = .initialized := Cond.initialized_spec (findClass_of_methodNamed hnamed) hkP hinit
  obtain ⟨vm₁, X₁, hstep₁⟩ := X.invokestatic hexec hown hlink hnamed hmethM hstatic hkP hinitP hy (g := g) hg (argsL := argsL) (rest := rest) (hlen _ hsigM) hstack hdg
  rcases hK m meth c ⟨T.setVm vm₁, locs, cells, slots⟩ { g with stack := rest } (.invokestatic index) mk argsL.toArray X₁ hg hsize hdg hW (X₁.named hnamed) (hpre vm₁ X₁.warmed) with ⟨v, B, X', hpost, hsteps⟩ | ⟨q, B, X', hpost, hsteps⟩
  · exact Or.inl ⟨v, vm₁, B, X₁.warmed, X', hpost, fun target h => hstep₁ _ fun acts => by rw [doInvoke_state]; exact hsteps.trans h⟩
  · exact Or.inr ⟨q, vm₁, B, X₁.warmed, X', hpost, hstep₁ _ fun acts => by rw [doInvoke_state]; exact hsteps⟩
end Calls
theorem vx_cls {s : State} {T : State} {vm₁ : Vm} {E : String} {k : ClassId} (hW : s.WarmedH vm₁) (h : (T.setVm vm₁).vm.findClass E = some k) : s.vm.findClass E = some k := by
  have h1 : vm₁.findClass E = some k := h
  rw [hW.alike.findClass] at h1
  exact h1
/-- the method's frame g, with q thrown over it -/
def vx_W (p : Program) (l : Launch) (e : Env) (R : Room) (s : State) (m : MethodId) (args : Array Value) (below : List Frame) (meth : Method) (c : Code) (H : Heap) (locs : List Loc) (cells slots : Nat) (Q : State → Prop) (g : JFrame) (q : Addr) : Prop :=
  ∀ T : State, T.heap = H → Stand p l e R s m args below meth c T locs cells slots → ∃ t, Steps p.tables e below ((T.setTop g).pushFrame (.throwing q)) t ∧ Q t
def vx_Run (p : Program) (l : Launch) (e : Env) (R : Room) (s : State) (m : MethodId) (args : Array Value) (below : List Frame) (meth : Method) (c : Code) (H : Heap) (locs : List Loc) (cells slots mc ms : Nat) (g : JFrame) (rest : List Value) (Qa : State → Outcome → State → Prop) (XC : String → State → State → Prop) (free : Addr → Prop) : Prop :=
  ∀ T : State, T.heap = H → Stand p l e R s m args below meth c T locs cells slots →
    (∃ (v : Option Value) (st₀ t T' : State) (L : List Loc), st₀.heap = H ∧ Stand p l e R s m args below meth c T' (locs ++ L) (cells + mc) (slots + ms) ∧ (∀ q ∈ L, free q.base) ∧ T'.heap = t.heap ∧ T'.vm = t.vm ∧ Qa st₀ (.returned v) t ∧
      Goes p e below T g T' { g with pc := g.pc + 3, stack := v.toList ++ rest }) ∨
    (∃ (q : Addr) (st₀ t T' : State) (L : List Loc) (E : String) (ce : Cell), st₀.heap = H ∧ Stand p l e R s m args below meth c T' (locs ++ L) (cells + mc) (slots + ms) ∧ (∀ z ∈ L, free z.base) ∧ T'.heap = t.heap ∧ T'.vm = t.vm ∧ XC E st₀ t ∧ t.heap[q]? = some ce ∧ ce.vm = .none ∧ s.vm.findClass E = some ce.cls ∧
      Steps p.tables e below (T.setTop g) ((T'.setTop { g with stack := rest }).pushFrame (.throwing q)))
def vx_X {S : Type} (px : S → Prop) (B : String → S → State → Prop) (A : Nat → Prop) : String → State → State → Prop := fun E st t => ∃ u : S, px u ∧ B E u t ∧ va_F A st t
section Runs
variable {p : Program} {l : Launch} {e : Env} {R : Room} {s : State} {m : MethodId} {args : Array Value} {below : List Frame} {meth : Method} {c : Code} {H : Heap} {locs : List Loc} {cells slots : Nat}
variable {y : MethodName} {bytes cc : ByteArray} {maxL nL mc ms n index : Nat} {ret : Option FieldType} {ws : List Cond} {rm : Room} {Pc : Array Value → State → Prop} {Qc : Array Value → State → Outcome → State → Prop} {XC : String → State → State → Prop} {free : Addr → Prop} {Ts : List Cond} {own C : String} {b : Addr} {As rest : List Value} {g : JFrame}
theorem vx_callBack (cb : CallB R s args own index y bytes maxL ret ws rm mc ms n) (hM : vx_Met l y ws rm Pc Qc XC mc ms free) (hbl : FrameBlind Pc) : vx_Back l R p e below s args y 3 8 (PreOf R mc ms Pc) (PostOf Qc mc ms free) (vx_Post XC mc ms free) := by
  obtain ⟨hrc, hrs, hfr, hlo, hws, hcw, -, hini, -⟩ := cb
  exact vx_back (bytes := bytes) (maxL := maxL) (ret := ret) hM hbl hrc hrs hfr hlo hws hcw (fun a' U hW => word_at hW (Or.inl (by first | rfl | simp [Cond.onTables, Cond.keeps, Cond.steady])) hini)
theorem vx_runV (S : CallFix p m c cc nL s args Ts own) (hM : vx_Met l y ws rm Pc Qc XC mc ms free) (cw : CallW R s args own C index y bytes maxL ret ws rm mc ms n) (hp : PreV s H C b Pc As)
    (hg : g.method = m) (hn : As.length = n) (hsize : g.locals.size = nL) (hstack : g.stack = As.reverse ++ .ref b :: rest) (hW : 2 * g.monitorRoom + (rest.map fun v => v.category).sum ≤ 8) (hdg : decode cc g.pc = .ok (.invokevirtual index, 3)) (hf : cells + mc ≤ R.cells ∧ slots + ms ≤ R.slots) :
    vx_Run p l e R s m args below meth c H locs cells slots mc ms g rest (Qc (Value.ref b :: As).toArray) XC free := by
  have hK : vx_Back l R p e below s args y 3 8 (PreOf R mc ms Pc) (PostOf Qc mc ms free) (vx_Post XC mc ms free) := vx_callBack cw.1 hM hp.1
  obtain ⟨⟨-, -, -, -, -, -, hcode, -, hy, hlen, hl⟩, hin, hse⟩ := cw
  obtain ⟨hx, hb, hml, ho, -⟩ := S
  obtain ⟨-, ⟨cellB, hcB, hoB, hclB⟩, hPc⟩ := hp
  intro T hT X
  rcases vx_callV X hx (C := C) (bytes := bytes) (maxL := maxL) (ret := ret) ho hl hin hse hcode hy hK (by rw [hT]; exact hcB) hoB hclB hg (hsize.trans hml.symm) (argsL := As) (rest := rest) (fun sig h => hn.trans (hlen sig h)) hstack hW (by rw [hb]; exact hdg)
    (fun vm₁ hW₁ => ⟨hf.1, hf.2, hPc (T.setVm vm₁) hT hW₁⟩) with ⟨v, vm₁, ⟨U', l2, c2, s2⟩, hW₁, X', ⟨g', mk, t, L, e1, e2, hq, h1, hL, h2, h3⟩, st⟩ | ⟨q, vm₁, ⟨U', l2, c2, s2⟩, hW₁, X', ⟨g', mk, t, L, E, ce, e1, e2, hq, hce, hcv, hcl, h1, hL, h2, h3⟩, st⟩
  · dsimp only [Pt.U, Pt.locs, Pt.cells, Pt.slots] at X' e1 e2 h1 h2 h3 st
    subst h1; subst h2; subst h3
    exact Or.inl ⟨v, (T.setVm vm₁).calling g' mk (Value.ref b :: As).toArray, t, U', L, hT, X', hL, e1, e2, hq, st⟩
  · dsimp only [Pt.U, Pt.locs, Pt.cells, Pt.slots] at X' e1 e2 h1 h2 h3 st hcl
    subst h1; subst h2; subst h3
    exact Or.inr ⟨q, (T.setVm vm₁).calling g' mk (Value.ref b :: As).toArray, t, U', L, E, ce, hT, X', hL, e1, e2, hq, hce, hcv, vx_cls hW₁ hcl, st⟩
theorem vx_runS (S : CallFix p m c cc nL s args Ts own) (hM : vx_Met l y ws rm Pc Qc XC mc ms free) (cw : CallB R s args own index y bytes maxL ret ws rm mc ms n ∧ (Cond.static y).before args s = true) (hp : PreS s H Pc As)
    (hg : g.method = m) (hn : As.length = n) (hsize : g.locals.size = nL) (hstack : g.stack = As.reverse ++ rest) (hW : 2 * g.monitorRoom + (rest.map fun v => v.category).sum ≤ 8) (hdg : decode cc g.pc = .ok (.invokestatic index, 3)) (hf : cells + mc ≤ R.cells ∧ slots + ms ≤ R.slots) :
    vx_Run p l e R s m args below meth c H locs cells slots mc ms g rest (Qc As.toArray) XC free := by
  have hK : vx_Back l R p e below s args y 3 8 (PreOf R mc ms Pc) (PostOf Qc mc ms free) (vx_Post XC mc ms free) := vx_callBack cw.1 hM hp.1
  obtain ⟨⟨-, -, -, -, -, -, hcode, hini, hy, hlen, hl⟩, hstt⟩ := cw
  obtain ⟨hx, hb, hml, ho, -⟩ := S
  intro T hT X
  rcases vx_callS X hx (bytes := bytes) (maxL := maxL) (ret := ret) ho hl hstt hini hcode hy hK hg (hsize.trans hml.symm) (argsL := As) (rest := rest) (fun sig h => hn.trans (hlen sig h)) hstack hW (by rw [hb]; exact hdg)
    (fun vm₁ hW₁ => ⟨hf.1, hf.2, hp.2 (T.setVm vm₁) hT hW₁⟩) with ⟨v, vm₁, ⟨U', l2, c2, s2⟩, hW₁, X', ⟨g', mk, t, L, e1, e2, hq, h1, hL, h2, h3⟩, st⟩ | ⟨q, vm₁, ⟨U', l2, c2, s2⟩, hW₁, X', ⟨g', mk, t, L, E, ce, e1, e2, hq, hce, hcv, hcl, h1, hL, h2, h3⟩, st⟩
  · dsimp only [Pt.U, Pt.locs, Pt.cells, Pt.slots] at X' e1 e2 h1 h2 h3 st
    subst h1; subst h2; subst h3
    exact Or.inl ⟨v, (T.setVm vm₁).calling g' mk As.toArray, t, U', L, hT, X', hL, e1, e2, hq, st⟩
  · dsimp only [Pt.U, Pt.locs, Pt.cells, Pt.slots] at X' e1 e2 h1 h2 h3 st hcl
    subst h1; subst h2; subst h3
    exact Or.inr ⟨q, (T.setVm vm₁).calling g' mk As.toArray, t, U', L, E, ce, hT, X', hL, e1, e2, hq, hce, hcv, vx_cls hW₁ hcl, st⟩
end Runs
section Rows
variable {p : Program} {l : Launch} {e : Env} {R : Room} {s : State} {m : MethodId} {args : Array Value} {below : List Frame} {meth : Method} {c : Code} {H : Heap} {locs : List Loc} {cells slots : Nat} {Q : State → Prop}
variable {mc ms : Nat} {free : Addr → Prop} {A0 A1 : Nat → Prop} {H0 : Heap} {a : Array Value} {pc : Nat} {ls : Array Slot} {st0 rest : List Value}
theorem vx_keep {st₀ t T' : State} {L : List Loc} (h0 : st₀.heap = H) (e1 : T'.heap = t.heap) (hS : va_S A0 H0 H locs) (hA : ∀ q, q < H.size → A1 q → A0 q) (hf : ∀ q, free q → A0 q) (hL : ∀ q ∈ L, free q.base) (hF : va_F A1 st₀ t) :
    H.size ≤ T'.heap.size ∧ (∀ q : Nat, q < H.size → ¬ A1 q → T'.heap[q]? = H[q]?) ∧ va_S A0 H0 T'.heap (locs ++ L) := by
  obtain ⟨hz, hk⟩ := hF
  rw [h0] at hz hk
  exact ⟨by rw [e1]; exact hz, fun q h1 h2 => by rw [e1]; exact hk q h1 h2,
    ⟨Nat.le_trans hS.1 (by rw [e1]; exact hz), fun q h1 h2 => by rw [e1, hk q (Nat.lt_of_lt_of_le h1 hS.1) (fun z => h2 (hA q (Nat.lt_of_lt_of_le h1 hS.1) z))]; exact hS.2.1 q h1 h2, fun q hq => by
      rcases List.mem_append.mp hq with h | h
      · exact hS.2.2 q h
      · exact hf _ (hL q h)⟩⟩
theorem vx_calli {S SX : Type} {post : Int32 → S → Prop} {px : SX → Prop} {B : S → State → Prop} {BX : String → SX → State → Prop} {AX : Nat → Prop} (hr : vx_Run p l e R s m args below meth c H locs cells slots mc ms (F0 m pc ls st0) rest (va_Qi post B A1 a) (vx_X px BX AX) free) (hS : va_S A0 H0 H locs) (hA : ∀ q, q < H.size → A1 q → A0 q) (hf : ∀ q, free q → A0 q) (hAX : ∀ q, q < H.size → AX q → A0 q)
    (kx : ∀ (E : String) (ce : Cell) (q9 : Addr) (u : SX) (t : State) (H1 : Heap) (locs1 : List Loc), t.heap = H1 → s.vm.Alike t.vm → px u → BX E u t → H.size ≤ H1.size → (∀ q : Nat, q < H.size → ¬ AX q → H1[q]? = H[q]?) → va_S A0 H0 H1 locs1 → H1[q9]? = some ce → ce.vm = .none → s.vm.findClass E = some ce.cls → vx_W p l e R s m args below meth c H1 locs1 (cells + mc) (slots + ms) Q (F0 m pc ls rest) q9)
    (kk : ∀ (r : Int32) (u : S) (t : State) (H1 : Heap) (locs1 : List Loc), t.heap = H1 → s.vm.Alike t.vm → post r u → B u t → H.size ≤ H1.size → (∀ q : Nat, q < H.size → ¬ A1 q → H1[q]? = H[q]?) → va_S A0 H0 H1 locs1 → W p l e R s m args below meth c H1 locs1 (cells + mc) (slots + ms) Q (F0 m (pc + 3) ls (.int r :: rest))) : W p l e R s m args below meth c H locs cells slots Q (F0 m pc ls st0) := by
  intro T hT X
  rcases hr T hT X with ⟨v, st₀, t, T', L, h0, X', hL, e1, e2, ⟨⟨r, u, hv, hp, hb⟩, hF⟩, st⟩ | ⟨q, st₀, t, T', L, E, ce, h0, X', hL, e1, e2, ⟨u, hp, hb, hF⟩, hce, hcv, hcl, st⟩
  · cases hv
    obtain ⟨k1, k2, k3⟩ := vx_keep h0 e1 hS hA hf hL hF
    obtain ⟨t2, a1, b1⟩ := kk r u t T'.heap (locs ++ L) e1.symm (by rw [← e2]; exact X'.warmed.alike) hp hb k1 k2 k3 T' rfl X'
    exact ⟨t2, st t2 a1, b1⟩
  · obtain ⟨k1, k2, k3⟩ := vx_keep h0 e1 hS hAX hf hL hF
    obtain ⟨t2, a1, b1⟩ := kx E ce q u t T'.heap (locs ++ L) e1.symm (by rw [← e2]; exact X'.warmed.alike) hp hb k1 k2 k3 (by rw [e1]; exact hce) hcv hcl T' rfl X'
    exact ⟨t2, st.trans a1, b1⟩
theorem vx_calll {S SX : Type} {post : Int64 → S → Prop} {px : SX → Prop} {B : S → State → Prop} {BX : String → SX → State → Prop} {AX : Nat → Prop} (hr : vx_Run p l e R s m args below meth c H locs cells slots mc ms (F0 m pc ls st0) rest (va_Ql post B A1 a) (vx_X px BX AX) free) (hS : va_S A0 H0 H locs) (hA : ∀ q, q < H.size → A1 q → A0 q) (hf : ∀ q, free q → A0 q) (hAX : ∀ q, q < H.size → AX q → A0 q)
    (kx : ∀ (E : String) (ce : Cell) (q9 : Addr) (u : SX) (t : State) (H1 : Heap) (locs1 : List Loc), t.heap = H1 → s.vm.Alike t.vm → px u → BX E u t → H.size ≤ H1.size → (∀ q : Nat, q < H.size → ¬ AX q → H1[q]? = H[q]?) → va_S A0 H0 H1 locs1 → H1[q9]? = some ce → ce.vm = .none → s.vm.findClass E = some ce.cls → vx_W p l e R s m args below meth c H1 locs1 (cells + mc) (slots + ms) Q (F0 m pc ls rest) q9)
    (kk : ∀ (r : Int64) (u : S) (t : State) (H1 : Heap) (locs1 : List Loc), t.heap = H1 → s.vm.Alike t.vm → post r u → B u t → H.size ≤ H1.size → (∀ q : Nat, q < H.size → ¬ A1 q → H1[q]? = H[q]?) → va_S A0 H0 H1 locs1 → W p l e R s m args below meth c H1 locs1 (cells + mc) (slots + ms) Q (F0 m (pc + 3) ls (.long r :: rest))) : W p l e R s m args below meth c H locs cells slots Q (F0 m pc ls st0) := by
  intro T hT X
  rcases hr T hT X with ⟨v, st₀, t, T', L, h0, X', hL, e1, e2, ⟨⟨r, u, hv, hp, hb⟩, hF⟩, st⟩ | ⟨q, st₀, t, T', L, E, ce, h0, X', hL, e1, e2, ⟨u, hp, hb, hF⟩, hce, hcv, hcl, st⟩
  · cases hv
    obtain ⟨k1, k2, k3⟩ := vx_keep h0 e1 hS hA hf hL hF
    obtain ⟨t2, a1, b1⟩ := kk r u t T'.heap (locs ++ L) e1.symm (by rw [← e2]; exact X'.warmed.alike) hp hb k1 k2 k3 T' rfl X'
    exact ⟨t2, st t2 a1, b1⟩
  · obtain ⟨k1, k2, k3⟩ := vx_keep h0 e1 hS hAX hf hL hF
    obtain ⟨t2, a1, b1⟩ := kx E ce q u t T'.heap (locs ++ L) e1.symm (by rw [← e2]; exact X'.warmed.alike) hp hb k1 k2 k3 (by rw [e1]; exact hce) hcv hcl T' rfl X'
    exact ⟨t2, st.trans a1, b1⟩
theorem vx_callf {S SX : Type} {post : UInt32 → S → Prop} {px : SX → Prop} {B : S → State → Prop} {BX : String → SX → State → Prop} {AX : Nat → Prop} (hr : vx_Run p l e R s m args below meth c H locs cells slots mc ms (F0 m pc ls st0) rest (va_Qf post B A1 a) (vx_X px BX AX) free) (hS : va_S A0 H0 H locs) (hA : ∀ q, q < H.size → A1 q → A0 q) (hf : ∀ q, free q → A0 q) (hAX : ∀ q, q < H.size → AX q → A0 q)
    (kx : ∀ (E : String) (ce : Cell) (q9 : Addr) (u : SX) (t : State) (H1 : Heap) (locs1 : List Loc), t.heap = H1 → s.vm.Alike t.vm → px u → BX E u t → H.size ≤ H1.size → (∀ q : Nat, q < H.size → ¬ AX q → H1[q]? = H[q]?) → va_S A0 H0 H1 locs1 → H1[q9]? = some ce → ce.vm = .none → s.vm.findClass E = some ce.cls → vx_W p l e R s m args below meth c H1 locs1 (cells + mc) (slots + ms) Q (F0 m pc ls rest) q9)
    (kk : ∀ (r : UInt32) (u : S) (t : State) (H1 : Heap) (locs1 : List Loc), t.heap = H1 → s.vm.Alike t.vm → post r u → B u t → H.size ≤ H1.size → (∀ q : Nat, q < H.size → ¬ A1 q → H1[q]? = H[q]?) → va_S A0 H0 H1 locs1 → W p l e R s m args below meth c H1 locs1 (cells + mc) (slots + ms) Q (F0 m (pc + 3) ls (.float r :: rest))) : W p l e R s m args below meth c H locs cells slots Q (F0 m pc ls st0) := by
  intro T hT X
  rcases hr T hT X with ⟨v, st₀, t, T', L, h0, X', hL, e1, e2, ⟨⟨r, u, hv, hp, hb⟩, hF⟩, st⟩ | ⟨q, st₀, t, T', L, E, ce, h0, X', hL, e1, e2, ⟨u, hp, hb, hF⟩, hce, hcv, hcl, st⟩
  · cases hv
    obtain ⟨k1, k2, k3⟩ := vx_keep h0 e1 hS hA hf hL hF
    obtain ⟨t2, a1, b1⟩ := kk r u t T'.heap (locs ++ L) e1.symm (by rw [← e2]; exact X'.warmed.alike) hp hb k1 k2 k3 T' rfl X'
    exact ⟨t2, st t2 a1, b1⟩
  · obtain ⟨k1, k2, k3⟩ := vx_keep h0 e1 hS hAX hf hL hF
    obtain ⟨t2, a1, b1⟩ := kx E ce q u t T'.heap (locs ++ L) e1.symm (by rw [← e2]; exact X'.warmed.alike) hp hb k1 k2 k3 (by rw [e1]; exact hce) hcv hcl T' rfl X'
    exact ⟨t2, st.trans a1, b1⟩
theorem vx_calld {S SX : Type} {post : UInt64 → S → Prop} {px : SX → Prop} {B : S → State → Prop} {BX : String → SX → State → Prop} {AX : Nat → Prop} (hr : vx_Run p l e R s m args below meth c H locs cells slots mc ms (F0 m pc ls st0) rest (va_Qd post B A1 a) (vx_X px BX AX) free) (hS : va_S A0 H0 H locs) (hA : ∀ q, q < H.size → A1 q → A0 q) (hf : ∀ q, free q → A0 q) (hAX : ∀ q, q < H.size → AX q → A0 q)
    (kx : ∀ (E : String) (ce : Cell) (q9 : Addr) (u : SX) (t : State) (H1 : Heap) (locs1 : List Loc), t.heap = H1 → s.vm.Alike t.vm → px u → BX E u t → H.size ≤ H1.size → (∀ q : Nat, q < H.size → ¬ AX q → H1[q]? = H[q]?) → va_S A0 H0 H1 locs1 → H1[q9]? = some ce → ce.vm = .none → s.vm.findClass E = some ce.cls → vx_W p l e R s m args below meth c H1 locs1 (cells + mc) (slots + ms) Q (F0 m pc ls rest) q9)
    (kk : ∀ (r : UInt64) (u : S) (t : State) (H1 : Heap) (locs1 : List Loc), t.heap = H1 → s.vm.Alike t.vm → post r u → B u t → H.size ≤ H1.size → (∀ q : Nat, q < H.size → ¬ A1 q → H1[q]? = H[q]?) → va_S A0 H0 H1 locs1 → W p l e R s m args below meth c H1 locs1 (cells + mc) (slots + ms) Q (F0 m (pc + 3) ls (.double r :: rest))) : W p l e R s m args below meth c H locs cells slots Q (F0 m pc ls st0) := by
  intro T hT X
  rcases hr T hT X with ⟨v, st₀, t, T', L, h0, X', hL, e1, e2, ⟨⟨r, u, hv, hp, hb⟩, hF⟩, st⟩ | ⟨q, st₀, t, T', L, E, ce, h0, X', hL, e1, e2, ⟨u, hp, hb, hF⟩, hce, hcv, hcl, st⟩
  · cases hv
    obtain ⟨k1, k2, k3⟩ := vx_keep h0 e1 hS hA hf hL hF
    obtain ⟨t2, a1, b1⟩ := kk r u t T'.heap (locs ++ L) e1.symm (by rw [← e2]; exact X'.warmed.alike) hp hb k1 k2 k3 T' rfl X'
    exact ⟨t2, st t2 a1, b1⟩
  · obtain ⟨k1, k2, k3⟩ := vx_keep h0 e1 hS hAX hf hL hF
    obtain ⟨t2, a1, b1⟩ := kx E ce q u t T'.heap (locs ++ L) e1.symm (by rw [← e2]; exact X'.warmed.alike) hp hb k1 k2 k3 (by rw [e1]; exact hce) hcv hcl T' rfl X'
    exact ⟨t2, st.trans a1, b1⟩
theorem vx_callv {S SX : Type} {post : S → Prop} {px : SX → Prop} {B : S → State → Prop} {BX : String → SX → State → Prop} {AX : Nat → Prop} (hr : vx_Run p l e R s m args below meth c H locs cells slots mc ms (F0 m pc ls st0) rest (va_Qv post B A1 a) (vx_X px BX AX) free) (hS : va_S A0 H0 H locs) (hA : ∀ q, q < H.size → A1 q → A0 q) (hf : ∀ q, free q → A0 q) (hAX : ∀ q, q < H.size → AX q → A0 q)
    (kx : ∀ (E : String) (ce : Cell) (q9 : Addr) (u : SX) (t : State) (H1 : Heap) (locs1 : List Loc), t.heap = H1 → s.vm.Alike t.vm → px u → BX E u t → H.size ≤ H1.size → (∀ q : Nat, q < H.size → ¬ AX q → H1[q]? = H[q]?) → va_S A0 H0 H1 locs1 → H1[q9]? = some ce → ce.vm = .none → s.vm.findClass E = some ce.cls → vx_W p l e R s m args below meth c H1 locs1 (cells + mc) (slots + ms) Q (F0 m pc ls rest) q9)
    (kk : ∀ (u : S) (t : State) (H1 : Heap) (locs1 : List Loc), t.heap = H1 → s.vm.Alike t.vm → post u → B u t → H.size ≤ H1.size → (∀ q : Nat, q < H.size → ¬ A1 q → H1[q]? = H[q]?) → va_S A0 H0 H1 locs1 → W p l e R s m args below meth c H1 locs1 (cells + mc) (slots + ms) Q (F0 m (pc + 3) ls (rest))) : W p l e R s m args below meth c H locs cells slots Q (F0 m pc ls st0) := by
  intro T hT X
  rcases hr T hT X with ⟨v, st₀, t, T', L, h0, X', hL, e1, e2, ⟨⟨u, hv, hp, hb⟩, hF⟩, st⟩ | ⟨q, st₀, t, T', L, E, ce, h0, X', hL, e1, e2, ⟨u, hp, hb, hF⟩, hce, hcv, hcl, st⟩
  · cases hv
    obtain ⟨k1, k2, k3⟩ := vx_keep h0 e1 hS hA hf hL hF
    obtain ⟨t2, a1, b1⟩ := kk u t T'.heap (locs ++ L) e1.symm (by rw [← e2]; exact X'.warmed.alike) hp hb k1 k2 k3 T' rfl X'
    exact ⟨t2, st t2 a1, b1⟩
  · obtain ⟨k1, k2, k3⟩ := vx_keep h0 e1 hS hAX hf hL hF
    obtain ⟨t2, a1, b1⟩ := kx E ce q u t T'.heap (locs ++ L) e1.symm (by rw [← e2]; exact X'.warmed.alike) hp hb k1 k2 k3 (by rw [e1]; exact hce) hcv hcl T' rfl X'
    exact ⟨t2, st.trans a1, b1⟩
/-- caught by the row x of this method's table; the rows ahead don't take it -/
theorem vx_catch {own name : String} {E : String} {ce : Cell} {q : Addr} (hown : s.vm.findClass own = some m.cls) (pre : List ExceptionTableEntry) (x : ExceptionTableEntry) (suf : List ExceptionTableEntry) (hsplit : c.exceptionTable.toList = pre ++ x :: suf)
    (hpass : ∀ z ∈ pre, covers z pc = false ∨ (z.catchType ≠ 0 ∧ ∃ nm : String, (Cond.classLink own z.catchType nm).before args s = true ∧ va_Nc E nm s)) (hx : covers x pc = true) (h0 : x.catchType ≠ 0)
    (hlink : (Cond.classLink own x.catchType name).before args s = true) (hcast : (Cond.castable E name).before args s = true) (hcell : H[q]? = some ce) (hv : ce.vm = .none) (hcl : s.vm.findClass E = some ce.cls)
    (kk : W p l e R s m args below meth c H locs cells slots Q (F0 m x.handlerPc ls [.ref q])) : vx_W p l e R s m args below meth c H locs cells slots Q (F0 m pc ls rest) q := by
  intro T hT X
  have hpl : e.platform.magicAccessors = ({} : Platform).magicAccessors := by rw [X.admits.platform]
  obtain ⟨c3, c4, hc3, hc4, hasg⟩ := Cond.castable_spec hcast
  cases Option.some.inj (hc3.symm.trans hcl)
  obtain ⟨c5, hc5, hcl5⟩ := Cond.classLink_spec hown hlink e.platform hpl
  cases Option.some.inj (hc4.symm.trans hc5)
  obtain ⟨vm', X', st⟩ := X.thenCaughtThrough q (g := F0 m pc ls rest) rfl (Steps.refl _) (by rw [hT]; exact hcell) (by rw [hv]; rfl) (by obtain ⟨k9, h9, -⟩ := Vm.findClass_spec hcl; exact ⟨k9, h9⟩) pre x suf hsplit
    (fun z hz => by
      rcases hpass z hz with h | ⟨hz0, nm, hl1, hn1⟩
      · exact Or.inl h
      · obtain ⟨c6, hc6, hcl6⟩ := Cond.classLink_spec hown hl1 e.platform hpl
        obtain ⟨a8, b8, h1, h2, h3⟩ := hn1
        cases Option.some.inj (h1.symm.trans hcl)
        cases Option.some.inj (h2.symm.trans hc6)
        exact Or.inr ⟨hz0, _, hcl6, h3⟩) hx (Or.inr ⟨h0, c4, hcl5, hasg⟩)
  obtain ⟨t, a1, b1⟩ := kk (T.setVm vm') hT X'
  exact ⟨t, st.trans a1, b1⟩
end Rows
section Ends
variable {p : Program} {l : Launch} {e : Env} {R : Room} {s : State} {m : MethodId} {args : Array Value} {below : List Frame} {meth : Method} {c : Code} {H : Heap} {locs : List Loc} {cells slots : Nat} {Q : State → Prop}
variable {mc ms : Nat} {free : Addr → Prop} {A0 A1 : Nat → Prop} {H0 : Heap} {a : Array Value} {ls : Array Slot} {st0 rest : List Value}
variable {Qc : Array Value → State → Outcome → State → Prop} {XC : String → State → State → Prop}
/-- what a body that may throw owes at its end -/
def vx_MQ (below : List Frame) (Qc : Array Value → State → Outcome → State → Prop) (XC : String → State → State → Prop) (a : Array Value) (s : State) (mc ms : Nat) (free : Addr → Prop) : State → Prop := fun t =>
  ∃ o, t.status = .running ∧ Ended t below o ∧ vx_Q Qc XC mc ms free a s o t
theorem vx_ret {g : JFrame} {mc ms : Nat} (k : W p l e R s m args below meth c H locs cells slots (MQ below Qc args s mc ms free) g) : W p l e R s m args below meth c H locs cells slots (vx_MQ below Qc XC args s mc ms free) g := by
  intro T hT X
  obtain ⟨t, a1, o, b1, b2, b3, b4⟩ := k T hT X
  exact ⟨t, a1, o, b1, b2, Or.inl ⟨b3, b4⟩⟩
/-- not caught here: it goes on to the caller -/
theorem vx_widen {g : JFrame} {q : Addr} {k n : Nat} (h1 : cells ≤ k) (h2 : slots ≤ n) (kk : vx_W p l e R s m args below meth c H locs k n Q g q) : vx_W p l e R s m args below meth c H locs cells slots Q g q := fun T hT X => kk T hT (stand_widen X h1 h2)
theorem vx_out {pc : Nat} {E : String} {ce : Cell} {q : Addr} {mc ms : Nat} (hout : ∀ x ∈ c.exceptionTable.toList, covers x pc = false) (hlocks : meth.locks = false) (hcell : H[q]? = some ce) (hv : ce.vm = .none) (hcl : s.vm.findClass E = some ce.cls)
    (hx : ∀ t : State, t.heap = H → s.vm.Alike t.vm → XC E s t) (hf : ∀ z ∈ locs, free z.base) (hc : cells ≤ mc) (hs : slots ≤ ms) :
    vx_W p l e R s m args below meth c H locs cells slots (vx_MQ below Qc XC args s mc ms free) (F0 m pc ls rest) q := by
  intro T hT X
  obtain ⟨st1, hrun, hend, hW, hsm⟩ := X.leaveThrown q (g := F0 m pc ls rest) rfl rfl rfl hout hlocks
  have hcell9 : (T.setFrames (.throwing q :: below)).heap[q]? = some ce := by
    show T.heap[q]? = some ce
    rw [hT]; exact hcell
  exact ⟨_, st1, .threw q, hrun, hend, Or.inr ⟨q, rfl, E, ce, locs, hx _ hT hW.alike, hcell9, hv, hcl, hW, hsm.mono hc hs, hf⟩⟩
theorem vx_frame {U : State} {k n : Nat} (h : s.sameButNew ({ U with vm := s.vm } : State) locs k n) : s.heap.size ≤ U.heap.size ∧ ∀ q : Nat, q < s.heap.size → (∀ z ∈ locs, z.base ≠ q) → U.heap[q]? = s.heap[q]? := by
  obtain ⟨-, h2, -, -, -, h6⟩ := h
  refine ⟨h2, fun q hq hz => ?_⟩
  obtain ⟨c9, e1, e2, e3, e4⟩ := h6 q _ (Array.getElem?_eq_getElem hq)
  have hs : c9.slots = (s.heap[q]).slots := Array.ext_getElem? fun i => e4 i fun hm => hz _ hm rfl
  have h9 : c9 = s.heap[q] := by
    rw [hs] at e2
    exact e2
  have e5 : U.heap[q]? = some c9 := e1
  rw [e5, h9, Array.getElem?_eq_getElem hq]
/-- the words of a throw but the four that speak of the heap -/
def vx_no (w : Cond) : Bool := decide (w ≠ .isRef (.static Bundle.tN "UNASSIGNED_STACK" Bundle.steD)) && decide (w ≠ .isRef (.static Bundle.tN "SUPPRESSED_SENTINEL" Bundle.listD)) && decide (w ≠ .laysStatic Bundle.tN "UNASSIGNED_STACK" Bundle.steD) && decide (w ≠ .laysStatic Bundle.tN "SUPPRESSED_SENTINEL" Bundle.listD)
def vx_at0 (own : String) (ic : Nat) (X : String) (names : List String) : List Cond := (Bundle.ownAtoms0 own ic X names).filter vx_no
def vx_atS (own : String) (ic : Nat) (X : String) (names : List String) : List Cond := (Bundle.ownAtoms own ic X names).filter vx_no
/-- a word that the tables alone decide, or a good one -/
def vx_ot (w : Cond) : Bool := w.onTables || goodWord w
theorem vx_ot_at {args a' : Array Value} {s U : State} {w : Cond} (hW : s.WarmedH U.vm) (hvm : s.vm = U.vm) (hg : vx_ot w = true) (h : w.before args s = true) : w.before a' U = true := by
  simp only [vx_ot, Bool.or_eq_true] at hg
  rcases hg with hg | hg
  · exact va_tabs hg hvm h
  · exact word_at hW (good_of_word hg) h
/-- a list's words: the good ones out of the method's own list, the others by premises of their own -/
theorem vx_hat {args : Array Value} {s : State} {L B : List Cond} (h1 : ∀ w ∈ L.filter goodWord, w.before args s = true) (h2 : ∀ w ∈ L.filter (fun w => !goodWord w), w ∈ B) (h3 : ∀ w ∈ B, w.before args s = true) : ∀ w ∈ L, w.before args s = true := by
  intro w hw
  by_cases g : goodWord w = true
  · exact h1 w (List.mem_filter.mpr ⟨hw, g⟩)
  · refine h3 w (h2 w (List.mem_filter.mpr ⟨hw, ?_⟩))
    show (!goodWord w) = true
    cases hgw : goodWord w
    · rfl
    · exact absurd hgw g
theorem vx_c {args : Array Value} {s : State} {w : Cond} {B : List Cond} (h : w.before args s = true) (t : ∀ w ∈ B, w.before args s = true) : ∀ w' ∈ w :: B, w'.before args s = true := fun w' h' => (List.mem_cons.mp h').elim (fun e => by rw [e]; exact h) (t w')
theorem vx_n {args : Array Value} {s : State} : ∀ w ∈ ([] : List Cond), w.before args s = true := fun _ h => nomatch h
theorem vx_own {args : Array Value} {s : State} {L : List Cond} (h1 : ∀ w ∈ L.filter vx_no, w.before args s = true)
    (hU : (Cond.isRef (.static Bundle.tN "UNASSIGNED_STACK" Bundle.steD)).before args s = true) (hN : (Cond.isRef (.static Bundle.tN "SUPPRESSED_SENTINEL" Bundle.listD)).before args s = true)
    (lU : (Cond.laysStatic Bundle.tN "UNASSIGNED_STACK" Bundle.steD).before args s = true) (lN : (Cond.laysStatic Bundle.tN "SUPPRESSED_SENTINEL" Bundle.listD).before args s = true) : ∀ w ∈ L, w.before args s = true := by
  intro w hw
  by_cases e1 : w = .isRef (.static Bundle.tN "UNASSIGNED_STACK" Bundle.steD)
  · rw [e1]; exact hU
  · by_cases e2 : w = .isRef (.static Bundle.tN "SUPPRESSED_SENTINEL" Bundle.listD)
    · rw [e2]; exact hN
    · by_cases e3 : w = .laysStatic Bundle.tN "UNASSIGNED_STACK" Bundle.steD
      · rw [e3]; exact lU
      · by_cases e4 : w = .laysStatic Bundle.tN "SUPPRESSED_SENTINEL" Bundle.listD
        · rw [e4]; exact lN
        · exact h1 w (List.mem_filter.mpr ⟨hw, by unfold vx_no; rw [decide_eq_true e1, decide_eq_true e2, decide_eq_true e3, decide_eq_true e4]; rfl⟩)
/-- where a static field lies, its class's statics cell in H -/
def vx_L (C n d : String) (A : Nat → Prop) (U : State) (H : Heap) : Prop := ∃ (c : ClassId) (k : Class) (i : Nat) (f : Field) (a : Nat) (cell : Cell), U.vm.findClass C = some c ∧ U.fieldFound? C n d = some (c, k, i, f) ∧ f.isStatic = true ∧ k.statics = some a ∧ H[a]? = some cell ∧ cell.vm.isStatics = true ∧ cell.cls = c ∧ f.slot < cell.slots.size ∧ k.staticTypes[f.slot]? = some f.type ∧ ¬ A a
theorem vx_L.moved {C n d : String} {A : Nat → Prop} {u U : State} {H : Heap} (hvm : u.vm.Alike U.vm) (h : vx_L C n d A u H) : vx_L C n d A U H := by
  obtain ⟨c, k, i, f, a, cell, h1, h2, h3, h4, h5, h6, h7, h8, h9, h10⟩ := h
  obtain ⟨k', hi', he⟩ := State.fieldFound?_setVm hvm h2
  exact ⟨c, k', i, f, a, cell, by rw [hvm.findClass]; exact h1, hi', h3, by rw [he]; exact h4, h5, h6, h7, h8, by rw [he]; exact h9, h10⟩
theorem vx_L.kept {C n d : String} {A : Nat → Prop} {U : State} {H H1 : Heap} (h : vx_L C n d A U H) (hq : ∀ a : Nat, a < H.size → ¬ A a → H1[a]? = H[a]?) : vx_L C n d A U H1 := by
  obtain ⟨c, k, i, f, a, cell, h1, h2, h3, h4, h5, h6, h7, h8, h9, h10⟩ := h
  exact ⟨c, k, i, f, a, cell, h1, h2, h3, h4, by rw [hq a (Array.getElem?_eq_some_iff.mp h5).1 h10]; exact h5, h6, h7, h8, h9, h10⟩
theorem vx_L.narrow {C n d : String} {A B : Nat → Prop} {U : State} {H : Heap} (h : vx_L C n d A U H) (hAB : ∀ q, B q → A q) : vx_L C n d B U H := by
  obtain ⟨c, k, i, f, a, cell, h1, h2, h3, h4, h5, h6, h7, h8, h9, h10⟩ := h
  exact ⟨c, k, i, f, a, cell, h1, h2, h3, h4, h5, h6, h7, h8, h9, fun z => h10 (hAB _ z)⟩
theorem vx_L.word {C n d : String} {A : Nat → Prop} {s : State} {args : Array Value} (h : vx_L C n d A s s.heap) : (Cond.laysStatic C n d).before args s = true := by
  obtain ⟨c, k, i, f, a, cell, h1, h2, h3, h4, h5, h6, h7, h8, h9, -⟩ := h
  show (Cond.laysStatic C n d).holds args s none s [] = true
  exact Cond.laysStatic_of h1 h2 h3 h4 h5 h6 h7 h8 h9
/-- .. and what it holds: null or some reference -/
def vx_Zq (C n d : String) (A : Nat → Prop) (U : State) (H : Heap) : Prop := va_Zq C n d A U H ∧ vx_L C n d A U H
theorem vx_Zq.moved {C n d : String} {A : Nat → Prop} {u U : State} {H : Heap} (hvm : u.vm.Alike U.vm) (h : vx_Zq C n d A u H) : vx_Zq C n d A U H := ⟨va_Zq.moved hvm h.1, vx_L.moved hvm h.2⟩
theorem vx_Zq.kept {C n d : String} {A : Nat → Prop} {U : State} {H H1 : Heap} (h : vx_Zq C n d A U H) (hq : ∀ a : Nat, a < H.size → ¬ A a → H1[a]? = H[a]?) : vx_Zq C n d A U H1 := ⟨va_Zq.kept h.1 hq, vx_L.kept h.2 hq⟩
theorem vx_Zq.narrow {C n d : String} {A B : Nat → Prop} {U : State} {H : Heap} (h : vx_Zq C n d A U H) (hAB : ∀ q, B q → A q) : vx_Zq C n d B U H := ⟨va_Zq.narrow h.1 hAB, vx_L.narrow h.2 hAB⟩
theorem vx_Zqof {args : Array Value} {s : State} {C n d : String} {A : Nat → Prop} (hl : (Cond.laysStatic C n d).before args s = true) (hini : (Cond.initialized C).before args s = true) (h : (Cond.isRef (.static C n d)).before args s = true) (hA : ∀ a : Nat, a < s.heap.size → ¬ A a) : vx_Zq C n d A s s.heap := by
  refine ⟨va_Zqof hl hini h hA, ?_⟩
  obtain ⟨c, k, i, f, a, cell, h1, h2, h3, h4, h5, h6, h7, h8, h9⟩ := Cond.laysStatic_spec hl
  exact ⟨c, k, i, f, a, cell, h1, h2, h3, h4, h5, h6, h7, h8, h9, hA a (Array.getElem?_eq_some_iff.mp h5).1⟩
theorem vx_isRef {C n d : String} {v : Value} {A : Nat → Prop} {s : State} {args : Array Value} (h : va_Z C n d v A s s.heap) (hv : v.isRef = true) : (Cond.isRef (.static C n d)).before args s = true := by
  obtain ⟨cf, kf, fi, f, a, cell, h1, h2, h3, h4, h5, h6, h7, -⟩ := h
  have he : (Term.static C n d).eval args s none [] s = some v := by
    simp [Term.eval, State.fieldNamed?, h1, h2, h4, h5, h6, h7]
  simp only [Cond.before, Cond.holds, Cond.value, he]
  cases v <;> simp_all [Value.isRef]
theorem vx_isRefq {C n d : String} {A : Nat → Prop} {s : State} {args : Array Value} (h : va_Zq C n d A s s.heap) : (Cond.isRef (.static C n d)).before args s = true := by
  rcases h with h | ⟨t, h⟩
  · exact vx_isRef h rfl
  · exact vx_isRef h rfl
/-- the same frame, seen from here: as if the method were called anew in this heap -/
theorem vx_rebase {T : State} (X : Stand p l e R s m args below meth c T locs cells slots) {R' : Room} (hf : R'.frames ≤ R.frames) (hl : R'.locals ≤ R.locals) (hc : cells + R'.cells ≤ R.cells) (hs : slots + R'.slots ≤ R.slots) :
    Stand p l e R' ((T.setVm s.vm).setFrames (.invoking m args :: below)) m args below meth c T [] 0 0 := by
  have htop : (T.setVm s.vm).topJava?.isSome := X.here.top
  have hF : ((T.setVm s.vm).setFrames (.invoking m args :: below)).frames = .invoking m args :: below := State.frames_setFrames _ (State.cur_lt_of_top htop)
  obtain ⟨g₀, hg0⟩ := Option.isSome_iff_exists.mp htop
  obtain ⟨r, hr⟩ := State.topJava?_eq_some.mp hg0
  have hl9 : e.platform.stackLimits (T.setVm s.vm).me = e.platform.stackLimits s.me := X.limits
  have hb9 : (T.setVm s.vm).me.stackBytes = s.me.stackBytes := X.bytes
  refine ⟨X.admits, X.cas, X.clock, hF, ?_, X.hears, X.method, X.code, X.here, X.tail, X.warmed, ?_, ?_, ?_⟩
  · have h := X.room
    have hU : ((T.setVm s.vm).setFrames (.invoking m args :: below)).localsInUse = s.localsInUse := by
      rw [State.localsInUse_invoking hF (meth := meth) (c := c) X.method X.code, State.localsInUse_invoking X.frames X.method X.code]
    simp only [State.hasRoom, Bool.and_eq_true, decide_eq_true_eq] at h ⊢
    obtain ⟨⟨⟨⟨h1, h2, h3, h4, h5, h6⟩, h7⟩, h8⟩, h9⟩ := h
    rw [X.frames, List.length_cons] at h2 h3
    have q1 := X.heapSize
    have q2 := X.used
    simp only [hF, hU, List.length_cons, State.stackLimits_setFrames, State.stackBytes_setFrames, hl9, hb9]
    refine ⟨⟨⟨⟨by omega, by omega, by omega, by omega, by omega, h6⟩, ?_⟩, ?_⟩, X.book⟩
    · show T.heap.size + R'.cells ≤ e.platform.maxCells
      omega
    · show T.slotsUsed + R'.slots ≤ e.platform.maxSlots
      omega
  · rw [State.stackLimits_setFrames]; rfl
  · rw [State.stackBytes_setFrames]; rfl
  · refine ⟨?_, Nat.le_refl _, Nat.le_refl _, ?_, ?_, fun a c9 h9 => ⟨c9, h9, rfl, rfl, fun _ _ => rfl⟩⟩
    · obtain ⟨t, ht, -⟩ := State.frames_cons hr
      show T.setVm s.vm = { ((T.setVm s.vm).setFrames (.invoking m args :: below)).setFrames (T.setVm s.vm).frames with heap := T.heap, slotsUsed := T.slotsUsed }
      rw [State.setFrames_setFrames, State.setFrames_self ht]
      rfl
    · show T.slotsUsed = T.slotsUsed + ((T.heap.toList.drop T.heap.size).map (·.slots.size)).sum
      rw [List.drop_eq_nil_of_le (Nat.le_of_eq Array.length_toList)]
      rfl
    · show ((T.heap.toList.drop T.heap.size).map (·.slots.size)).sum ≤ 0
      rw [List.drop_eq_nil_of_le (Nat.le_of_eq Array.length_toList)]
      exact Nat.le_refl _
/-- 'throw new E()': new; dup; invokespecial; athrow -/
theorem vx_throw0 {cc : ByteArray} {pc : Nat} (hexec : p.tables.exec = Jvm.exec) (hb : c.code = cc) (hl : l.stackTraces = false) {own cls : String} {names : List String} {ik ic mc ms : Nat} {A : Nat → Prop}
    (hown : s.vm.findClass own = some m.cls) (hcls : Bundle.fit cls = true) (hnames : ∀ n ∈ names, Bundle.fit n = true)
    (hk : (Cond.classLink own ik cls).before args s = true) (hini : (Cond.initialized cls).before args s = true) (hat : ∀ w ∈ vx_at0 own ic cls names, w.before args s = true)
    (hgood : ∀ w ∈ Cond.classLink own ik cls :: Cond.initialized cls :: vx_at0 own ic cls names, vx_ot w = true)
    (hU : vx_Zq Bundle.tN "UNASSIGNED_STACK" Bundle.steD A s s.heap) (hN : vx_Zq Bundle.tN "SUPPRESSED_SENTINEL" Bundle.listD A s s.heap) (hS : va_S A s.heap H locs) (hsize : ls.size = c.maxLocals)
    (d0 : decode cc pc = .ok (.new ik, 3)) (d3 : decode cc (pc + 3) = .ok (.dup, 1)) (d4 : decode cc (pc + 4) = .ok (.invokespecial ic, 3)) (d7 : decode cc (pc + 7) = .ok (.athrow, 1))
    (hout : ∀ x ∈ c.exceptionTable.toList, covers x (pc + 7) = false)
    (hRframes : names.length + 3 < R.frames) (hRlocals : (rest.map fun v => v.category).sum + (13 * (names.length + 1) + 42) ≤ R.locals) (hRcells : cells + 1 ≤ R.cells) (hRslots : slots + 6 ≤ R.slots) (hlocks : meth.locks = false)
    (hx : ∀ t : State, s.vm.Alike t.vm → H.size ≤ t.heap.size → (∀ q : Nat, q < H.size → t.heap[q]? = H[q]?) → XC cls s t)
    (hf : ∀ z ∈ locs, free z.base) (hc : cells + 1 ≤ mc) (hs : slots + 6 ≤ ms) :
    W p l e R s m args below meth c H locs cells slots (vx_MQ below Qc XC args s mc ms free) (F0 m pc ls rest) := by
  intro T hT X
  have htr : e.platform.stackTraces = false := (show e.platform.stackTraces = l.stackTraces by rw [X.admits.platform]).trans hl
  have Y := vx_rebase X (R' := { frames := R.frames, locals := R.locals, cells := 1, slots := 6 }) (Nat.le_refl _) (Nat.le_refl _) hRcells hRslots
  obtain ⟨s', hA⟩ : ∃ z, z = (T.setVm s.vm).setFrames (.invoking m args :: below) := ⟨_, rfl⟩
  rw [← hA] at Y
  have hvm : s'.vm = s.vm := by rw [hA]; rfl
  have hhp : s'.heap = H := by rw [hA]; exact hT
  have hW0 : s.WarmedH s'.vm := by rw [hvm]; exact State.WarmedH.refl s
  have hat' : ∀ w ∈ vx_at0 own ic cls names, w.before args s' = true := fun w hw => vx_ot_at hW0 hvm.symm (hgood w (List.mem_cons_of_mem _ (List.mem_cons_of_mem _ hw))) (hat w hw)
  have hk' : (Cond.classLink own ik cls).before args s' = true := vx_ot_at hW0 hvm.symm (hgood _ List.mem_cons_self) hk
  have hini' : (Cond.initialized cls).before args s' = true := vx_ot_at hW0 hvm.symm (hgood _ (List.mem_cons_of_mem _ List.mem_cons_self)) hini
  have hU' : vx_Zq Bundle.tN "UNASSIGNED_STACK" Bundle.steD A s' s'.heap := by rw [hhp]; exact vx_Zq.moved hW0.alike (hU.kept hS.2.1)
  have hN' : vx_Zq Bundle.tN "SUPPRESSED_SENTINEL" Bundle.listD A s' s'.heap := by rw [hhp]; exact vx_Zq.moved hW0.alike (hN.kept hS.2.1)
  have h : ∀ w ∈ Bundle.ownAtoms0 own ic cls names, w.before args s' = true := vx_own hat' (vx_isRefq hU'.1) (vx_isRefq hN'.1) hU'.2.word hN'.2.word
  have hown' : s'.vm.findClass own = some m.cls := by rw [hvm]; exact hown
  have hins : (Cond.instantiable cls 6).before args s' = true := h _ (by simp [Bundle.ownAtoms0])
  obtain ⟨vm₁, cX, kX, hfX, hkX, -, -, X₁, st1⟩ := Y.newCold hexec (own := own) (C := cls) (index := ik) (n := 6) hown' hk' hins hini'
    (g := F0 m pc ls rest) rfl (by rw [hb]; exact d0) (Nat.le_refl _) (Nat.le_refl _)
  generalize hT1 : (T.setVm vm₁).pushCell { cls := cX, slots := kX.instanceTypes.map defaultValue, vm := .none } = T1 at X₁ st1
  have hcat : (Value.ref T.heap.size).category = 1 := rfl
  have hcellA : T1.heap[T.heap.size]? = some (freshCell cX kX) := by rw [← hT1]; exact State.heap_pushCell_size _ _
  have d3' : decode c.code (pc + 3) = .ok (.dup, 1) := by rw [hb]; exact d3
  obtain ⟨U, hsteps, hrun, hend, hW, hsame, ce, hce, hO⟩ := X₁.ctorThrow0 hexec htr (own := own) (cls := cls) (names := names) (ic := ic) hown' hcls hnames h (fun x hx => nomatch hx) hfX hkX hcellA (by rw [hhp, hT]; exact Nat.le_refl _)
    (g := { method := m, pc := pc + 4, locals := ls, stack := .ref T.heap.size :: .ref T.heap.size :: rest, locked := none }) rfl hsize rfl rfl (rest := rest) rfl
    (by rw [hb]; exact d4) (by rw [hb]; exact d7) hout hRframes (by simp only [List.map_cons, List.sum_cons, hcat]; omega) hlocks
  obtain ⟨f1, f2⟩ := vx_frame hsame
  rw [hhp] at f1 f2
  have hWs : s.WarmedH U.vm := State.WarmedH.trans hW0 hW
  have hcl : s.vm.findClass cls = some ce.cls := by
    have h9 := hO.cls
    rw [hvm] at h9
    exact h9
  have hall : s.sameButNew ({ U with vm := s.vm } : State) locs mc ms := by
    subst hA
    obtain ⟨e1, e2⟩ := hsame
    rw [State.setFrames_setFrames] at e1
    have h2 : (T.setVm s.vm).sameButNew ({ U with vm := s.vm } : State) [] (0 + 1) (0 + 6) := ⟨e1, e2⟩
    have h3 := X.same.trans h2
    rw [List.append_nil] at h3
    exact h3.mono hc hs
  refine ⟨U, ?_, .threw T.heap.size, hrun, hend, Or.inr ⟨T.heap.size, rfl, cls, ce, locs, hx U hWs.alike f1 (fun q hq => f2 q hq (fun z hz => nomatch hz)), hce, hO.vm, hcl, hWs, hall, hf⟩⟩
  refine st1 _ ?_
  show Steps p.tables e below (T1.setTop { method := m, pc := pc + 3, locals := ls, stack := .ref T.heap.size :: rest, locked := none }) _
  jvm_step X₁.here [X₁.here.top, hexec, d3', Value.category]
  exact hsteps
/-- 'throw new E("text")': new; dup; ldc; invokespecial; athrow -/
theorem vx_throwS {cc : ByteArray} {pc : Nat} (hexec : p.tables.exec = Jvm.exec) (hb : c.code = cc) (hl : l.stackTraces = false) {own cls text : String} {names : List String} {ik is ic mc ms sa : Nat} {A : Nat → Prop}
    (hown : s.vm.findClass own = some m.cls) (hcls : Bundle.fit cls = true) (hnames : ∀ n ∈ names, Bundle.fit n = true)
    (hk : (Cond.classLink own ik cls).before args s = true) (hini : (Cond.initialized cls).before args s = true) (hstr : vk_R own is text sa s) (hat : ∀ w ∈ vx_atS own ic cls names, w.before args s = true)
    (hgood : ∀ w ∈ Cond.classLink own ik cls :: Cond.initialized cls :: vx_atS own ic cls names, vx_ot w = true)
    (hU : vx_Zq Bundle.tN "UNASSIGNED_STACK" Bundle.steD A s s.heap) (hN : vx_Zq Bundle.tN "SUPPRESSED_SENTINEL" Bundle.listD A s s.heap) (hS : va_S A s.heap H locs) (hsize : ls.size = c.maxLocals)
    (d0 : decode cc pc = .ok (.new ik, 3)) (d3 : decode cc (pc + 3) = .ok (.dup, 1)) (d4 : decode cc (pc + 4) = .ok (.ldc is, 2)) (d6 : decode cc (pc + 6) = .ok (.invokespecial ic, 3)) (d9 : decode cc (pc + 9) = .ok (.athrow, 1))
    (hout : ∀ x ∈ c.exceptionTable.toList, covers x (pc + 9) = false)
    (hRframes : names.length + 3 < R.frames) (hRlocals : (rest.map fun v => v.category).sum + (13 * (names.length + 1) + 43) ≤ R.locals) (hRcells : cells + 1 ≤ R.cells) (hRslots : slots + 6 ≤ R.slots) (hlocks : meth.locks = false)
    (hx : ∀ t : State, s.vm.Alike t.vm → H.size ≤ t.heap.size → (∀ q : Nat, q < H.size → t.heap[q]? = H[q]?) → XC cls s t)
    (hf : ∀ z ∈ locs, free z.base) (hc : cells + 1 ≤ mc) (hs : slots + 6 ≤ ms) :
    W p l e R s m args below meth c H locs cells slots (vx_MQ below Qc XC args s mc ms free) (F0 m pc ls rest) := by
  intro T hT X
  have htr : e.platform.stackTraces = false := (show e.platform.stackTraces = l.stackTraces by rw [X.admits.platform]).trans hl
  have Y := vx_rebase X (R' := { frames := R.frames, locals := R.locals, cells := 1, slots := 6 }) (Nat.le_refl _) (Nat.le_refl _) hRcells hRslots
  obtain ⟨s', hA⟩ : ∃ z, z = (T.setVm s.vm).setFrames (.invoking m args :: below) := ⟨_, rfl⟩
  rw [← hA] at Y
  have hvm : s'.vm = s.vm := by rw [hA]; rfl
  have hhp : s'.heap = H := by rw [hA]; exact hT
  have hW0 : s.WarmedH s'.vm := by rw [hvm]; exact State.WarmedH.refl s
  have hat' : ∀ w ∈ vx_atS own ic cls names, w.before args s' = true := fun w hw => vx_ot_at hW0 hvm.symm (hgood w (List.mem_cons_of_mem _ (List.mem_cons_of_mem _ hw))) (hat w hw)
  have hk' : (Cond.classLink own ik cls).before args s' = true := vx_ot_at hW0 hvm.symm (hgood _ List.mem_cons_self) hk
  have hini' : (Cond.initialized cls).before args s' = true := vx_ot_at hW0 hvm.symm (hgood _ (List.mem_cons_of_mem _ List.mem_cons_self)) hini
  have hU' : vx_Zq Bundle.tN "UNASSIGNED_STACK" Bundle.steD A s' s'.heap := by rw [hhp]; exact vx_Zq.moved hW0.alike (hU.kept hS.2.1)
  have hN' : vx_Zq Bundle.tN "SUPPRESSED_SENTINEL" Bundle.listD A s' s'.heap := by rw [hhp]; exact vx_Zq.moved hW0.alike (hN.kept hS.2.1)
  have h : ∀ w ∈ Bundle.ownAtoms own ic cls names, w.before args s' = true := vx_own hat' (vx_isRefq hU'.1) (vx_isRefq hN'.1) hU'.2.word hN'.2.word
  have hown' : s'.vm.findClass own = some m.cls := by rw [hvm]; exact hown
  have hins : (Cond.instantiable cls 6).before args s' = true := h _ (by simp [Bundle.ownAtoms])
  obtain ⟨vm₁, cX, kX, hfX, hkX, -, -, X₁, st1⟩ := Y.newCold hexec (own := own) (C := cls) (index := ik) (n := 6) hown' hk' hins hini'
    (g := F0 m pc ls rest) rfl (by rw [hb]; exact d0) (Nat.le_refl _) (Nat.le_refl _)
  generalize hT1 : (T.setVm vm₁).pushCell { cls := cX, slots := kX.instanceTypes.map defaultValue, vm := .none } = T1 at X₁ st1
  have hcat : (Value.ref T.heap.size).category = 1 := rfl
  have hcellA : T1.heap[T.heap.size]? = some (freshCell cX kX) := by rw [← hT1]; exact State.heap_pushCell_size _ _
  have d3' : decode c.code (pc + 3) = .ok (.dup, 1) := by rw [hb]; exact d3
  have d4' : decode c.code (pc + 4) = .ok (.ldc is, 2) := by rw [hb]; exact d4
  have hstr' : vk_R own is text sa s' := vk_R.warm hW0 hstr
  obtain ⟨U, hsteps, hrun, hend, hW, hsame, ce, hce, hO⟩ := X₁.ctorThrowS hexec htr (own := own) (cls := cls) (names := names) (ic := ic) hown' hcls hnames h (fun x hx => nomatch hx) hfX hkX hcellA (by rw [hhp, hT]; exact Nat.le_refl _) (msg := .ref sa) rfl
    (g := { method := m, pc := pc + 6, locals := ls, stack := .ref sa :: .ref T.heap.size :: .ref T.heap.size :: rest, locked := none }) rfl hsize rfl rfl (rest := rest) rfl
    (by rw [hb]; exact d6) (by rw [hb]; exact d9) hout hRframes (by simp only [List.map_cons, List.sum_cons, hcat]; omega) hlocks
  obtain ⟨f1, f2⟩ := vx_frame hsame
  rw [hhp] at f1 f2
  have hWs : s.WarmedH U.vm := State.WarmedH.trans hW0 hW
  have hcl : s.vm.findClass cls = some ce.cls := by
    have h9 := hO.cls
    rw [hvm] at h9
    exact h9
  have hall : s.sameButNew ({ U with vm := s.vm } : State) locs mc ms := by
    subst hA
    obtain ⟨e1, e2⟩ := hsame
    rw [State.setFrames_setFrames] at e1
    have h2 : (T.setVm s.vm).sameButNew ({ U with vm := s.vm } : State) [] (0 + 1) (0 + 6) := ⟨e1, e2⟩
    have h3 := X.same.trans h2
    rw [List.append_nil] at h3
    exact h3.mono hc hs
  refine ⟨U, ?_, .threw T.heap.size, hrun, hend, Or.inr ⟨T.heap.size, rfl, cls, ce, locs, hx U hWs.alike f1 (fun q hq => f2 q hq (fun z hz => nomatch hz)), hce, hO.vm, hcl, hWs, hall, hf⟩⟩
  refine st1 _ ?_
  show Steps p.tables e below (T1.setTop { method := m, pc := pc + 3, locals := ls, stack := .ref T.heap.size :: rest, locked := none }) _
  jvm_step X₁.here [X₁.here.top, hexec, d3', Value.category]
  exact X₁.ldcString hexec (own := own) (text := text) (index := is) (a := sa) hown' hstr'.1 hstr'.2
    (g := { method := m, pc := pc + 4, locals := ls, stack := .ref T.heap.size :: .ref T.heap.size :: rest, locked := none }) rfl d4' _ hsteps
/-- 'throw new E("text")', the text by a wide index -/
theorem vx_throwSW {cc : ByteArray} {pc : Nat} (hexec : p.tables.exec = Jvm.exec) (hb : c.code = cc) (hl : l.stackTraces = false) {own cls text : String} {names : List String} {ik is ic mc ms sa : Nat} {A : Nat → Prop}
    (hown : s.vm.findClass own = some m.cls) (hcls : Bundle.fit cls = true) (hnames : ∀ n ∈ names, Bundle.fit n = true)
    (hk : (Cond.classLink own ik cls).before args s = true) (hini : (Cond.initialized cls).before args s = true) (hstr : vk_R own is text sa s) (hat : ∀ w ∈ vx_atS own ic cls names, w.before args s = true)
    (hgood : ∀ w ∈ Cond.classLink own ik cls :: Cond.initialized cls :: vx_atS own ic cls names, vx_ot w = true)
    (hU : vx_Zq Bundle.tN "UNASSIGNED_STACK" Bundle.steD A s s.heap) (hN : vx_Zq Bundle.tN "SUPPRESSED_SENTINEL" Bundle.listD A s s.heap) (hS : va_S A s.heap H locs) (hsize : ls.size = c.maxLocals)
    (d0 : decode cc pc = .ok (.new ik, 3)) (d3 : decode cc (pc + 3) = .ok (.dup, 1)) (d4 : decode cc (pc + 4) = .ok (.ldc_w is, 3)) (d7 : decode cc (pc + 7) = .ok (.invokespecial ic, 3)) (d10 : decode cc (pc + 10) = .ok (.athrow, 1))
    (hout : ∀ x ∈ c.exceptionTable.toList, covers x (pc + 10) = false)
    (hRframes : names.length + 3 < R.frames) (hRlocals : (rest.map fun v => v.category).sum + (13 * (names.length + 1) + 43) ≤ R.locals) (hRcells : cells + 1 ≤ R.cells) (hRslots : slots + 6 ≤ R.slots) (hlocks : meth.locks = false)
    (hx : ∀ t : State, s.vm.Alike t.vm → H.size ≤ t.heap.size → (∀ q : Nat, q < H.size → t.heap[q]? = H[q]?) → XC cls s t)
    (hf : ∀ z ∈ locs, free z.base) (hc : cells + 1 ≤ mc) (hs : slots + 6 ≤ ms) :
    W p l e R s m args below meth c H locs cells slots (vx_MQ below Qc XC args s mc ms free) (F0 m pc ls rest) := by
  intro T hT X
  have htr : e.platform.stackTraces = false := (show e.platform.stackTraces = l.stackTraces by rw [X.admits.platform]).trans hl
  have Y := vx_rebase X (R' := { frames := R.frames, locals := R.locals, cells := 1, slots := 6 }) (Nat.le_refl _) (Nat.le_refl _) hRcells hRslots
  obtain ⟨s', hA⟩ : ∃ z, z = (T.setVm s.vm).setFrames (.invoking m args :: below) := ⟨_, rfl⟩
  rw [← hA] at Y
  have hvm : s'.vm = s.vm := by rw [hA]; rfl
  have hhp : s'.heap = H := by rw [hA]; exact hT
  have hW0 : s.WarmedH s'.vm := by rw [hvm]; exact State.WarmedH.refl s
  have hat' : ∀ w ∈ vx_atS own ic cls names, w.before args s' = true := fun w hw => vx_ot_at hW0 hvm.symm (hgood w (List.mem_cons_of_mem _ (List.mem_cons_of_mem _ hw))) (hat w hw)
  have hk' : (Cond.classLink own ik cls).before args s' = true := vx_ot_at hW0 hvm.symm (hgood _ List.mem_cons_self) hk
  have hini' : (Cond.initialized cls).before args s' = true := vx_ot_at hW0 hvm.symm (hgood _ (List.mem_cons_of_mem _ List.mem_cons_self)) hini
  have hU' : vx_Zq Bundle.tN "UNASSIGNED_STACK" Bundle.steD A s' s'.heap := by rw [hhp]; exact vx_Zq.moved hW0.alike (hU.kept hS.2.1)
  have hN' : vx_Zq Bundle.tN "SUPPRESSED_SENTINEL" Bundle.listD A s' s'.heap := by rw [hhp]; exact vx_Zq.moved hW0.alike (hN.kept hS.2.1)
  have h : ∀ w ∈ Bundle.ownAtoms own ic cls names, w.before args s' = true := vx_own hat' (vx_isRefq hU'.1) (vx_isRefq hN'.1) hU'.2.word hN'.2.word
  have hown' : s'.vm.findClass own = some m.cls := by rw [hvm]; exact hown
  have hins : (Cond.instantiable cls 6).before args s' = true := h _ (by simp [Bundle.ownAtoms])
  obtain ⟨vm₁, cX, kX, hfX, hkX, -, -, X₁, st1⟩ := Y.newCold hexec (own := own) (C := cls) (index := ik) (n := 6) hown' hk' hins hini'
    (g := F0 m pc ls rest) rfl (by rw [hb]; exact d0) (Nat.le_refl _) (Nat.le_refl _)
  generalize hT1 : (T.setVm vm₁).pushCell { cls := cX, slots := kX.instanceTypes.map defaultValue, vm := .none } = T1 at X₁ st1
  have hcat : (Value.ref T.heap.size).category = 1 := rfl
  have hcellA : T1.heap[T.heap.size]? = some (freshCell cX kX) := by rw [← hT1]; exact State.heap_pushCell_size _ _
  have d3' : decode c.code (pc + 3) = .ok (.dup, 1) := by rw [hb]; exact d3
  have d4' : decode c.code (pc + 4) = .ok (.ldc_w is, 3) := by rw [hb]; exact d4
  have hstr' : vk_R own is text sa s' := vk_R.warm hW0 hstr
  obtain ⟨U, hsteps, hrun, hend, hW, hsame, ce, hce, hO⟩ := X₁.ctorThrowS hexec htr (own := own) (cls := cls) (names := names) (ic := ic) hown' hcls hnames h (fun x hx => nomatch hx) hfX hkX hcellA (by rw [hhp, hT]; exact Nat.le_refl _) (msg := .ref sa) rfl
    (g := { method := m, pc := pc + 7, locals := ls, stack := .ref sa :: .ref T.heap.size :: .ref T.heap.size :: rest, locked := none }) rfl hsize rfl rfl (rest := rest) rfl
    (by rw [hb]; exact d7) (by rw [hb]; exact d10) hout hRframes (by simp only [List.map_cons, List.sum_cons, hcat]; omega) hlocks
  obtain ⟨f1, f2⟩ := vx_frame hsame
  rw [hhp] at f1 f2
  have hWs : s.WarmedH U.vm := State.WarmedH.trans hW0 hW
  have hcl : s.vm.findClass cls = some ce.cls := by
    have h9 := hO.cls
    rw [hvm] at h9
    exact h9
  have hall : s.sameButNew ({ U with vm := s.vm } : State) locs mc ms := by
    subst hA
    obtain ⟨e1, e2⟩ := hsame
    rw [State.setFrames_setFrames] at e1
    have h2 : (T.setVm s.vm).sameButNew ({ U with vm := s.vm } : State) [] (0 + 1) (0 + 6) := ⟨e1, e2⟩
    have h3 := X.same.trans h2
    rw [List.append_nil] at h3
    exact h3.mono hc hs
  refine ⟨U, ?_, .threw T.heap.size, hrun, hend, Or.inr ⟨T.heap.size, rfl, cls, ce, locs, hx U hWs.alike f1 (fun q hq => f2 q hq (fun z hz => nomatch hz)), hce, hO.vm, hcl, hWs, hall, hf⟩⟩
  refine st1 _ ?_
  show Steps p.tables e below (T1.setTop { method := m, pc := pc + 3, locals := ls, stack := .ref T.heap.size :: rest, locked := none }) _
  jvm_step X₁.here [X₁.here.top, hexec, d3', Value.category]
  exact X₁.ldcStringW hexec (own := own) (text := text) (index := is) (a := sa) hown' hstr'.1 hstr'.2
    (g := { method := m, pc := pc + 4, locals := ls, stack := .ref T.heap.size :: .ref T.heap.size :: rest, locked := none }) rfl d4' _ hsteps
end Ends
section Bodies
variable {l : Launch}
theorem vx_ofW {y : MethodName} {ws ws' : List Cond} {rm : Room} {Pc : Array Value → State → Prop} {Qc : Array Value → State → Outcome → State → Prop} {XC : String → State → State → Prop} {mc ms : Nat} {free : Addr → Prop} {cc : ByteArray} {maxL : Nat} {ret : Option FieldType}
    (hy : plainName y.cls = true) (hw : ws = Cond.code y cc maxL ret :: ws')
    (body : ∀ p e s m args below meth c s₁, BodyLoose p l y (headSpec ws rm) cc maxL ret e s m args below meth c s₁ → c.maxLocals = maxL → (∀ x ∈ c.exceptionTable.toList, False) → Pc args s →
      W p l e (headSpec ws rm).room s m args below meth c s.heap [] 0 0 (vx_MQ below Qc XC args s mc ms free) (entryFrame m args maxL)) : vx_Met l y ws rm Pc Qc XC mc ms free := by
  refine MetFree.of_bodyS (code := cc) (maxLocals := maxL) (ret := ret) hy ?_ ?_
  · intro args s m h hn
    obtain ⟨meth, c, h1, h2, h3, h4, h5, h6, -, -⟩ := Cond.code_spec hn (atoms_spec (ws := ws) h _ (by rw [hw]; exact List.mem_cons_self))
    exact ⟨meth, c, h1, h2, h3, h4, h5, h6⟩
  · intro p e s m args below meth c s₁ B hml hP _
    have hh0 : s₁.heap = s.heap := by rw [B.state]; rfl
    have ht : ∀ x ∈ c.exceptionTable.toList, False := by
      obtain ⟨meth9, c9, h1, h2, -, -, -, -, h7, -⟩ := Cond.code_spec B.named (atoms_spec (ws := ws) B.pre _ (by rw [hw]; exact List.mem_cons_self))
      cases Option.some.inj (h1.symm.trans B.method)
      cases Option.some.inj (h2.symm.trans (Stand.of_body B).code)
      intro x hx
      rw [Array.isEmpty_iff.mp h7] at hx
      cases hx
    obtain ⟨t, a1, o, b1, b2, b3⟩ := body p e s m args below meth c s₁ B hml ht hP s₁ hh0 (Stand.of_body B)
    exact ⟨t, o, a1, b1, b2, b3⟩
/-- the table of a body with handlers -/
theorem vx_table {p : Program} {x y : MethodName} {S : Spec} {cc bytes : ByteArray} {maxL maxL' : Nat} {ret ret' : Option FieldType} {e : Env} {s s₁ : State} {m : MethodId} {args : Array Value} {below : List Frame} {meth : Method} {c : Code} {hh : List (Nat × Nat × Nat × Nat)}
    (B : BodyLoose p l y S cc maxL ret e s m args below meth c s₁) (h : (Cond.codeWith y bytes maxL' ret' hh).before args s = true) : c.exceptionTable.toList = tableOf hh := by
  obtain ⟨m9, meth9, c9, hn9, h1, h2, -, -, h6, -⟩ := Cond.codeWith_spec h
  cases Option.some.inj (hn9.symm.trans B.named)
  cases Option.some.inj (h1.symm.trans B.method)
  cases Option.some.inj (h2.symm.trans (Stand.of_body B).code)
  rw [← h6, table_eq]
end Bodies
end VXA
/-! ===== END ===== -/
/-! ===== BEGIN a static call of a method with an exception table ===== -/
section VXS
variable {p : Program} {l : Launch} {e : Env} {R : Room} {s : State} {m : MethodId} {args : Array Value} {below : List Frame} {meth : Method} {c : Code} {T : State} {H : Heap} {locs : List Loc} {cells slots : Nat}
abbrev vx_CSW (R : Room) (s : State) (args : Array Value) (own : String) (index : Nat) (y : MethodName) (bytes : ByteArray) (maxL : Nat) (ret : Option FieldType) (hh : List (Nat × Nat × Nat × Nat)) (ws : List Cond) (rm : Room) (mc ms n : Nat) : Prop :=
  (rm.cells = mc ∧ rm.slots = ms ∧ rm.frames + 1 ≤ R.frames ∧ 8 + (maxL + 11) + rm.locals ≤ R.locals ∧ (∀ w ∈ ws, ∀ (a' : Array Value) (U : State), s.WarmedH U.vm → w.before a' U = true) ∧ Cond.codeWith y bytes maxL ret hh ∈ ws) ∧
  (Cond.codeWith y bytes maxL ret hh).before args s = true ∧ (Cond.initialized y.cls).before args s = true ∧ (y.cls ≠ "java/lang/invoke/MethodHandle" ∧ y.cls ≠ "java/lang/invoke/VarHandle") ∧
  (∀ sig, parseMethodDescriptor y.desc = some sig → n = sig.parameters.length) ∧ (Cond.methodLink own index y).before args s = true ∧ (Cond.static y).before args s = true
theorem vx_cwSW {own : String} {index maxL mc ms : Nat} {y : MethodName} {bytes : ByteArray} {ret : Option FieldType} {hh : List (Nat × Nat × Nat × Nat)} {Ts ws ws' : List Cond} {rm : Room} (n : Nat) (ht : ∀ w ∈ Ts, w.before args s = true) (hT : GoodIn Ts (va_wsS own index y ws)) (hw : ws = Cond.codeWith y bytes maxL ret hh :: ws') (hrc : rm.cells = mc) (hrs : rm.slots = ms)
    (hd : y.cls ≠ "java/lang/invoke/MethodHandle" ∧ y.cls ≠ "java/lang/invoke/VarHandle" ∧ (parseMethodDescriptor y.desc).map (fun d => d.parameters.length) = some n) (hR : rm.frames + 1 ≤ R.frames ∧ 8 + (maxL + 11) + rm.locals ≤ R.locals) :
    vx_CSW R s args own index y bytes maxL ret hh ws rm mc ms n := by
  have ok : ∀ w ∈ va_wsS own index y ws, w.before args s = true := fun w h => ht w (hT w h).1
  have hG : GoodIn Ts ws := fun w h => hT w (by unfold va_wsS; exact List.mem_append_right _ h)
  have hc : Cond.codeWith y bytes maxL ret hh ∈ ws := by rw [hw]; exact List.mem_cons_self
  refine ⟨⟨hrc, hrs, hR.1, hR.2, pay_in ht hG, hc⟩, ht _ (hG _ hc).1, ok _ (by simp [va_wsS]), ⟨hd.1, hd.2.1⟩, fun sig h => ?_, ok _ (by simp [va_wsS]), ok _ (by simp [va_wsS])⟩
  have h2 := hd.2.2
  rw [h] at h2
  exact (Option.some.inj h2).symm
theorem vx_callSW (X : Stand p l e R s m args below meth c T locs cells slots) (hexec : p.tables.exec = Jvm.exec) {own : String} {index : Nat} {y : MethodName} {bytes : ByteArray} {maxL : Nat} {ret : Option FieldType} {hh : List (Nat × Nat × Nat × Nat)}
    (hown : s.vm.findClass own = some m.cls) (hlink : (Cond.methodLink own index y).before args s = true) (hstat : (Cond.static y).before args s = true) (hinit : (Cond.initialized y.cls).before args s = true)
    (hcode : (Cond.codeWith y bytes maxL ret hh).before args s = true) (hy : y.cls ≠ "java/lang/invoke/MethodHandle" ∧ y.cls ≠ "java/lang/invoke/VarHandle")
    {W9 : Nat} {Pre : Pt → Array Value → Prop} {Post : Pt → Array Value → Option Value → Pt → Prop} (hK : Back l R p e below s args y 3 W9 Pre Post)
    {g : JFrame} (hg : g.method = m) (hsize : g.locals.size = c.maxLocals) {argsL rest : List Value} (hlen : ∀ sig, parseMethodDescriptor y.desc = some sig → argsL.length = sig.parameters.length)
    (hstack : g.stack = argsL.reverse ++ rest) (hW : 2 * g.monitorRoom + (rest.map fun v => v.category).sum ≤ W9) (hdg : decode c.code g.pc = .ok (.invokestatic index, 3))
    (hpre : ∀ vm₁, s.WarmedH vm₁ → Pre ⟨T.setVm vm₁, locs, cells, slots⟩ argsL.toArray) :
    ∃ (v : Option Value) (vm₁ : Vm) (B : Pt), s.WarmedH vm₁ ∧ Stand p l e R s m args below meth c B.U B.locs B.cells B.slots ∧ Post ⟨T.setVm vm₁, locs, cells, slots⟩ argsL.toArray v B ∧
      ∀ target, Steps p.tables e below (B.U.setTop { g with pc := g.pc + 3, stack := v.toList ++ rest }) target → Steps p.tables e below (T.setTop g) target := by
  obtain ⟨mk, methM, cM, hnamed, hmethM, -, -, -, -, -, -, hsigM⟩ := Cond.codeWith_spec hcode
  have hstatic : methM.isStatic = true := Cond.static_spec hnamed hmethM hstat
  obtain ⟨kP, hkP, -⟩ := className_of_methodNamed hnamed
  have hinitP : kP.init = .initialized := Cond.initialized_spec (findClass_of_methodNamed hnamed) hkP hinit
  obtain ⟨vm₁, X₁, hstep₁⟩ := X.invokestatic hexec hown hlink hnamed hmethM hstatic hkP hinitP hy (g := g) hg (argsL := argsL) (rest := rest) (hlen _ hsigM) hstack hdg
  obtain ⟨v, B, X', hpost, hsteps⟩ := hK m meth c ⟨T.setVm vm₁, locs, cells, slots⟩ { g with stack := rest } (.invokestatic index) mk argsL.toArray X₁ hg hsize hdg hW (X₁.named hnamed) (hpre vm₁ X₁.warmed)
  exact ⟨v, vm₁, B, X₁.warmed, X', hpost, fun target h => hstep₁ _ fun acts => by rw [doInvoke_state]; exact hsteps.trans h⟩
theorem vx_runSW {y : MethodName} {bytes cc : ByteArray} {maxL nL mc ms n index : Nat} {ret : Option FieldType} {hh : List (Nat × Nat × Nat × Nat)} {ws : List Cond} {rm : Room} {Pc : Array Value → State → Prop} {Qc : Array Value → State → Outcome → State → Prop} {free : Addr → Prop} {Ts : List Cond} {own : String} {As rest : List Value} {g : JFrame}
    (S : CallFix p m c cc nL s args Ts own) (hM : Met l y ws rm Pc Qc mc ms free) (cw : vx_CSW R s args own index y bytes maxL ret hh ws rm mc ms n) (hp : PreS s H Pc As)
    (hg : g.method = m) (hn : As.length = n) (hsize : g.locals.size = nL) (hstack : g.stack = As.reverse ++ rest) (hW : 2 * g.monitorRoom + (rest.map fun v => v.category).sum ≤ 8) (hdg : decode cc g.pc = .ok (.invokestatic index, 3)) (hf : cells + mc ≤ R.cells ∧ slots + ms ≤ R.slots) :
    va_Run p l e R s m args below meth c H locs cells slots mc ms g rest (Qc As.toArray) (free) := by
  obtain ⟨⟨hrc, hrs, hfr, hlo, hws, hcw⟩, hcode, hini, hy, hlen, hl, hstt⟩ := cw
  have hK : Back l R p e below s args y 3 8 (PreOf R mc ms Pc) (PostOf Qc mc ms free) := va_backW (hh := hh) (bytes := bytes) (maxL := maxL) (ret := ret) hM hp.1 hrc hrs hfr hlo hws hcw (fun a' U hW => word_at hW (Or.inl (by first | rfl | simp [Cond.onTables, Cond.keeps, Cond.steady])) hini)
  obtain ⟨hx, hb, hml, ho, -⟩ := S
  intro T hT X
  obtain ⟨v, vm₁, ⟨U', l2, c2, s2⟩, hW₁, X', ⟨g', mk, t, L, e1, e2, hq, h1, hL, h2, h3⟩, st⟩ := vx_callSW X hx (hh := hh) (bytes := bytes) (maxL := maxL) (ret := ret) ho hl hstt hini hcode hy hK hg (hsize.trans hml.symm) (argsL := As) (rest := rest) (fun sig h => hn.trans (hlen sig h)) hstack hW (by rw [hb]; exact hdg)
    (fun vm₁ hW₁ => ⟨hf.1, hf.2, hp.2 (T.setVm vm₁) hT hW₁⟩)
  dsimp only [Pt.U, Pt.locs, Pt.cells, Pt.slots] at X' e1 e2 h1 h2 h3 st
  subst h1; subst h2; subst h3
  exact ⟨v, (T.setVm vm₁).calling g' mk As.toArray, t, U', L, hT, X', hL, e1, e2, hq, st⟩
/-- not caught here, past rows that name other classes: it goes on to the caller -/
theorem vx_outP {p : Program} {l : Launch} {e : Env} {R : Room} {s : State} {m : MethodId} {args : Array Value} {below : List Frame} {meth : Method} {c : Code} {H : Heap} {locs : List Loc} {cells slots : Nat} {free : Addr → Prop} {ls : Array Slot} {rest : List Value} {Qc : Array Value → State → Outcome → State → Prop} {XC : String → State → State → Prop}
    {pc : Nat} {own E : String} {ce : Cell} {q : Addr} {mc ms : Nat} (hown : s.vm.findClass own = some m.cls) (hlocks : meth.locks = false)
    (hpass : ∀ z ∈ c.exceptionTable.toList, covers z pc = false ∨ (z.catchType ≠ 0 ∧ ∃ nm : String, (Cond.classLink own z.catchType nm).before args s = true ∧ va_Nc E nm s)) (hcell : H[q]? = some ce) (hv : ce.vm = .none) (hcl : s.vm.findClass E = some ce.cls)
    (hx : ∀ t : State, t.heap = H → s.vm.Alike t.vm → XC E s t) (hf : ∀ z ∈ locs, free z.base) (hc : cells ≤ mc) (hs : slots ≤ ms) :
    vx_W p l e R s m args below meth c H locs cells slots (vx_MQ below Qc XC args s mc ms free) (F0 m pc ls rest) q := by
  intro T hT X
  have hpl : e.platform.magicAccessors = ({} : Platform).magicAccessors := by rw [X.admits.platform]
  obtain ⟨vm', hW', X', st⟩ := X.outThrough hlocks q (g := F0 m pc ls rest) rfl rfl rfl (cell := ce) (by rw [hT]; exact hcell) (by rw [hv]; rfl)
    (by obtain ⟨k9, h9, -⟩ := Vm.findClass_spec hcl; exact ⟨k9, h9⟩) (fun z hz => by
      rcases hpass z hz with h | ⟨hz0, nm, hl1, hn1⟩
      · exact Or.inl h
      · obtain ⟨c6, hc6, hcl6⟩ := Cond.classLink_spec hown hl1 e.platform hpl
        obtain ⟨a8, b8, h1, h2, h3⟩ := hn1
        cases Option.some.inj (h1.symm.trans hcl)
        cases Option.some.inj (h2.symm.trans hc6)
        exact Or.inr ⟨hz0, _, hcl6, h3⟩)
  obtain ⟨g₀, hfr⟩ := X'.frames_eq
  have hcell9 : ((T.setVm vm').setFrames (.throwing q :: below)).heap[q]? = some ce := by
    show T.heap[q]? = some ce
    rw [hT]; exact hcell
  have hend : Ended ((T.setVm vm').setFrames (.throwing q :: below)) below (.threw q) := State.frames_setFrames _ (State.cur_lt_of_frames hfr)
  refine ⟨(T.setVm vm').setFrames (.throwing q :: below), ?_, .threw q, X'.here.running, hend, Or.inr ⟨q, rfl, E, ce, locs, hx _ hT (X'.ends _).1.alike, hcell9, hv, hcl, (X'.ends _).1, (X'.ends _).2.mono hc hs, hf⟩⟩
  rw [X.pushThrowing_eq]
  exact st
/-- a thing of a world lies in the heap -/
theorem vx_lt {D : va_G} {cl : List vw_C} {ws : va_W} {H1 : Heap} (h : va_P D cl ws H1) {k : Nat} {q : Nat × va_E} (hk : ws[k]? = some q) : q.1 < H1.size := (h k q hk).lt
end VXS
/-! ===== END ===== -/
/-! ===== BEGIN methods with a table of their own: called by a name, returning or throwing ===== -/
section VXH
/-! vx_backW, vx_callVX, vx_callSX, vx_callVW, vx_runVW, vx_runVX, vx_runSX, vx_ofWH follow the same proofs as their sisters above (Free/Laws.lean, Shelf42/LK1.lean); vx_outP calls Shelf42/NT130.lean (outThrough). -/
section
variable {l : Launch} {R : Room} {p : Program} {e : Env} {below : List Frame} {s : State} {sargs : Array Value} {y : MethodName} {len W9 : Nat}
theorem vx_backW {ws : List Cond} {rm : Room} {Pc : Array Value → State → Prop} {Qc : Array Value → State → Outcome → State → Prop} {XC : String → State → State → Prop} {mc ms : Nat} {free : Addr → Prop} {bytes : ByteArray} {maxL : Nat} {ret : Option FieldType} {hh : List (Nat × Nat × Nat × Nat)}
    (hM : vx_Met l y ws rm Pc Qc XC mc ms free) (hblind : FrameBlind Pc) (hrc : rm.cells = mc) (hrs : rm.slots = ms)
    (hframes : rm.frames + 1 ≤ R.frames) (hlocals : W9 + (maxL + 11) + rm.locals ≤ R.locals)
    (hws : ∀ w ∈ ws, ∀ a' U, s.WarmedH U.vm → w.before a' U = true) (hcode : Cond.codeWith y bytes maxL ret hh ∈ ws) (hinit : ∀ a' U, s.WarmedH U.vm → (Cond.initialized y.cls).before a' U = true) :
    vx_Back l R p e below s sargs y len W9 (PreOf R mc ms Pc) (PostOf Qc mc ms free) (vx_Post XC mc ms free) := by
  intro m meth c A g ig mk a X hg hsize hdg hW hn hp
  have h1 : (headSpec ws rm).pre.before a A.U = true := atoms_intro fun w hw => hws w hw _ _ X.warmed
  have h2 : (Cond.codeWith y bytes maxL ret hh).before a A.U = true := hws _ hcode _ _ X.warmed
  have h3 : (Cond.initialized y.cls).before a A.U = true := hinit _ _ X.warmed
  have h4 : A.cells + (headSpec ws rm).room.cells ≤ R.cells := by rw [show (headSpec ws rm).room.cells = mc from hrc]; exact hp.1
  have h5 : A.slots + (headSpec ws rm).room.slots ≤ R.slots := by rw [show (headSpec ws rm).room.slots = ms from hrs]; exact hp.2.1
  have hPc : Pc a (A.U.calling g mk a) := hblind _ _ _ _ hp.2.2
  obtain ⟨U, Ls, c0, s0⟩ := A
  dsimp only [Pt.U, Pt.locs, Pt.cells, Pt.slots] at h1 h2 h3 h4 h5 X hn hPc ⊢
  obtain ⟨m9, methY, cY, hn9, hmY, hcY, -, hlY, -⟩ := Cond.codeWith_spec h2
  cases Option.some.inj (hn9.symm.trans hn)
  obtain ⟨kY, hkY, -⟩ := className_of_methodNamed hn
  have hinitY : kY.init = .initialized := Cond.initialized_spec (findClass_of_methodNamed hn) hkY h3
  have h : At U g.method c below := by rw [hg]; exact X.here
  have hlocals9 : W9 + (maxL + 11) + (headSpec ws rm).room.locals ≤ R.locals := hlocals
  have happ : (headSpec ws rm).appliesLoose y e.platform (U.calling g mk a) = true :=
    Spec.appliesLoose_calling (g := g) h hdg hn hkY hinitY
      (X.room_calling (g := g) (R' := (headSpec ws rm).room) hsize hmY hcY hframes (by rw [hlY]; omega) h4 h5) h1
  obtain ⟨mid, hmid⟩ := h.above
  have hfr : (U.setTop g).frames = (.java g :: mid) ++ below := by rw [State.frames_setTop' g h.top, hmid]; rfl
  obtain ⟨o, s₂, hsteps, -, hend, hq⟩ := Steps.callFree hM p X.admits X.cas X.clock (acts := []) hfr happ hPc trivial
  have hq' : vx_Q Qc XC mc ms free a (U.calling g mk a) o s₂ := hq
  rw [State.frames_setTop' g h.top] at hend
  obtain ⟨g₀, hg0⟩ := Option.isSome_iff_exists.mp h.top
  obtain ⟨r, hr⟩ := State.topJava?_eq_some.mp hg0
  have hr' : (({ U with heap := s₂.heap, slotsUsed := s₂.slotsUsed } : State).setVm s₂.vm).frames = .java g₀ :: r := hr
  rcases hq' with ⟨hqc, L, hfe, hL⟩ | ⟨q, rfl, E, ce, L, hx, hce, hcv, hcl, hW₂, hsm, hL⟩
  · obtain ⟨⟨v, rfl⟩, hW₂, e2, q2, q3, q4, q5, q6⟩ := id hfe
    have e3 : s₂ = ({ (U.calling g mk a).setFrames s₂.frames with heap := s₂.heap, slotsUsed := s₂.slotsUsed } : State).setVm s₂.vm := by
      have : s₂ = ({ s₂ with vm := (U.calling g mk a).vm } : State).setVm s₂.vm := rfl
      rw [e2] at this
      exact this
    obtain ⟨c₂, i₂, len₂, hc₂, hd₂, hf₂⟩ := hend
    have hW' : U.WarmedH s₂.vm := hW₂
    have hcc : c₂ = c := by
      have h1 : s₂.code? g.method = U.code? g.method := by
        rw [State.code?_eq, State.code?_eq, hW'.alike.method?]
      exact Option.some.inj (hc₂.symm.trans (h1.trans h.code))
    subst hcc
    have hlen : len₂ = len := by rw [hdg] at hd₂; cases hd₂; rfl
    subst hlen
    have hs₂ : s₂ = (({ U with heap := s₂.heap, slotsUsed := s₂.slotsUsed } : State).setVm s₂.vm).setTop { g with pc := g.pc + len₂, stack := v.toList ++ g.stack } := by
      refine e3.trans ?_
      rw [hf₂, State.calling_eq h.top, State.setFrames_setFrames, State.setTop_of_frames _ hr', hr]
      rfl
    have hsame : U.sameButNew ({ U with heap := s₂.heap, slotsUsed := s₂.slotsUsed } : State) L mc ms := by
      refine ⟨?_, q2, q3, q4, q5, q6⟩
      obtain ⟨t, ht, -⟩ := State.frames_cons hr
      show ({ U with heap := s₂.heap, slotsUsed := s₂.slotsUsed } : State) = { U.setFrames U.frames with heap := s₂.heap, slotsUsed := s₂.slotsUsed }
      rw [State.setFrames_self ht]
    subst hg
    refine Or.inl ⟨v, ⟨(({ U with heap := s₂.heap, slotsUsed := s₂.slotsUsed } : State).setVm s₂.vm), Ls ++ L, c0 + mc, s0 + ms⟩,
      ⟨X.admits, X.cas, X.clock, X.frames, X.room, X.hears, X.method, X.code, (X.here.setHeapUsed s₂.heap s₂.slotsUsed).setVm hW'.alike, X.tail, State.WarmedH.trans X.warmed hW', X.limits, X.bytes, X.same.trans (hsame.setVm s.vm)⟩,
      ⟨g, mk, s₂, L, rfl, rfl, hqc, rfl, hL, rfl, rfl⟩, ?_⟩
    show Steps p.tables e below _ ((({ U with heap := s₂.heap, slotsUsed := s₂.slotsUsed } : State).setVm s₂.vm).setTop { g with pc := g.pc + len₂, stack := v.toList ++ g.stack })
    rw [← hs₂]
    exact hsteps
  · obtain ⟨e2, q2, q3, q4, q5, q6⟩ := id hsm
    have e3 : s₂ = ({ (U.calling g mk a).setFrames s₂.frames with heap := s₂.heap, slotsUsed := s₂.slotsUsed } : State).setVm s₂.vm := by
      have : s₂ = ({ s₂ with vm := (U.calling g mk a).vm } : State).setVm s₂.vm := rfl
      rw [e2] at this
      exact this
    have hf₂ : s₂.frames = .throwing q :: .java g :: U.frames.tail := hend
    have hW' : U.WarmedH s₂.vm := hW₂
    have hs₂ : s₂ = ((({ U with heap := s₂.heap, slotsUsed := s₂.slotsUsed } : State).setVm s₂.vm).setTop g).pushFrame (.throwing q) := by
      refine e3.trans ?_
      rw [hf₂, State.calling_eq h.top, State.setFrames_setFrames, State.pushFrame, State.frames_setTop _ hr', State.setTop_of_frames _ hr', State.setFrames_setFrames, hr]
      rfl
    have hsame : U.sameButNew ({ U with heap := s₂.heap, slotsUsed := s₂.slotsUsed } : State) L mc ms := by
      refine ⟨?_, q2, q3, q4, q5, q6⟩
      obtain ⟨t, ht, -⟩ := State.frames_cons hr
      show ({ U with heap := s₂.heap, slotsUsed := s₂.slotsUsed } : State) = { U.setFrames U.frames with heap := s₂.heap, slotsUsed := s₂.slotsUsed }
      rw [State.setFrames_self ht]
    subst hg
    refine Or.inr ⟨q, ⟨(({ U with heap := s₂.heap, slotsUsed := s₂.slotsUsed } : State).setVm s₂.vm), Ls ++ L, c0 + mc, s0 + ms⟩,
      ⟨X.admits, X.cas, X.clock, X.frames, X.room, X.hears, X.method, X.code, (X.here.setHeapUsed s₂.heap s₂.slotsUsed).setVm hW'.alike, X.tail, State.WarmedH.trans X.warmed hW', X.limits, X.bytes, X.same.trans (hsame.setVm s.vm)⟩,
      ⟨g, mk, s₂, L, E, ce, rfl, rfl, hx, hce, hcv, hcl, rfl, hL, rfl, rfl⟩, ?_⟩
    show Steps p.tables e below _ (((({ U with heap := s₂.heap, slotsUsed := s₂.slotsUsed } : State).setVm s₂.vm).setTop g).pushFrame (.throwing q))
    rw [← hs₂]
    exact hsteps
end
variable {p : Program} {l : Launch} {e : Env} {R : Room} {s : State} {m : MethodId} {args : Array Value} {below : List Frame} {meth : Method} {c : Code} {T : State} {H : Heap} {locs : List Loc} {cells slots : Nat}
theorem vx_callVX (X : Stand p l e R s m args below meth c T locs cells slots) (hexec : p.tables.exec = Jvm.exec) {own C : String} {index : Nat} {y : MethodName} {bytes : ByteArray} {maxL : Nat} {ret : Option FieldType} {hh : List (Nat × Nat × Nat × Nat)}
    (hown : s.vm.findClass own = some m.cls) (hlink : (Cond.methodLink own index y).before args s = true) (hinst : (Cond.instanceMethod y).before args s = true) (hsel : (Cond.selects C y y).before args s = true)
    (hcode : (Cond.codeWith y bytes maxL ret hh).before args s = true) (hy : y.cls ≠ "java/lang/invoke/MethodHandle" ∧ y.cls ≠ "java/lang/invoke/VarHandle")
    {W9 : Nat} {Pre : Pt → Array Value → Prop} {Post : Pt → Array Value → Option Value → Pt → Prop} {PostX : Pt → Array Value → Addr → Pt → Prop} (hK : vx_Back l R p e below s args y 3 W9 Pre Post PostX)
    {b : Addr} {cellB : Cell} (hcell : T.heap[b]? = some cellB) (hobj : cellB.vm.isStatics = false) (hcls : s.vm.findClass C = some cellB.cls)
    {g : JFrame} (hg : g.method = m) (hsize : g.locals.size = c.maxLocals) {argsL rest : List Value} (hlen : ∀ sig, parseMethodDescriptor y.desc = some sig → argsL.length = sig.parameters.length)
    (hstack : g.stack = argsL.reverse ++ .ref b :: rest) (hW : 2 * g.monitorRoom + (rest.map fun v => v.category).sum ≤ W9) (hdg : decode c.code g.pc = .ok (.invokevirtual index, 3))
    (hpre : ∀ vm₁, s.WarmedH vm₁ → Pre ⟨T.setVm vm₁, locs, cells, slots⟩ (Value.ref b :: argsL).toArray) :
    (∃ (v : Option Value) (vm₁ : Vm) (B : Pt), s.WarmedH vm₁ ∧ Stand p l e R s m args below meth c B.U B.locs B.cells B.slots ∧ Post ⟨T.setVm vm₁, locs, cells, slots⟩ (Value.ref b :: argsL).toArray v B ∧
      ∀ target, Steps p.tables e below (B.U.setTop { g with pc := g.pc + 3, stack := v.toList ++ rest }) target → Steps p.tables e below (T.setTop g) target) ∨
    (∃ (q : Addr) (vm₁ : Vm) (B : Pt), s.WarmedH vm₁ ∧ Stand p l e R s m args below meth c B.U B.locs B.cells B.slots ∧ PostX ⟨T.setVm vm₁, locs, cells, slots⟩ (Value.ref b :: argsL).toArray q B ∧
      Steps p.tables e below (T.setTop g) ((B.U.setTop { g with stack := rest }).pushFrame (.throwing q))) := by
  obtain ⟨mk, methM, hnamed, hmethM, hstM, habM⟩ := Cond.instanceMethod_spec hinst
  obtain ⟨m8, methM', cM, hn8, hmethM', -, -, -, -, -, -, hsigM⟩ := Cond.codeWith_spec hcode
  cases Option.some.inj (hn8.symm.trans hnamed)
  cases hmethM.symm.trans hmethM'
  obtain ⟨c2, r2, m2, q1, q2, q3, q4, kP, hkP, hkPi⟩ := Cond.selects_spec hsel
  cases hcls.symm.trans q1
  cases (State.methodFound?_of_named hnamed hy).symm.trans q2
  cases hnamed.symm.trans q3
  have hselP : selectMethod e.platform s.vm cellB.cls mk = .method mk := by rw [Launch.admits_selectMethod X.admits]; exact q4
  obtain ⟨vm₁, X₁, hstep₁⟩ := X.invokevirtual hexec hown hlink hnamed hmethM hstM hkP hkPi hy (a := b) (cell := cellB) hcell
    (fun z h => by rw [h] at hobj; cases hobj) hselP hmethM habM hkP hkPi (g := g) hg (argsL := argsL) (rest := rest) (hlen _ hsigM) hstack hdg
  rcases hK m meth c ⟨T.setVm vm₁, locs, cells, slots⟩ { g with stack := rest } (.invokevirtual index) mk (Value.ref b :: argsL).toArray X₁ hg hsize hdg hW (X₁.named hnamed) (hpre vm₁ X₁.warmed) with ⟨v, B, X', hpost, hsteps⟩ | ⟨q, B, X', hpost, hsteps⟩
  · exact Or.inl ⟨v, vm₁, B, X₁.warmed, X', hpost, fun target h => hstep₁ _ fun acts => by rw [doInvoke_state]; exact hsteps.trans h⟩
  · exact Or.inr ⟨q, vm₁, B, X₁.warmed, X', hpost, hstep₁ _ fun acts => by rw [doInvoke_state]; exact hsteps⟩
theorem vx_callSX (X : Stand p l e R s m args below meth c T locs cells slots) (hexec : p.tables.exec = Jvm.exec) {own : String} {index : Nat} {y : MethodName} {bytes : ByteArray} {maxL : Nat} {ret : Option FieldType} {hh : List (Nat × Nat × Nat × Nat)}
    (hown : s.vm.findClass own = some m.cls) (hlink : (Cond.methodLink own index y).before args s = true) (hstat : (Cond.static y).before args s = true) (hinit : (Cond.initialized y.cls).before args s = true)
    (hcode : (Cond.codeWith y bytes maxL ret hh).before args s = true) (hy : y.cls ≠ "java/lang/invoke/MethodHandle" ∧ y.cls ≠ "java/lang/invoke/VarHandle")
    {W9 : Nat} {Pre : Pt → Array Value → Prop} {Post : Pt → Array Value → Option Value → Pt → Prop} {PostX : Pt → Array Value → Addr → Pt → Prop} (hK : vx_Back l R p e below s args y 3 W9 Pre Post PostX)
    {g : JFrame} (hg : g.method = m) (hsize : g.locals.size = c.maxLocals) {argsL rest : List Value} (hlen : ∀ sig, parseMethodDescriptor y.desc = some sig → argsL.length = sig.parameters.length)
    (hstack : g.stack = argsL.reverse ++ rest) (hW : 2 * g.monitorRoom + (rest.map fun v => v.category).sum ≤ W9) (hdg : decode c.code g.pc = .ok (.invokestatic index, 3))
    (hpre : ∀ vm₁, s.WarmedH vm₁ → Pre ⟨T.setVm vm₁, locs, cells, slots⟩ argsL.toArray) :
    (∃ (v : Option Value) (vm₁ : Vm) (B : Pt), s.WarmedH vm₁ ∧ Stand p l e R s m args below meth c B.U B.locs B.cells B.slots ∧ Post ⟨T.setVm vm₁, locs, cells, slots⟩ argsL.toArray v B ∧
      ∀ target, Steps p.tables e below (B.U.setTop { g with pc := g.pc + 3, stack := v.toList ++ rest }) target → Steps p.tables e below (T.setTop g) target) ∨
    (∃ (q : Addr) (vm₁ : Vm) (B : Pt), s.WarmedH vm₁ ∧ Stand p l e R s m args below meth c B.U B.locs B.cells B.slots ∧ PostX ⟨T.setVm vm₁, locs, cells, slots⟩ argsL.toArray q B ∧
      Steps p.tables e below (T.setTop g) ((B.U.setTop { g with stack := rest }).pushFrame (.throwing q))) := by
  obtain ⟨mk, methM, cM, hnamed, hmethM, -, -, -, -, -, -, hsigM⟩ := Cond.codeWith_spec hcode
  have hstatic : methM.isStatic = true := Cond.static_spec hnamed hmethM hstat
  obtain ⟨kP, hkP, -⟩ := className_of_methodNamed hnamed
  have hinitP : kP.init = .initialized := Cond.initialized_spec (findClass_of_methodNamed hnamed) hkP hinit
  obtain ⟨vm₁, X₁, hstep₁⟩ := X.invokestatic hexec hown hlink hnamed hmethM hstatic hkP hinitP hy (g := g) hg (argsL := argsL) (rest := rest) (hlen _ hsigM) hstack hdg
  rcases hK m meth c ⟨T.setVm vm₁, locs, cells, slots⟩ { g with stack := rest } (.invokestatic index) mk argsL.toArray X₁ hg hsize hdg hW (X₁.named hnamed) (hpre vm₁ X₁.warmed) with ⟨v, B, X', hpost, hsteps⟩ | ⟨q, B, X', hpost, hsteps⟩
  · exact Or.inl ⟨v, vm₁, B, X₁.warmed, X', hpost, fun target h => hstep₁ _ fun acts => by rw [doInvoke_state]; exact hsteps.trans h⟩
  · exact Or.inr ⟨q, vm₁, B, X₁.warmed, X', hpost, hstep₁ _ fun acts => by rw [doInvoke_state]; exact hsteps⟩
theorem vx_callVW (X : Stand p l e R s m args below meth c T locs cells slots) (hexec : p.tables.exec = Jvm.exec) {own C : String} {index : Nat} {y : MethodName} {bytes : ByteArray} {maxL : Nat} {ret : Option FieldType} {hh : List (Nat × Nat × Nat × Nat)}
    (hown : s.vm.findClass own = some m.cls) (hlink : (Cond.methodLink own index y).before args s = true) (hinst : (Cond.instanceMethod y).before args s = true) (hsel : (Cond.selects C y y).before args s = true)
    (hcode : (Cond.codeWith y bytes maxL ret hh).before args s = true) (hy : y.cls ≠ "java/lang/invoke/MethodHandle" ∧ y.cls ≠ "java/lang/invoke/VarHandle")
    {W9 : Nat} {Pre : Pt → Array Value → Prop} {Post : Pt → Array Value → Option Value → Pt → Prop} (hK : Back l R p e below s args y 3 W9 Pre Post)
    {b : Addr} {cellB : Cell} (hcell : T.heap[b]? = some cellB) (hobj : cellB.vm.isStatics = false) (hcls : s.vm.findClass C = some cellB.cls)
    {g : JFrame} (hg : g.method = m) (hsize : g.locals.size = c.maxLocals) {argsL rest : List Value} (hlen : ∀ sig, parseMethodDescriptor y.desc = some sig → argsL.length = sig.parameters.length)
    (hstack : g.stack = argsL.reverse ++ .ref b :: rest) (hW : 2 * g.monitorRoom + (rest.map fun v => v.category).sum ≤ W9) (hdg : decode c.code g.pc = .ok (.invokevirtual index, 3))
    (hpre : ∀ vm₁, s.WarmedH vm₁ → Pre ⟨T.setVm vm₁, locs, cells, slots⟩ (Value.ref b :: argsL).toArray) :
    ∃ (v : Option Value) (vm₁ : Vm) (B : Pt), s.WarmedH vm₁ ∧ Stand p l e R s m args below meth c B.U B.locs B.cells B.slots ∧ Post ⟨T.setVm vm₁, locs, cells, slots⟩ (Value.ref b :: argsL).toArray v B ∧
      ∀ target, Steps p.tables e below (B.U.setTop { g with pc := g.pc + 3, stack := v.toList ++ rest }) target → Steps p.tables e below (T.setTop g) target := by
  obtain ⟨mk, methM, hnamed, hmethM, hstM, habM⟩ := Cond.instanceMethod_spec hinst
  obtain ⟨m8, methM', cM, hn8, hmethM', -, -, -, -, -, -, hsigM⟩ := Cond.codeWith_spec hcode
  cases Option.some.inj (hn8.symm.trans hnamed)
  cases hmethM.symm.trans hmethM'
  obtain ⟨c2, r2, m2, q1, q2, q3, q4, kP, hkP, hkPi⟩ := Cond.selects_spec hsel
  cases hcls.symm.trans q1
  cases (State.methodFound?_of_named hnamed hy).symm.trans q2
  cases hnamed.symm.trans q3
  have hselP : selectMethod e.platform s.vm cellB.cls mk = .method mk := by rw [Launch.admits_selectMethod X.admits]; exact q4
  obtain ⟨vm₁, X₁, hstep₁⟩ := X.invokevirtual hexec hown hlink hnamed hmethM hstM hkP hkPi hy (a := b) (cell := cellB) hcell
    (fun z h => by rw [h] at hobj; cases hobj) hselP hmethM habM hkP hkPi (g := g) hg (argsL := argsL) (rest := rest) (hlen _ hsigM) hstack hdg
  obtain ⟨v, B, X', hpost, hsteps⟩ := hK m meth c ⟨T.setVm vm₁, locs, cells, slots⟩ { g with stack := rest } (.invokevirtual index) mk (Value.ref b :: argsL).toArray X₁ hg hsize hdg hW (X₁.named hnamed) (hpre vm₁ X₁.warmed)
  exact ⟨v, vm₁, B, X₁.warmed, X', hpost, fun target h => hstep₁ _ fun acts => by rw [doInvoke_state]; exact hsteps.trans h⟩
abbrev vx_CVW (R : Room) (s : State) (args : Array Value) (own C : String) (index : Nat) (y : MethodName) (bytes : ByteArray) (maxL : Nat) (ret : Option FieldType) (hh : List (Nat × Nat × Nat × Nat)) (ws : List Cond) (rm : Room) (mc ms n : Nat) : Prop :=
  (rm.cells = mc ∧ rm.slots = ms ∧ rm.frames + 1 ≤ R.frames ∧ 8 + (maxL + 11) + rm.locals ≤ R.locals ∧ (∀ w ∈ ws, ∀ (a' : Array Value) (U : State), s.WarmedH U.vm → w.before a' U = true) ∧ Cond.codeWith y bytes maxL ret hh ∈ ws) ∧
  (Cond.codeWith y bytes maxL ret hh).before args s = true ∧ (Cond.initialized y.cls).before args s = true ∧ (y.cls ≠ "java/lang/invoke/MethodHandle" ∧ y.cls ≠ "java/lang/invoke/VarHandle") ∧
  (∀ sig, parseMethodDescriptor y.desc = some sig → n = sig.parameters.length) ∧ (Cond.methodLink own index y).before args s = true ∧ (Cond.instanceMethod y).before args s = true ∧ (Cond.selects C y y).before args s = true
theorem vx_cwVW {own C : String} {index maxL mc ms : Nat} {y : MethodName} {bytes : ByteArray} {ret : Option FieldType} {hh : List (Nat × Nat × Nat × Nat)} {Ts ws ws' : List Cond} {rm : Room} (n : Nat) (ht : ∀ w ∈ Ts, w.before args s = true) (hT : GoodIn Ts (wsV own index C y ws)) (hw : ws = Cond.codeWith y bytes maxL ret hh :: ws') (hrc : rm.cells = mc) (hrs : rm.slots = ms)
    (hd : y.cls = C ∧ y.cls ≠ "java/lang/invoke/MethodHandle" ∧ y.cls ≠ "java/lang/invoke/VarHandle" ∧ (parseMethodDescriptor y.desc).map (fun d => d.parameters.length) = some n) (hR : rm.frames + 1 ≤ R.frames ∧ 8 + (maxL + 11) + rm.locals ≤ R.locals) :
    vx_CVW R s args own C index y bytes maxL ret hh ws rm mc ms n := by
  obtain ⟨hC, hd⟩ := hd
  subst hC
  have ok : ∀ w ∈ wsV own index y.cls y ws, w.before args s = true := fun w h => ht w (hT w h).1
  have hG : GoodIn Ts ws := fun w h => hT w (by unfold wsV; exact List.mem_append_right _ h)
  have hc : Cond.codeWith y bytes maxL ret hh ∈ ws := by rw [hw]; exact List.mem_cons_self
  refine ⟨⟨hrc, hrs, hR.1, hR.2, pay_in ht hG, hc⟩, ht _ (hG _ hc).1, ok _ (by simp [wsV]), ⟨hd.1, hd.2.1⟩, fun sig h => ?_, ok _ (by simp [wsV]), ok _ (by simp [wsV]), ok _ (by simp [wsV])⟩
  have h2 := hd.2.2
  rw [h] at h2
  exact (Option.some.inj h2).symm
theorem vx_runVW {y : MethodName} {bytes cc : ByteArray} {maxL nL mc ms n index : Nat} {ret : Option FieldType} {hh : List (Nat × Nat × Nat × Nat)} {ws : List Cond} {rm : Room} {Pc : Array Value → State → Prop} {Qc : Array Value → State → Outcome → State → Prop} {free : Addr → Prop} {Ts : List Cond} {own C : String} {b : Addr} {As rest : List Value} {g : JFrame}
    (S : CallFix p m c cc nL s args Ts own) (hM : Met l y ws rm Pc Qc mc ms free) (cw : vx_CVW R s args own C index y bytes maxL ret hh ws rm mc ms n) (hp : PreV s H C b Pc As)
    (hg : g.method = m) (hn : As.length = n) (hsize : g.locals.size = nL) (hstack : g.stack = As.reverse ++ .ref b :: rest) (hW : 2 * g.monitorRoom + (rest.map fun v => v.category).sum ≤ 8) (hdg : decode cc g.pc = .ok (.invokevirtual index, 3)) (hf : cells + mc ≤ R.cells ∧ slots + ms ≤ R.slots) :
    va_Run p l e R s m args below meth c H locs cells slots mc ms g rest (Qc (Value.ref b :: As).toArray) free := by
  obtain ⟨⟨hrc, hrs, hfr, hlo, hws, hcw⟩, hcode, hini, hy, hlen, hl, hin, hse⟩ := cw
  have hK : Back l R p e below s args y 3 8 (PreOf R mc ms Pc) (PostOf Qc mc ms free) := va_backW (hh := hh) (bytes := bytes) (maxL := maxL) (ret := ret) hM hp.1 hrc hrs hfr hlo hws hcw (fun a' U hW => word_at hW (Or.inl (by first | rfl | simp [Cond.onTables, Cond.keeps, Cond.steady])) hini)
  obtain ⟨hx, hb, hml, ho, -⟩ := S
  obtain ⟨-, ⟨cellB, hcB, hoB, hclB⟩, hPc⟩ := hp
  intro T hT X
  obtain ⟨v, vm₁, ⟨U', l2, c2, s2⟩, hW₁, X', ⟨g', mk, t, L, e1, e2, hq, h1, hL, h2, h3⟩, st⟩ := vx_callVW X hx (C := C) (hh := hh) (bytes := bytes) (maxL := maxL) (ret := ret) ho hl hin hse hcode hy hK (by rw [hT]; exact hcB) hoB hclB hg (hsize.trans hml.symm) (argsL := As) (rest := rest) (fun sig h => hn.trans (hlen sig h)) hstack hW (by rw [hb]; exact hdg)
    (fun vm₁ hW₁ => ⟨hf.1, hf.2, hPc (T.setVm vm₁) hT hW₁⟩)
  dsimp only [Pt.U, Pt.locs, Pt.cells, Pt.slots] at X' e1 e2 h1 h2 h3 st
  subst h1; subst h2; subst h3
  exact ⟨v, (T.setVm vm₁).calling g' mk (Value.ref b :: As).toArray, t, U', L, hT, X', hL, e1, e2, hq, st⟩
section
variable {y : MethodName} {bytes cc : ByteArray} {maxL nL mc ms n index : Nat} {ret : Option FieldType} {ws : List Cond} {rm : Room} {Pc : Array Value → State → Prop} {Qc : Array Value → State → Outcome → State → Prop} {XC : String → State → State → Prop} {free : Addr → Prop} {Ts : List Cond} {own C : String} {b : Addr} {As rest : List Value} {g : JFrame}
theorem vx_runVX {hh : List (Nat × Nat × Nat × Nat)} (S : CallFix p m c cc nL s args Ts own) (hM : vx_Met l y ws rm Pc Qc XC mc ms free) (cw : vx_CVW R s args own C index y bytes maxL ret hh ws rm mc ms n) (hp : PreV s H C b Pc As)
    (hg : g.method = m) (hn : As.length = n) (hsize : g.locals.size = nL) (hstack : g.stack = As.reverse ++ .ref b :: rest) (hW : 2 * g.monitorRoom + (rest.map fun v => v.category).sum ≤ 8) (hdg : decode cc g.pc = .ok (.invokevirtual index, 3)) (hf : cells + mc ≤ R.cells ∧ slots + ms ≤ R.slots) :
    vx_Run p l e R s m args below meth c H locs cells slots mc ms g rest (Qc (Value.ref b :: As).toArray) XC free := by
  obtain ⟨⟨hrc, hrs, hfr, hlo, hws, hcw⟩, hcode, hini, hy, hlen, hl, hin, hse⟩ := cw
  have hK : vx_Back l R p e below s args y 3 8 (PreOf R mc ms Pc) (PostOf Qc mc ms free) (vx_Post XC mc ms free) := vx_backW (hh := hh) (bytes := bytes) (maxL := maxL) (ret := ret) hM hp.1 hrc hrs hfr hlo hws hcw (fun a' U hW => word_at hW (Or.inl (by first | rfl | simp [Cond.onTables, Cond.keeps, Cond.steady])) hini)
  obtain ⟨hx, hb, hml, ho, -⟩ := S
  obtain ⟨-, ⟨cellB, hcB, hoB, hclB⟩, hPc⟩ := hp
  intro T hT X
  rcases vx_callVX X hx (C := C) (hh := hh) (bytes := bytes) (maxL := maxL) (ret := ret) ho hl hin hse hcode hy hK (by rw [hT]; exact hcB) hoB hclB hg (hsize.trans hml.symm) (argsL := As) (rest := rest) (fun sig h => hn.trans (hlen sig h)) hstack hW (by rw [hb]; exact hdg)
    (fun vm₁ hW₁ => ⟨hf.1, hf.2, hPc (T.setVm vm₁) hT hW₁⟩) with ⟨v, vm₁, ⟨U', l2, c2, s2⟩, hW₁, X', ⟨g', mk, t, L, e1, e2, hq, h1, hL, h2, h3⟩, st⟩ | ⟨q, vm₁, ⟨U', l2, c2, s2⟩, hW₁, X', ⟨g', mk, t, L, E, ce, e1, e2, hq, hce, hcv, hcl, h1, hL, h2, h3⟩, st⟩
  · dsimp only [Pt.U, Pt.locs, Pt.cells, Pt.slots] at X' e1 e2 h1 h2 h3 st
    subst h1; subst h2; subst h3
    exact Or.inl ⟨v, (T.setVm vm₁).calling g' mk (Value.ref b :: As).toArray, t, U', L, hT, X', hL, e1, e2, hq, st⟩
  · dsimp only [Pt.U, Pt.locs, Pt.cells, Pt.slots] at X' e1 e2 h1 h2 h3 st hcl
    subst h1; subst h2; subst h3
    exact Or.inr ⟨q, (T.setVm vm₁).calling g' mk (Value.ref b :: As).toArray, t, U', L, E, ce, hT, X', hL, e1, e2, hq, hce, hcv, vx_cls hW₁ hcl, st⟩
theorem vx_runSX {hh : List (Nat × Nat × Nat × Nat)} (S : CallFix p m c cc nL s args Ts own) (hM : vx_Met l y ws rm Pc Qc XC mc ms free) (cw : vx_CSW R s args own index y bytes maxL ret hh ws rm mc ms n) (hp : PreS s H Pc As)
    (hg : g.method = m) (hn : As.length = n) (hsize : g.locals.size = nL) (hstack : g.stack = As.reverse ++ rest) (hW : 2 * g.monitorRoom + (rest.map fun v => v.category).sum ≤ 8) (hdg : decode cc g.pc = .ok (.invokestatic index, 3)) (hf : cells + mc ≤ R.cells ∧ slots + ms ≤ R.slots) :
    vx_Run p l e R s m args below meth c H locs cells slots mc ms g rest (Qc As.toArray) XC free := by
  obtain ⟨⟨hrc, hrs, hfr, hlo, hws, hcw⟩, hcode, hini, hy, hlen, hl, hstt⟩ := cw
  have hK : vx_Back l R p e below s args y 3 8 (PreOf R mc ms Pc) (PostOf Qc mc ms free) (vx_Post XC mc ms free) := vx_backW (hh := hh) (bytes := bytes) (maxL := maxL) (ret := ret) hM hp.1 hrc hrs hfr hlo hws hcw (fun a' U hW => word_at hW (Or.inl (by first | rfl | simp [Cond.onTables, Cond.keeps, Cond.steady])) hini)
  obtain ⟨hx, hb, hml, ho, -⟩ := S
  intro T hT X
  rcases vx_callSX X hx (hh := hh) (bytes := bytes) (maxL := maxL) (ret := ret) ho hl hstt hini hcode hy hK hg (hsize.trans hml.symm) (argsL := As) (rest := rest) (fun sig h => hn.trans (hlen sig h)) hstack hW (by rw [hb]; exact hdg)
    (fun vm₁ hW₁ => ⟨hf.1, hf.2, hp.2 (T.setVm vm₁) hT hW₁⟩) with ⟨v, vm₁, ⟨U', l2, c2, s2⟩, hW₁, X', ⟨g', mk, t, L, e1, e2, hq, h1, hL, h2, h3⟩, st⟩ | ⟨q, vm₁, ⟨U', l2, c2, s2⟩, hW₁, X', ⟨g', mk, t, L, E, ce, e1, e2, hq, hce, hcv, hcl, h1, hL, h2, h3⟩, st⟩
  · dsimp only [Pt.U, Pt.locs, Pt.cells, Pt.slots] at X' e1 e2 h1 h2 h3 st
    subst h1; subst h2; subst h3
    exact Or.inl ⟨v, (T.setVm vm₁).calling g' mk As.toArray, t, U', L, hT, X', hL, e1, e2, hq, st⟩
  · dsimp only [Pt.U, Pt.locs, Pt.cells, Pt.slots] at X' e1 e2 h1 h2 h3 st hcl
    subst h1; subst h2; subst h3
    exact Or.inr ⟨q, (T.setVm vm₁).calling g' mk As.toArray, t, U', L, E, ce, hT, X', hL, e1, e2, hq, hce, hcv, vx_cls hW₁ hcl, st⟩
end
end VXH
theorem vx_ofWH {l : Launch} {y : MethodName} {ws ws' : List Cond} {rm : Room} {Pc : Array Value → State → Prop} {Qc : Array Value → State → Outcome → State → Prop} {XC : String → State → State → Prop} {mc ms : Nat} {free : Addr → Prop} {cc : ByteArray} {maxL : Nat} {ret : Option FieldType} {hh : List (Nat × Nat × Nat × Nat)}
    (hy : plainName y.cls = true) (hw : ws = Cond.codeWith y cc maxL ret hh :: ws')
    (body : ∀ p e s m args below meth c s₁, BodyLoose p l y (headSpec ws rm) cc maxL ret e s m args below meth c s₁ → c.maxLocals = maxL → Pc args s →
      W p l e (headSpec ws rm).room s m args below meth c s.heap [] 0 0 (vx_MQ below Qc XC args s mc ms free) (entryFrame m args maxL)) : vx_Met l y ws rm Pc Qc XC mc ms free := by
  refine MetFree.of_bodyS (code := cc) (maxLocals := maxL) (ret := ret) hy ?_ ?_
  · intro args s m h hn
    obtain ⟨m9, meth, c, hn9, h1, h2, h3, h4, -, h5, h6, -⟩ := Cond.codeWith_spec (atoms_spec (ws := ws) h _ (by rw [hw]; exact List.mem_cons_self))
    cases hn.symm.trans hn9
    exact ⟨meth, c, h1, h2, h3, h4, h5, h6⟩
  · intro p e s m args below meth c s₁ B hml hP _
    have hh0 : s₁.heap = s.heap := by rw [B.state]; rfl
    obtain ⟨t, a1, o, b1, b2, b3⟩ := body p e s m args below meth c s₁ B hml hP s₁ hh0 (Stand.of_body B)
    exact ⟨t, o, a1, b1, b2, b3⟩
/-! ===== END ===== -/
/-! ===== BEGIN printed: names, fields, word lists, decode rows ===== -/
def RX0 : String := "Carryfree$Irreducibles"
def TX0 : u_T := fun k => match k with
  | _ => ("", "", "", false)
def tyX0 : Nat → FieldType := fun k => match k with
  | _ => .int
abbrev wsX00 : List Cond := u_ws RX0 TX0 0
theorem nmX0 : ∀ a, a < 0 → ∀ b, b < 0 → a ≠ b → (TX0 a).2.1 ≠ (TX0 b).2.1 := by decide +kernel
theorem tyX0_ok : ∀ k, k < 0 → parseFieldDescriptor (TX0 k).2.2.1 = some (tyX0 k) := by decide +kernel
abbrev cX0_isOne : ByteArray := prog_2_method_2_code
def yX0_isOne : MethodName := ⟨RX0, "isOne", "(J)Z"⟩
abbrev cX0_countBelow : ByteArray := prog_2_method_3_code
def yX0_countBelow : MethodName := ⟨RX0, "countBelow", "(IJ)I"⟩
abbrev cX0_withRank : ByteArray := prog_2_method_4_code
def yX0_withRank : MethodName := ⟨RX0, "withRank", "(II)J"⟩
abbrev cX0_productForDivisors : ByteArray := prog_2_method_5_code
def yX0_productForDivisors : MethodName := ⟨RX0, "productForDivisors", "(I)J"⟩
abbrev cX0_timesAllOf : ByteArray := prog_2_method_6_code
def yX0_timesAllOf : MethodName := ⟨RX0, "timesAllOf", "(JI)J"⟩
abbrev cX0_factorsOf : ByteArray := prog_2_method_7_code
def yX0_factorsOf : MethodName := ⟨RX0, "factorsOf", "(J)Ljava/lang/String;"⟩
abbrev cX0_periodOf : ByteArray := prog_2_method_8_code
def yX0_periodOf : MethodName := ⟨RX0, "periodOf", "(J)I"⟩
abbrev cX0_formulaFor : ByteArray := prog_2_method_9_code
def yX0_formulaFor : MethodName := ⟨RX0, "formulaFor", "(I)I"⟩
abbrev cX0_signOf : ByteArray := prog_2_method_10_code
def yX0_signOf : MethodName := ⟨RX0, "signOf", "(I)I"⟩
def RX1 : String := "Carryfree$Polys"
def TX1 : u_T := fun k => match k with
  | _ => ("", "", "", false)
def tyX1 : Nat → FieldType := fun k => match k with
  | _ => .int
abbrev wsX10 : List Cond := u_ws RX1 TX1 0
theorem nmX1 : ∀ a, a < 0 → ∀ b, b < 0 → a ≠ b → (TX1 a).2.1 ≠ (TX1 b).2.1 := by decide +kernel
theorem tyX1_ok : ∀ k, k < 0 → parseFieldDescriptor (TX1 k).2.2.1 = some (tyX1 k) := by decide +kernel
abbrev cX1_single : ByteArray := prog_3_method_2_code
def yX1_single : MethodName := ⟨RX1, "single", "(I)J"⟩
abbrev cX1_hasOne : ByteArray := prog_3_method_3_code
def yX1_hasOne : MethodName := ⟨RX1, "hasOne", "(JI)Z"⟩
abbrev cX1_topPlace : ByteArray := prog_3_method_4_code
def yX1_topPlace : MethodName := ⟨RX1, "topPlace", "(J)I"⟩
abbrev cX1_bottomPlace : ByteArray := prog_3_method_5_code
def yX1_bottomPlace : MethodName := ⟨RX1, "bottomPlace", "(J)I"⟩
abbrev cX1_joined : ByteArray := prog_3_method_6_code
def yX1_joined : MethodName := ⟨RX1, "joined", "(JJI)J"⟩
abbrev cX1_product : ByteArray := prog_3_method_7_code
def yX1_product : MethodName := ⟨RX1, "product", "(JJ)J"⟩
abbrev cX1_quotientOf : ByteArray := prog_3_method_8_code
def yX1_quotientOf : MethodName := ⟨RX1, "quotientOf", "(JJ)J"⟩
abbrev cX1_restOf : ByteArray := prog_3_method_9_code
def yX1_restOf : MethodName := ⟨RX1, "restOf", "(JJ)J"⟩
abbrev cX1_isDivisor : ByteArray := prog_3_method_10_code
def yX1_isDivisor : MethodName := ⟨RX1, "isDivisor", "(JJ)Z"⟩
abbrev cX1_euclid : ByteArray := prog_3_method_11_code
def yX1_euclid : MethodName := ⟨RX1, "euclid", "(JJJJ)J"⟩
abbrev cX1_gcdOf : ByteArray := prog_3_method_12_code
def yX1_gcdOf : MethodName := ⟨RX1, "gcdOf", "(JJ)J"⟩
abbrev cX1_firstBezout : ByteArray := prog_3_method_13_code
def yX1_firstBezout : MethodName := ⟨RX1, "firstBezout", "(JJ)J"⟩
abbrev cX1_secondBezout : ByteArray := prog_3_method_14_code
def yX1_secondBezout : MethodName := ⟨RX1, "secondBezout", "(JJ)J"⟩
abbrev cX1_derived : ByteArray := prog_3_method_15_code
def yX1_derived : MethodName := ⟨RX1, "derived", "(J)J"⟩
abbrev cX1_evenPlacesHalved : ByteArray := prog_3_method_16_code
def yX1_evenPlacesHalved : MethodName := ⟨RX1, "evenPlacesHalved", "(J)J"⟩
abbrev cX1_turned : ByteArray := prog_3_method_17_code
def yX1_turned : MethodName := ⟨RX1, "turned", "(J)J"⟩
abbrev cX1_moved : ByteArray := prog_3_method_18_code
def yX1_moved : MethodName := ⟨RX1, "moved", "(J)J"⟩
abbrev cX1_powerRest : ByteArray := prog_3_method_19_code
def yX1_powerRest : MethodName := ⟨RX1, "powerRest", "(JIJ)J"⟩
def RX2 : String := "Carryfree$Texts"
def TX2 : u_T := fun k => match k with
  | _ => ("", "", "", false)
def tyX2 : Nat → FieldType := fun k => match k with
  | _ => .int
abbrev wsX20 : List Cond := u_ws RX2 TX2 0
theorem nmX2 : ∀ a, a < 0 → ∀ b, b < 0 → a ≠ b → (TX2 a).2.1 ≠ (TX2 b).2.1 := by decide +kernel
theorem tyX2_ok : ∀ k, k < 0 → parseFieldDescriptor (TX2 k).2.2.1 = some (tyX2 k) := by decide +kernel
abbrev cX2_placesOf : ByteArray := prog_4_method_2_code
def yX2_placesOf : MethodName := ⟨RX2, "placesOf", "(J)Ljava/lang/String;"⟩
abbrev cX2_numberIn : ByteArray := prog_4_method_3_code
def yX2_numberIn : MethodName := ⟨RX2, "numberIn", "(JI)Ljava/lang/String;"⟩
abbrev cX2_signOf : ByteArray := prog_4_method_4_code
def yX2_signOf : MethodName := ⟨RX2, "signOf", "(I)C"⟩
def RX3 : String := "Carryfree"
def TX3 : u_T := fun k => match k with
  | 0 => ("Carryfree", "cells", "[J", true)
  | 1 => ("Carryfree", "acts", "I", false)
  | 2 => ("Carryfree", "refusals", "I", false)
  | _ => ("Carryfree", "knocks", "I", false)
def tyX3 : Nat → FieldType := fun k => match k with
  | 0 => .array .long
  | 1 => .int
  | 2 => .int
  | _ => .int
abbrev wsX30 : List Cond := u_ws RX3 TX3 4
theorem nmX3 : ∀ a, a < 4 → ∀ b, b < 4 → a ≠ b → (TX3 a).2.1 ≠ (TX3 b).2.1 := by decide +kernel
theorem tyX3_ok : ∀ k, k < 4 → parseFieldDescriptor (TX3 k).2.2.1 = some (tyX3 k) := by decide +kernel
abbrev cX3_init : ByteArray := prog_1_method_1_code
def yX3_init : MethodName := ⟨RX3, "<init>", "()V"⟩
abbrev cX3_put : ByteArray := prog_1_method_2_code
def yX3_put : MethodName := ⟨RX3, "put", "(II)I"⟩
abbrev cX3_mono : ByteArray := prog_1_method_3_code
def yX3_mono : MethodName := ⟨RX3, "mono", "(II)I"⟩
abbrev cX3_digit : ByteArray := prog_1_method_4_code
def yX3_digit : MethodName := ⟨RX3, "digit", "(IIZ)Z"⟩
abbrev cX3_flip : ByteArray := prog_1_method_5_code
def yX3_flip : MethodName := ⟨RX3, "flip", "(II)Z"⟩
abbrev cX3_copy : ByteArray := prog_1_method_6_code
def yX3_copy : MethodName := ⟨RX3, "copy", "(II)I"⟩
abbrev cX3_swap : ByteArray := prog_1_method_7_code
def yX3_swap : MethodName := ⟨RX3, "swap", "(II)I"⟩
abbrev cX3_end : ByteArray := prog_1_method_8_code
def yX3_end : MethodName := ⟨RX3, "end", "(IIZI)I"⟩
abbrev cX3_join : ByteArray := prog_1_method_9_code
def yX3_join : MethodName := ⟨RX3, "join", "(IIII)I"⟩
abbrev cX3_times : ByteArray := prog_1_method_10_code
def yX3_times : MethodName := ⟨RX3, "times", "(III)I"⟩
abbrev cX3_square : ByteArray := prog_1_method_11_code
def yX3_square : MethodName := ⟨RX3, "square", "(II)I"⟩
abbrev cX3_shift : ByteArray := prog_1_method_12_code
def yX3_shift : MethodName := ⟨RX3, "shift", "(III)I"⟩
abbrev cX3_quotient : ByteArray := prog_1_method_13_code
def yX3_quotient : MethodName := ⟨RX3, "quotient", "(III)I"⟩
abbrev cX3_rest : ByteArray := prog_1_method_14_code
def yX3_rest : MethodName := ⟨RX3, "rest", "(III)I"⟩
abbrev cX3_gcd : ByteArray := prog_1_method_15_code
def yX3_gcd : MethodName := ⟨RX3, "gcd", "(III)I"⟩
abbrev cX3_lcm : ByteArray := prog_1_method_16_code
def yX3_lcm : MethodName := ⟨RX3, "lcm", "(III)I"⟩
abbrev cX3_bezout : ByteArray := prog_1_method_17_code
def yX3_bezout : MethodName := ⟨RX3, "bezout", "(IIZI)I"⟩
abbrev cX3_derive : ByteArray := prog_1_method_18_code
def yX3_derive : MethodName := ⟨RX3, "derive", "(II)I"⟩
abbrev cX3_root : ByteArray := prog_1_method_19_code
def yX3_root : MethodName := ⟨RX3, "root", "(II)I"⟩
abbrev cX3_turn : ByteArray := prog_1_method_20_code
def yX3_turn : MethodName := ⟨RX3, "turn", "(II)I"⟩
abbrev cX3_move : ByteArray := prog_1_method_21_code
def yX3_move : MethodName := ⟨RX3, "move", "(II)I"⟩
abbrev cX3_power : ByteArray := prog_1_method_22_code
def yX3_power : MethodName := ⟨RX3, "power", "(IIII)I"⟩
abbrev cX3_nth : ByteArray := prog_1_method_23_code
def yX3_nth : MethodName := ⟨RX3, "nth", "(III)I"⟩
abbrev cX3_field : ByteArray := prog_1_method_24_code
def yX3_field : MethodName := ⟨RX3, "field", "(II)I"⟩
abbrev cX3_again : ByteArray := prog_1_method_25_code
def yX3_again : MethodName := ⟨RX3, "again", "(III)I"⟩
abbrev cX3_degree : ByteArray := prog_1_method_26_code
def yX3_degree : MethodName := ⟨RX3, "degree", "(I)I"⟩
abbrev cX3_low : ByteArray := prog_1_method_27_code
def yX3_low : MethodName := ⟨RX3, "low", "(I)I"⟩
abbrev cX3_weight : ByteArray := prog_1_method_28_code
def yX3_weight : MethodName := ⟨RX3, "weight", "(I)I"⟩
abbrev cX3_at : ByteArray := prog_1_method_29_code
def yX3_at : MethodName := ⟨RX3, "at", "(II)Z"⟩
abbrev cX3_digits : ByteArray := prog_1_method_30_code
def yX3_digits : MethodName := ⟨RX3, "digits", "(I)I"⟩
abbrev cX3_text : ByteArray := prog_1_method_31_code
def yX3_text : MethodName := ⟨RX3, "text", "(I)Ljava/lang/String;"⟩
abbrev cX3_code : ByteArray := prog_1_method_32_code
def yX3_code : MethodName := ⟨RX3, "code", "(II)Ljava/lang/String;"⟩
abbrev cX3_order : ByteArray := prog_1_method_33_code
def yX3_order : MethodName := ⟨RX3, "order", "(II)I"⟩
abbrev cX3_isSame : ByteArray := prog_1_method_34_code
def yX3_isSame : MethodName := ⟨RX3, "isSame", "(II)Z"⟩
abbrev cX3_value : ByteArray := prog_1_method_35_code
def yX3_value : MethodName := ⟨RX3, "value", "(IZ)I"⟩
abbrev cX3_divides : ByteArray := prog_1_method_36_code
def yX3_divides : MethodName := ⟨RX3, "divides", "(II)Z"⟩
abbrev cX3_isFree : ByteArray := prog_1_method_37_code
def yX3_isFree : MethodName := ⟨RX3, "isFree", "(I)Z"⟩
abbrev cX3_irreducible : ByteArray := prog_1_method_38_code
def yX3_irreducible : MethodName := ⟨RX3, "irreducible", "(I)I"⟩
abbrev cX3_rank : ByteArray := prog_1_method_39_code
def yX3_rank : MethodName := ⟨RX3, "rank", "(I)I"⟩
abbrev cX3_factors : ByteArray := prog_1_method_40_code
def yX3_factors : MethodName := ⟨RX3, "factors", "(I)Ljava/lang/String;"⟩
abbrev cX3_period : ByteArray := prog_1_method_41_code
def yX3_period : MethodName := ⟨RX3, "period", "(I)I"⟩
abbrev cX3_many : ByteArray := prog_1_method_42_code
def yX3_many : MethodName := ⟨RX3, "many", "(I)I"⟩
abbrev cX3_formula : ByteArray := prog_1_method_43_code
def yX3_formula : MethodName := ⟨RX3, "formula", "(I)I"⟩
abbrev cX3_find : ByteArray := prog_1_method_44_code
def yX3_find : MethodName := ⟨RX3, "find", "(IZ)I"⟩
abbrev cX3_house : ByteArray := prog_1_method_45_code
def yX3_house : MethodName := ⟨RX3, "house", "(I)I"⟩
abbrev cX3_knock : ByteArray := prog_1_method_46_code
def yX3_knock : MethodName := ⟨RX3, "knock", "()I"⟩
abbrev cX3_isSound : ByteArray := prog_1_method_47_code
def yX3_isSound : MethodName := ⟨RX3, "isSound", "()Z"⟩
abbrev cX3_digest : ByteArray := prog_1_method_48_code
def yX3_digest : MethodName := ⟨RX3, "digest", "()J"⟩
abbrev cX3_checkCell : ByteArray := prog_1_method_49_code
def yX3_checkCell : MethodName := ⟨RX3, "checkCell", "(I)V"⟩
abbrev cX3_checkRange : ByteArray := prog_1_method_50_code
def yX3_checkRange : MethodName := ⟨RX3, "checkRange", "(III)V"⟩
abbrev cX3_polyIn : ByteArray := prog_1_method_51_code
def yX3_polyIn : MethodName := ⟨RX3, "polyIn", "(I)J"⟩
abbrev cX3_hasDegreeIn : ByteArray := prog_1_method_52_code
def yX3_hasDegreeIn : MethodName := ⟨RX3, "hasDegreeIn", "(JII)Z"⟩
abbrev cX3_fill : ByteArray := prog_1_method_53_code
def yX3_fill : MethodName := ⟨RX3, "fill", "(IJ)I"⟩
abbrev cX3_fillProduct : ByteArray := prog_1_method_54_code
def yX3_fillProduct : MethodName := ⟨RX3, "fillProduct", "(IJJ)I"⟩
abbrev cX3_refuse : ByteArray := prog_1_method_55_code
def yX3_refuse : MethodName := ⟨RX3, "refuse", "()I"⟩
abbrev cX3_cellsWithZero : ByteArray := prog_1_method_56_code
def yX3_cellsWithZero : MethodName := ⟨RX3, "cellsWithZero", "()I"⟩
abbrev cX3_allWeights : ByteArray := prog_1_method_57_code
def yX3_allWeights : MethodName := ⟨RX3, "allWeights", "()I"⟩
def RX4 : String := "CarryfreeLaw$Out"
def TX4 : u_T := fun k => match k with
  | 0 => ("CarryfreeLaw$Out", "n", "J", false)
  | _ => ("CarryfreeLaw$Out", "s", "Ljava/lang/String;", false)
def tyX4 : Nat → FieldType := fun k => match k with
  | 0 => .long
  | _ => .object "java/lang/String"
abbrev wsX40 : List Cond := u_ws RX4 TX4 2
theorem nmX4 : ∀ a, a < 2 → ∀ b, b < 2 → a ≠ b → (TX4 a).2.1 ≠ (TX4 b).2.1 := by decide +kernel
theorem tyX4_ok : ∀ k, k < 2 → parseFieldDescriptor (TX4 k).2.2.1 = some (tyX4 k) := by decide +kernel
abbrev cX4_init : ByteArray := prog_6_method_1_code
def yX4_init : MethodName := ⟨RX4, "<init>", "()V"⟩
def RX5 : String := "CarryfreeModel"
def TX5 : u_T := fun k => match k with
  | 0 => ("CarryfreeModel", "cells", "[J", true)
  | 1 => ("CarryfreeModel", "thrown", "I", false)
  | 2 => ("CarryfreeModel", "acts", "I", false)
  | 3 => ("CarryfreeModel", "refused", "I", false)
  | _ => ("CarryfreeModel", "knocks", "I", false)
def tyX5 : Nat → FieldType := fun k => match k with
  | 0 => .array .long
  | 1 => .int
  | 2 => .int
  | 3 => .int
  | _ => .int
abbrev wsX50 : List Cond := u_ws RX5 TX5 5
theorem nmX5 : ∀ a, a < 5 → ∀ b, b < 5 → a ≠ b → (TX5 a).2.1 ≠ (TX5 b).2.1 := by decide +kernel
theorem tyX5_ok : ∀ k, k < 5 → parseFieldDescriptor (TX5 k).2.2.1 = some (tyX5 k) := by decide +kernel
abbrev cX5_init : ByteArray := prog_7_method_1_code
def yX5_init : MethodName := ⟨RX5, "<init>", "()V"⟩
abbrev cX5_isIn : ByteArray := prog_7_method_3_code
def yX5_isIn : MethodName := ⟨RX5, "isIn", "(III)Z"⟩
abbrev cX5_one : ByteArray := prog_7_method_4_code
def yX5_one : MethodName := ⟨RX5, "one", "(Z)I"⟩
abbrev cX5_refuse : ByteArray := prog_7_method_5_code
def yX5_refuse : MethodName := ⟨RX5, "refuse", "(ZI)Z"⟩
abbrev cX5_start : ByteArray := prog_7_method_6_code
def yX5_start : MethodName := ⟨RX5, "start", "(ZI)Z"⟩
abbrev cX5_isNo : ByteArray := prog_7_method_7_code
def yX5_isNo : MethodName := ⟨RX5, "isNo", "(I)Z"⟩
abbrev cX5_degreeOf : ByteArray := prog_7_method_8_code
def yX5_degreeOf : MethodName := ⟨RX5, "degreeOf", "(J)I"⟩
abbrev cX5_lowOf : ByteArray := prog_7_method_9_code
def yX5_lowOf : MethodName := ⟨RX5, "lowOf", "(J)I"⟩
abbrev cX5_weightOf : ByteArray := prog_7_method_10_code
def yX5_weightOf : MethodName := ⟨RX5, "weightOf", "(J)I"⟩
abbrev cX5_has : ByteArray := prog_7_method_11_code
def yX5_has : MethodName := ⟨RX5, "has", "(JI)Z"⟩
abbrev cX5_product : ByteArray := prog_7_method_12_code
def yX5_product : MethodName := ⟨RX5, "product", "(JJ)J"⟩
abbrev cX5_quotientOf : ByteArray := prog_7_method_13_code
def yX5_quotientOf : MethodName := ⟨RX5, "quotientOf", "(JJ)J"⟩
abbrev cX5_restOf : ByteArray := prog_7_method_14_code
def yX5_restOf : MethodName := ⟨RX5, "restOf", "(JJ)J"⟩
abbrev cX5_euclid : ByteArray := prog_7_method_15_code
def yX5_euclid : MethodName := ⟨RX5, "euclid", "(JJI)J"⟩
abbrev cX5_derived : ByteArray := prog_7_method_16_code
def yX5_derived : MethodName := ⟨RX5, "derived", "(J)J"⟩
abbrev cX5_half : ByteArray := prog_7_method_17_code
def yX5_half : MethodName := ⟨RX5, "half", "(J)J"⟩
abbrev cX5_isIrreducible : ByteArray := prog_7_method_18_code
def yX5_isIrreducible : MethodName := ⟨RX5, "isIrreducible", "(J)Z"⟩
abbrev cX5_rankOf : ByteArray := prog_7_method_19_code
def yX5_rankOf : MethodName := ⟨RX5, "rankOf", "(J)I"⟩
abbrev cX5_howMany : ByteArray := prog_7_method_20_code
def yX5_howMany : MethodName := ⟨RX5, "howMany", "(I)I"⟩
abbrev cX5_lay : ByteArray := prog_7_method_21_code
def yX5_lay : MethodName := ⟨RX5, "lay", "(IJ)I"⟩
abbrev cX5_no : ByteArray := prog_7_method_22_code
def yX5_no : MethodName := ⟨RX5, "no", "()I"⟩
abbrev cX5_layIf : ByteArray := prog_7_method_23_code
def yX5_layIf : MethodName := ⟨RX5, "layIf", "(ZIJ)I"⟩
abbrev cX5_put : ByteArray := prog_7_method_24_code
def yX5_put : MethodName := ⟨RX5, "put", "(II)I"⟩
abbrev cX5_mono : ByteArray := prog_7_method_25_code
def yX5_mono : MethodName := ⟨RX5, "mono", "(II)I"⟩
abbrev cX5_digit : ByteArray := prog_7_method_26_code
def yX5_digit : MethodName := ⟨RX5, "digit", "(IIZ)Z"⟩
abbrev cX5_flip : ByteArray := prog_7_method_27_code
def yX5_flip : MethodName := ⟨RX5, "flip", "(II)Z"⟩
abbrev cX5_copy : ByteArray := prog_7_method_28_code
def yX5_copy : MethodName := ⟨RX5, "copy", "(II)I"⟩
abbrev cX5_swap : ByteArray := prog_7_method_29_code
def yX5_swap : MethodName := ⟨RX5, "swap", "(II)I"⟩
abbrev cX5_end : ByteArray := prog_7_method_30_code
def yX5_end : MethodName := ⟨RX5, "end", "(IIZI)I"⟩
abbrev cX5_join : ByteArray := prog_7_method_31_code
def yX5_join : MethodName := ⟨RX5, "join", "(IIII)I"⟩
abbrev cX5_multiply : ByteArray := prog_7_method_32_code
def yX5_multiply : MethodName := ⟨RX5, "multiply", "(JJI)I"⟩
abbrev cX5_times : ByteArray := prog_7_method_33_code
def yX5_times : MethodName := ⟨RX5, "times", "(III)I"⟩
abbrev cX5_square : ByteArray := prog_7_method_34_code
def yX5_square : MethodName := ⟨RX5, "square", "(II)I"⟩
abbrev cX5_shift : ByteArray := prog_7_method_35_code
def yX5_shift : MethodName := ⟨RX5, "shift", "(III)I"⟩
abbrev cX5_quotient : ByteArray := prog_7_method_36_code
def yX5_quotient : MethodName := ⟨RX5, "quotient", "(III)I"⟩
abbrev cX5_rest : ByteArray := prog_7_method_37_code
def yX5_rest : MethodName := ⟨RX5, "rest", "(III)I"⟩
abbrev cX5_gcd : ByteArray := prog_7_method_38_code
def yX5_gcd : MethodName := ⟨RX5, "gcd", "(III)I"⟩
abbrev cX5_lcm : ByteArray := prog_7_method_39_code
def yX5_lcm : MethodName := ⟨RX5, "lcm", "(III)I"⟩
abbrev cX5_bezout : ByteArray := prog_7_method_40_code
def yX5_bezout : MethodName := ⟨RX5, "bezout", "(IIZI)I"⟩
abbrev cX5_derive : ByteArray := prog_7_method_41_code
def yX5_derive : MethodName := ⟨RX5, "derive", "(II)I"⟩
abbrev cX5_root : ByteArray := prog_7_method_42_code
def yX5_root : MethodName := ⟨RX5, "root", "(II)I"⟩
abbrev cX5_turn : ByteArray := prog_7_method_43_code
def yX5_turn : MethodName := ⟨RX5, "turn", "(II)I"⟩
abbrev cX5_move : ByteArray := prog_7_method_44_code
def yX5_move : MethodName := ⟨RX5, "move", "(II)I"⟩
abbrev cX5_power : ByteArray := prog_7_method_45_code
def yX5_power : MethodName := ⟨RX5, "power", "(IIII)I"⟩
abbrev cX5_nth : ByteArray := prog_7_method_46_code
def yX5_nth : MethodName := ⟨RX5, "nth", "(III)I"⟩
abbrev cX5_field : ByteArray := prog_7_method_47_code
def yX5_field : MethodName := ⟨RX5, "field", "(II)I"⟩
abbrev cX5_again : ByteArray := prog_7_method_48_code
def yX5_again : MethodName := ⟨RX5, "again", "(III)I"⟩
abbrev cX5_degree : ByteArray := prog_7_method_49_code
def yX5_degree : MethodName := ⟨RX5, "degree", "(I)I"⟩
abbrev cX5_low : ByteArray := prog_7_method_50_code
def yX5_low : MethodName := ⟨RX5, "low", "(I)I"⟩
abbrev cX5_weight : ByteArray := prog_7_method_51_code
def yX5_weight : MethodName := ⟨RX5, "weight", "(I)I"⟩
abbrev cX5_at : ByteArray := prog_7_method_52_code
def yX5_at : MethodName := ⟨RX5, "at", "(II)Z"⟩
abbrev cX5_digits : ByteArray := prog_7_method_53_code
def yX5_digits : MethodName := ⟨RX5, "digits", "(I)I"⟩
abbrev cX5_text : ByteArray := prog_7_method_54_code
def yX5_text : MethodName := ⟨RX5, "text", "(I)Ljava/lang/String;"⟩
abbrev cX5_code : ByteArray := prog_7_method_55_code
def yX5_code : MethodName := ⟨RX5, "code", "(II)Ljava/lang/String;"⟩
abbrev cX5_side : ByteArray := prog_7_method_56_code
def yX5_side : MethodName := ⟨RX5, "side", "(II)I"⟩
abbrev cX5_order : ByteArray := prog_7_method_57_code
def yX5_order : MethodName := ⟨RX5, "order", "(II)I"⟩
abbrev cX5_isSame : ByteArray := prog_7_method_58_code
def yX5_isSame : MethodName := ⟨RX5, "isSame", "(II)Z"⟩
abbrev cX5_value : ByteArray := prog_7_method_59_code
def yX5_value : MethodName := ⟨RX5, "value", "(IZ)I"⟩
abbrev cX5_divides : ByteArray := prog_7_method_60_code
def yX5_divides : MethodName := ⟨RX5, "divides", "(II)Z"⟩
abbrev cX5_isFree : ByteArray := prog_7_method_61_code
def yX5_isFree : MethodName := ⟨RX5, "isFree", "(I)Z"⟩
abbrev cX5_irreducible : ByteArray := prog_7_method_62_code
def yX5_irreducible : MethodName := ⟨RX5, "irreducible", "(I)I"⟩
abbrev cX5_rank : ByteArray := prog_7_method_63_code
def yX5_rank : MethodName := ⟨RX5, "rank", "(I)I"⟩
abbrev cX5_factors : ByteArray := prog_7_method_64_code
def yX5_factors : MethodName := ⟨RX5, "factors", "(I)Ljava/lang/String;"⟩
abbrev cX5_period : ByteArray := prog_7_method_65_code
def yX5_period : MethodName := ⟨RX5, "period", "(I)I"⟩
abbrev cX5_many : ByteArray := prog_7_method_66_code
def yX5_many : MethodName := ⟨RX5, "many", "(I)I"⟩
abbrev cX5_formula : ByteArray := prog_7_method_67_code
def yX5_formula : MethodName := ⟨RX5, "formula", "(I)I"⟩
abbrev cX5_found : ByteArray := prog_7_method_68_code
def yX5_found : MethodName := ⟨RX5, "found", "(IZ)I"⟩
abbrev cX5_find : ByteArray := prog_7_method_69_code
def yX5_find : MethodName := ⟨RX5, "find", "(IZ)I"⟩
abbrev cX5_houseTold : ByteArray := prog_7_method_70_code
def yX5_houseTold : MethodName := ⟨RX5, "houseTold", "(I)I"⟩
abbrev cX5_house : ByteArray := prog_7_method_71_code
def yX5_house : MethodName := ⟨RX5, "house", "(I)I"⟩
abbrev cX5_knock : ByteArray := prog_7_method_72_code
def yX5_knock : MethodName := ⟨RX5, "knock", "()I"⟩
abbrev cX5_isWhole : ByteArray := prog_7_method_73_code
def yX5_isWhole : MethodName := ⟨RX5, "isWhole", "()Z"⟩
abbrev cX5_isSound : ByteArray := prog_7_method_74_code
def yX5_isSound : MethodName := ⟨RX5, "isSound", "()Z"⟩
abbrev cX5_add : ByteArray := prog_7_method_75_code
def yX5_add : MethodName := ⟨RX5, "add", "(JJ)J"⟩
abbrev cX5_digest : ByteArray := prog_7_method_76_code
def yX5_digest : MethodName := ⟨RX5, "digest", "()J"⟩
def RJ5 : String := "java/lang/AbstractStringBuilder"
def TJ5 : u_T := fun k => match k with
  | _ => ("", "", "", false)
def tyJ5 : Nat → FieldType := fun k => match k with
  | _ => .int
abbrev wsJ50 : List Cond := u_ws RJ5 TJ5 0
theorem nmJ5 : ∀ a, a < 0 → ∀ b, b < 0 → a ≠ b → (TJ5 a).2.1 ≠ (TJ5 b).2.1 := by decide +kernel
theorem tyJ5_ok : ∀ k, k < 0 → parseFieldDescriptor (TJ5 k).2.2.1 = some (tyJ5 k) := by decide +kernel
abbrev cJ5_init_d00df : ByteArray := prog_8_method_2_code
def yJ5_init_d00df : MethodName := ⟨RJ5, "<init>", "(I)V"⟩
abbrev cJ5_length_8abf5 : ByteArray := prog_8_method_6_code
def yJ5_length_8abf5 : MethodName := ⟨RJ5, "length", "()I"⟩
abbrev cJ5_ensureCapacityInternal_d00df : ByteArray := prog_8_method_9_code
def yJ5_ensureCapacityInternal_d00df : MethodName := ⟨RJ5, "ensureCapacityInternal", "(I)V"⟩
abbrev cJ5_newCapacity_0f7a4 : ByteArray := prog_8_method_10_code
def yJ5_newCapacity_0f7a4 : MethodName := ⟨RJ5, "newCapacity", "(I)I"⟩
abbrev cJ5_inflate_da8c8 : ByteArray := prog_8_method_11_code
def yJ5_inflate_da8c8 : MethodName := ⟨RJ5, "inflate", "()V"⟩
abbrev cJ5_append_cf1ce : ByteArray := prog_8_method_22_code
def yJ5_append_cf1ce : MethodName := ⟨RJ5, "append", "(Ljava/lang/String;)Ljava/lang/AbstractStringBuilder;"⟩
abbrev cJ5_appendNull_278bc : ByteArray := prog_8_method_26_code
def yJ5_appendNull_278bc : MethodName := ⟨RJ5, "appendNull", "()Ljava/lang/AbstractStringBuilder;"⟩
abbrev cJ5_append_3fe6f : ByteArray := prog_8_method_31_code
def yJ5_append_3fe6f : MethodName := ⟨RJ5, "append", "(C)Ljava/lang/AbstractStringBuilder;"⟩
abbrev cJ5_append_c97b9 : ByteArray := prog_8_method_32_code
def yJ5_append_c97b9 : MethodName := ⟨RJ5, "append", "(I)Ljava/lang/AbstractStringBuilder;"⟩
abbrev cJ5_reverse_278bc : ByteArray := prog_8_method_60_code
def yJ5_reverse_278bc : MethodName := ⟨RJ5, "reverse", "()Ljava/lang/AbstractStringBuilder;"⟩
abbrev cJ5_getValue_6d5f1 : ByteArray := prog_8_method_64_code
def yJ5_getValue_6d5f1 : MethodName := ⟨RJ5, "getValue", "()[B"⟩
abbrev cJ5_isLatin1_aae02 : ByteArray := prog_8_method_68_code
def yJ5_isLatin1_aae02 : MethodName := ⟨RJ5, "isLatin1", "()Z"⟩
abbrev cJ5_inflateIfNeededFor_a7421 : ByteArray := prog_8_method_71_code
def yJ5_inflateIfNeededFor_a7421 : MethodName := ⟨RJ5, "inflateIfNeededFor", "(Ljava/lang/String;)V"⟩
abbrev cJ5_putStringAt_47b60 : ByteArray := prog_8_method_73_code
def yJ5_putStringAt_47b60 : MethodName := ⟨RJ5, "putStringAt", "(ILjava/lang/String;)V"⟩
def RJ11 : String := "java/lang/Character"
def TJ11 : u_T := fun k => match k with
  | _ => ("", "", "", false)
def tyJ11 : Nat → FieldType := fun k => match k with
  | _ => .int
abbrev wsJ110 : List Cond := u_ws RJ11 TJ11 0
theorem nmJ11 : ∀ a, a < 0 → ∀ b, b < 0 → a ≠ b → (TJ11 a).2.1 ≠ (TJ11 b).2.1 := by decide +kernel
theorem tyJ11_ok : ∀ k, k < 0 → parseFieldDescriptor (TJ11 k).2.2.1 = some (tyJ11 k) := by decide +kernel
abbrev cJ11_isHighSurrogate_fc78d : ByteArray := prog_9_method_14_code
def yJ11_isHighSurrogate_fc78d : MethodName := ⟨RJ11, "isHighSurrogate", "(C)Z"⟩
abbrev cJ11_isLowSurrogate_fc78d : ByteArray := prog_9_method_15_code
def yJ11_isLowSurrogate_fc78d : MethodName := ⟨RJ11, "isLowSurrogate", "(C)Z"⟩
abbrev cJ11_isSurrogate_fc78d : ByteArray := prog_9_method_16_code
def yJ11_isSurrogate_fc78d : MethodName := ⟨RJ11, "isSurrogate", "(C)Z"⟩
def RJx8e188 : String := "java/lang/Cloneable"
def TJx8e188 : u_T := fun k => match k with
  | _ => ("", "", "", false)
def tyJx8e188 : Nat → FieldType := fun k => match k with
  | _ => .int
abbrev wsJx8e1880 : List Cond := u_ws RJx8e188 TJx8e188 0
theorem nmJx8e188 : ∀ a, a < 0 → ∀ b, b < 0 → a ≠ b → (TJx8e188 a).2.1 ≠ (TJx8e188 b).2.1 := by decide +kernel
theorem tyJx8e188_ok : ∀ k, k < 0 → parseFieldDescriptor (TJx8e188 k).2.2.1 = some (tyJx8e188 k) := by decide +kernel
def RJ6 : String := "java/lang/Integer"
def TJ6 : u_T := fun k => match k with
  | _ => ("", "", "", false)
def tyJ6 : Nat → FieldType := fun k => match k with
  | _ => .int
abbrev wsJ60 : List Cond := u_ws RJ6 TJ6 0
theorem nmJ6 : ∀ a, a < 0 → ∀ b, b < 0 → a ≠ b → (TJ6 a).2.1 ≠ (TJ6 b).2.1 := by decide +kernel
theorem tyJ6_ok : ∀ k, k < 0 → parseFieldDescriptor (TJ6 k).2.2.1 = some (tyJ6 k) := by decide +kernel
abbrev cJ6_getChars_ba4f3 : ByteArray := prog_14_method_12_code
def yJ6_getChars_ba4f3 : MethodName := ⟨RJ6, "getChars", "(II[B)I"⟩
abbrev cJ6_stringSize_0f7a4 : ByteArray := prog_14_method_13_code
def yJ6_stringSize_0f7a4 : MethodName := ⟨RJ6, "stringSize", "(I)I"⟩
def RJ13 : String := "java/lang/Long"
def TJ13 : u_T := fun k => match k with
  | _ => ("", "", "", false)
def tyJ13 : Nat → FieldType := fun k => match k with
  | _ => .int
abbrev wsJ130 : List Cond := u_ws RJ13 TJ13 0
theorem nmJ13 : ∀ a, a < 0 → ∀ b, b < 0 → a ≠ b → (TJ13 a).2.1 ≠ (TJ13 b).2.1 := by decide +kernel
theorem tyJ13_ok : ∀ k, k < 0 → parseFieldDescriptor (TJ13 k).2.2.1 = some (tyJ13 k) := by decide +kernel
abbrev cJ13_bitCount_95d88 : ByteArray := prog_15_method_50_code
def yJ13_bitCount_95d88 : MethodName := ⟨RJ13, "bitCount", "(J)I"⟩
def RJ9 : String := "java/lang/Math"
def TJ9 : u_T := fun k => match k with
  | _ => ("", "", "", false)
def tyJ9 : Nat → FieldType := fun k => match k with
  | _ => .int
abbrev wsJ90 : List Cond := u_ws RJ9 TJ9 0
theorem nmJ9 : ∀ a, a < 0 → ∀ b, b < 0 → a ≠ b → (TJ9 a).2.1 ≠ (TJ9 b).2.1 := by decide +kernel
theorem tyJ9_ok : ∀ k, k < 0 → parseFieldDescriptor (TJ9 k).2.2.1 = some (tyJ9 k) := by decide +kernel
abbrev cJ9_max_7cf53 : ByteArray := prog_16_method_65_code
def yJ9_max_7cf53 : MethodName := ⟨RJ9, "max", "(II)I"⟩
abbrev cJ9_max_f86c9 : ByteArray := prog_16_method_66_code
def yJ9_max_f86c9 : MethodName := ⟨RJ9, "max", "(JJ)J"⟩
abbrev cJ9_min_7cf53 : ByteArray := prog_16_method_69_code
def yJ9_min_7cf53 : MethodName := ⟨RJ9, "min", "(II)I"⟩
abbrev cJ9_min_f86c9 : ByteArray := prog_16_method_70_code
def yJ9_min_f86c9 : MethodName := ⟨RJ9, "min", "(JJ)J"⟩
def RJ0 : String := "java/lang/String"
def TJ0 : u_T := fun k => match k with
  | 0 => ("java/lang/String", "value", "[B", true)
  | 1 => ("java/lang/String", "coder", "B", true)
  | 2 => ("java/lang/String", "hash", "I", false)
  | _ => ("java/lang/String", "hashIsZero", "Z", false)
def tyJ0 : Nat → FieldType := fun k => match k with
  | 0 => .array .byte
  | 1 => .byte
  | 2 => .int
  | _ => .boolean
abbrev wsJ00 : List Cond := u_ws RJ0 TJ0 4
theorem nmJ0 : ∀ a, a < 4 → ∀ b, b < 4 → a ≠ b → (TJ0 a).2.1 ≠ (TJ0 b).2.1 := by decide +kernel
theorem tyJ0_ok : ∀ k, k < 4 → parseFieldDescriptor (TJ0 k).2.2.1 = some (tyJ0 k) := by decide +kernel
abbrev cJ0_init_81219 : ByteArray := prog_18_method_53_code
def yJ0_init_81219 : MethodName := ⟨RJ0, "<init>", "(Ljava/lang/StringBuilder;)V"⟩
abbrev cJ0_length_8abf5 : ByteArray := prog_18_method_54_code
def yJ0_length_8abf5 : MethodName := ⟨RJ0, "length", "()I"⟩
abbrev cJ0_charAt_5068e : ByteArray := prog_18_method_56_code
def yJ0_charAt_5068e : MethodName := ⟨RJ0, "charAt", "(I)C"⟩
abbrev cJ0_getBytes_840e7 : ByteArray := prog_18_method_147_code
def yJ0_getBytes_840e7 : MethodName := ⟨RJ0, "getBytes", "([BIB)V"⟩
abbrev cJ0_init_db425 : ByteArray := prog_18_method_150_code
def yJ0_init_db425 : MethodName := ⟨RJ0, "<init>", "(Ljava/lang/AbstractStringBuilder;Ljava/lang/Void;)V"⟩
abbrev cJ0_coder_7d493 : ByteArray := prog_18_method_152_code
def yJ0_coder_7d493 : MethodName := ⟨RJ0, "coder", "()B"⟩
abbrev cJ0_isLatin1_aae02 : ByteArray := prog_18_method_154_code
def yJ0_isLatin1_aae02 : MethodName := ⟨RJ0, "isLatin1", "()Z"⟩
abbrev cJ0_checkIndex_df160 : ByteArray := prog_18_method_155_code
def yJ0_checkIndex_df160 : MethodName := ⟨RJ0, "checkIndex", "(II)V"⟩
abbrev cJ0_checkOffset_df160 : ByteArray := prog_18_method_156_code
def yJ0_checkOffset_df160 : MethodName := ⟨RJ0, "checkOffset", "(II)V"⟩
abbrev cJ0_checkBoundsOffCount_cabcc : ByteArray := prog_18_method_157_code
def yJ0_checkBoundsOffCount_cabcc : MethodName := ⟨RJ0, "checkBoundsOffCount", "(III)I"⟩
abbrev cJ0_checkBoundsBeginEnd_23922 : ByteArray := prog_18_method_158_code
def yJ0_checkBoundsBeginEnd_23922 : MethodName := ⟨RJ0, "checkBoundsBeginEnd", "(III)V"⟩
def RJ4 : String := "java/lang/StringBuilder"
def TJ4 : u_T := fun k => match k with
  | 0 => ("java/lang/AbstractStringBuilder", "value", "[B", false)
  | 1 => ("java/lang/AbstractStringBuilder", "coder", "B", false)
  | 2 => ("java/lang/AbstractStringBuilder", "maybeLatin1", "Z", false)
  | _ => ("java/lang/AbstractStringBuilder", "count", "I", false)
def tyJ4 : Nat → FieldType := fun k => match k with
  | 0 => .array .byte
  | 1 => .byte
  | 2 => .boolean
  | _ => .int
abbrev wsJ40 : List Cond := u_ws RJ4 TJ4 4
theorem nmJ4 : ∀ a, a < 4 → ∀ b, b < 4 → a ≠ b → (TJ4 a).2.1 ≠ (TJ4 b).2.1 := by decide +kernel
theorem tyJ4_ok : ∀ k, k < 4 → parseFieldDescriptor (TJ4 k).2.2.1 = some (tyJ4 k) := by decide +kernel
abbrev cJ4_init_da8c8 : ByteArray := prog_19_method_1_code
def yJ4_init_da8c8 : MethodName := ⟨RJ4, "<init>", "()V"⟩
abbrev cJ4_append_15ec4 : ByteArray := prog_19_method_7_code
def yJ4_append_15ec4 : MethodName := ⟨RJ4, "append", "(Ljava/lang/String;)Ljava/lang/StringBuilder;"⟩
abbrev cJ4_append_cf468 : ByteArray := prog_19_method_14_code
def yJ4_append_cf468 : MethodName := ⟨RJ4, "append", "(C)Ljava/lang/StringBuilder;"⟩
abbrev cJ4_append_bf812 : ByteArray := prog_19_method_15_code
def yJ4_append_bf812 : MethodName := ⟨RJ4, "append", "(I)Ljava/lang/StringBuilder;"⟩
abbrev cJ4_reverse_43fcb : ByteArray := prog_19_method_39_code
def yJ4_reverse_43fcb : MethodName := ⟨RJ4, "reverse", "()Ljava/lang/StringBuilder;"⟩
abbrev cJ4_toString_0e30d : ByteArray := prog_19_method_42_code
def yJ4_toString_0e30d : MethodName := ⟨RJ4, "toString", "()Ljava/lang/String;"⟩
abbrev cJ4_length_8abf5 : ByteArray := prog_19_method_93_code
def yJ4_length_8abf5 : MethodName := ⟨RJ4, "length", "()I"⟩
def RJ1 : String := "java/lang/StringLatin1"
def TJ1 : u_T := fun k => match k with
  | _ => ("", "", "", false)
def tyJ1 : Nat → FieldType := fun k => match k with
  | _ => .int
abbrev wsJ10 : List Cond := u_ws RJ1 TJ1 0
theorem nmJ1 : ∀ a, a < 0 → ∀ b, b < 0 → a ≠ b → (TJ1 a).2.1 ≠ (TJ1 b).2.1 := by decide +kernel
theorem tyJ1_ok : ∀ k, k < 0 → parseFieldDescriptor (TJ1 k).2.2.1 = some (tyJ1 k) := by decide +kernel
abbrev cJ1_charAt_3b067 : ByteArray := prog_20_method_2_code
def yJ1_charAt_3b067 : MethodName := ⟨RJ1, "charAt", "([BI)C"⟩
abbrev cJ1_canEncode_fc78d : ByteArray := prog_20_method_3_code
def yJ1_canEncode_fc78d : MethodName := ⟨RJ1, "canEncode", "(C)Z"⟩
abbrev cJ1_inflate_0e8fd : ByteArray := prog_20_method_50_code
def yJ1_inflate_0e8fd : MethodName := ⟨RJ1, "inflate", "([BI[BII)V"⟩
def RJ2 : String := "java/lang/StringUTF16"
def TJ2 : u_T := fun k => match k with
  | _ => ("", "", "", false)
def tyJ2 : Nat → FieldType := fun k => match k with
  | _ => .int
abbrev wsJ20 : List Cond := u_ws RJ2 TJ2 0
theorem nmJ2 : ∀ a, a < 0 → ∀ b, b < 0 → a ≠ b → (TJ2 a).2.1 ≠ (TJ2 b).2.1 := by decide +kernel
theorem tyJ2_ok : ∀ k, k < 0 → parseFieldDescriptor (TJ2 k).2.2.1 = some (tyJ2 k) := by decide +kernel
abbrev cJ2_newBytesFor_77867 : ByteArray := prog_21_method_2_code
def yJ2_newBytesFor_77867 : MethodName := ⟨RJ2, "newBytesFor", "(I)[B"⟩
abbrev cJ2_newBytesLength_0f7a4 : ByteArray := prog_21_method_3_code
def yJ2_newBytesLength_0f7a4 : MethodName := ⟨RJ2, "newBytesLength", "(I)I"⟩
abbrev cJ2_putChar_b72d1 : ByteArray := prog_21_method_4_code
def yJ2_putChar_b72d1 : MethodName := ⟨RJ2, "putChar", "([BII)V"⟩
abbrev cJ2_getChar_3b067 : ByteArray := prog_21_method_5_code
def yJ2_getChar_3b067 : MethodName := ⟨RJ2, "getChar", "([BI)C"⟩
abbrev cJ2_length_9d52b : ByteArray := prog_21_method_6_code
def yJ2_length_9d52b : MethodName := ⟨RJ2, "length", "([B)I"⟩
abbrev cJ2_coderFromArrayLen_85cad : ByteArray := prog_21_method_15_code
def yJ2_coderFromArrayLen_85cad : MethodName := ⟨RJ2, "coderFromArrayLen", "([BI)B"⟩
abbrev cJ2_compress_39247 : ByteArray := prog_21_method_17_code
def yJ2_compress_39247 : MethodName := ⟨RJ2, "compress", "([BII)[B"⟩
abbrev cJ2_compress_5af95 : ByteArray := prog_21_method_22_code
def yJ2_compress_5af95 : MethodName := ⟨RJ2, "compress", "([BI[BII)I"⟩
abbrev cJ2_putCharSB_b72d1 : ByteArray := prog_21_method_71_code
def yJ2_putCharSB_b72d1 : MethodName := ⟨RJ2, "putCharSB", "([BII)V"⟩
abbrev cJ2_getChars_46870 : ByteArray := prog_21_method_77_code
def yJ2_getChars_46870 : MethodName := ⟨RJ2, "getChars", "(III[B)I"⟩
abbrev cJ2_putCharsAt_cd4e5 : ByteArray := prog_21_method_81_code
def yJ2_putCharsAt_cd4e5 : MethodName := ⟨RJ2, "putCharsAt", "([BICCCC)I"⟩
abbrev cJ2_charAt_3b067 : ByteArray := prog_21_method_83_code
def yJ2_charAt_3b067 : MethodName := ⟨RJ2, "charAt", "([BI)C"⟩
abbrev cJ2_reverse_db04f : ByteArray := prog_21_method_84_code
def yJ2_reverse_db04f : MethodName := ⟨RJ2, "reverse", "([BI)V"⟩
abbrev cJ2_reverseAllValidSurrogatePairs_db04f : ByteArray := prog_21_method_85_code
def yJ2_reverseAllValidSurrogatePairs_db04f : MethodName := ⟨RJ2, "reverseAllValidSurrogatePairs", "([BI)V"⟩
abbrev cJ2_inflate_0e8fd : ByteArray := prog_21_method_86_code
def yJ2_inflate_0e8fd : MethodName := ⟨RJ2, "inflate", "([BI[BII)V"⟩
abbrev cJ2_getChars_ba4f3 : ByteArray := prog_21_method_89_code
def yJ2_getChars_ba4f3 : MethodName := ⟨RJ2, "getChars", "(II[B)I"⟩
abbrev cJ2_checkIndex_2214a : ByteArray := prog_21_method_91_code
def yJ2_checkIndex_2214a : MethodName := ⟨RJ2, "checkIndex", "(I[B)V"⟩
abbrev cJ2_checkOffset_2214a : ByteArray := prog_21_method_92_code
def yJ2_checkOffset_2214a : MethodName := ⟨RJ2, "checkOffset", "(I[B)V"⟩
abbrev cJ2_checkBoundsBeginEnd_d044e : ByteArray := prog_21_method_93_code
def yJ2_checkBoundsBeginEnd_d044e : MethodName := ⟨RJ2, "checkBoundsBeginEnd", "(II[B)V"⟩
abbrev cJ2_checkBoundsOffCount_d044e : ByteArray := prog_21_method_94_code
def yJ2_checkBoundsOffCount_d044e : MethodName := ⟨RJ2, "checkBoundsOffCount", "(II[B)V"⟩
def RJ10 : String := "java/lang/System"
def TJ10 : u_T := fun k => match k with
  | _ => ("", "", "", false)
def tyJ10 : Nat → FieldType := fun k => match k with
  | _ => .int
abbrev wsJ100 : List Cond := u_ws RJ10 TJ10 0
theorem nmJ10 : ∀ a, a < 0 → ∀ b, b < 0 → a ≠ b → (TJ10 a).2.1 ≠ (TJ10 b).2.1 := by decide +kernel
theorem tyJ10_ok : ∀ k, k < 0 → parseFieldDescriptor (TJ10 k).2.2.1 = some (tyJ10 k) := by decide +kernel
def RJ7 : String := "java/util/Arrays"
def TJ7 : u_T := fun k => match k with
  | _ => ("", "", "", false)
def tyJ7 : Nat → FieldType := fun k => match k with
  | _ => .int
abbrev wsJ70 : List Cond := u_ws RJ7 TJ7 0
theorem nmJ7 : ∀ a, a < 0 → ∀ b, b < 0 → a ≠ b → (TJ7 a).2.1 ≠ (TJ7 b).2.1 := by decide +kernel
theorem tyJ7_ok : ∀ k, k < 0 → parseFieldDescriptor (TJ7 k).2.2.1 = some (tyJ7 k) := by decide +kernel
abbrev cJ7_copyOf_9075b : ByteArray := prog_24_method_121_code
def yJ7_copyOf_9075b : MethodName := ⟨RJ7, "copyOf", "([BI)[B"⟩
abbrev cJ7_checkLength_df160 : ByteArray := prog_24_method_131_code
def yJ7_checkLength_df160 : MethodName := ⟨RJ7, "checkLength", "(II)V"⟩
abbrev cJ7_copyOfRange_39247 : ByteArray := prog_24_method_132_code
def yJ7_copyOfRange_39247 : MethodName := ⟨RJ7, "copyOfRange", "([BII)[B"⟩
abbrev cJ7_copyOfRangeByte_39247 : ByteArray := prog_24_method_133_code
def yJ7_copyOfRangeByte_39247 : MethodName := ⟨RJ7, "copyOfRangeByte", "([BII)[B"⟩
def RJ8 : String := "jdk/internal/util/ArraysSupport"
def TJ8 : u_T := fun k => match k with
  | _ => ("", "", "", false)
def tyJ8 : Nat → FieldType := fun k => match k with
  | _ => .int
abbrev wsJ80 : List Cond := u_ws RJ8 TJ8 0
theorem nmJ8 : ∀ a, a < 0 → ∀ b, b < 0 → a ≠ b → (TJ8 a).2.1 ≠ (TJ8 b).2.1 := by decide +kernel
theorem tyJ8_ok : ∀ k, k < 0 → parseFieldDescriptor (TJ8 k).2.2.1 = some (tyJ8 k) := by decide +kernel
abbrev cJ8_newLength_cabcc : ByteArray := prog_25_method_27_code
def yJ8_newLength_cabcc : MethodName := ⟨RJ8, "newLength", "(III)I"⟩
abbrev cJ8_hugeLength_7cf53 : ByteArray := prog_25_method_28_code
def yJ8_hugeLength_7cf53 : MethodName := ⟨RJ8, "hugeLength", "(II)I"⟩
def RJ3 : String := "jdk/internal/util/Preconditions"
def TJ3 : u_T := fun k => match k with
  | _ => ("", "", "", false)
def tyJ3 : Nat → FieldType := fun k => match k with
  | _ => .int
abbrev wsJ30 : List Cond := u_ws RJ3 TJ3 0
theorem nmJ3 : ∀ a, a < 0 → ∀ b, b < 0 → a ≠ b → (TJ3 a).2.1 ≠ (TJ3 b).2.1 := by decide +kernel
theorem tyJ3_ok : ∀ k, k < 0 → parseFieldDescriptor (TJ3 k).2.2.1 = some (tyJ3 k) := by decide +kernel
abbrev cJ3_checkIndex_8e157 : ByteArray := prog_26_method_11_code
def yJ3_checkIndex_8e157 : MethodName := ⟨RJ3, "checkIndex", "(IILjava/util/function/BiFunction;)I"⟩
abbrev cJ3_checkFromToIndex_8c36e : ByteArray := prog_26_method_12_code
def yJ3_checkFromToIndex_8c36e : MethodName := ⟨RJ3, "checkFromToIndex", "(IIILjava/util/function/BiFunction;)I"⟩
abbrev cJ3_checkFromIndexSize_8c36e : ByteArray := prog_26_method_13_code
def yJ3_checkFromIndexSize_8c36e : MethodName := ⟨RJ3, "checkFromIndexSize", "(IIILjava/util/function/BiFunction;)I"⟩
def RL : String := "CarryfreeLaw"
abbrev cL_put : ByteArray := method_2_code
def yL_put : MethodName := ⟨RL, "put", "(LCarryfree;IILCarryfreeLaw$Out;)I"⟩
abbrev cL_mono : ByteArray := method_3_code
def yL_mono : MethodName := ⟨RL, "mono", "(LCarryfree;IILCarryfreeLaw$Out;)I"⟩
abbrev cL_digit : ByteArray := method_4_code
def yL_digit : MethodName := ⟨RL, "digit", "(LCarryfree;IIZLCarryfreeLaw$Out;)I"⟩
abbrev cL_flip : ByteArray := method_5_code
def yL_flip : MethodName := ⟨RL, "flip", "(LCarryfree;IILCarryfreeLaw$Out;)I"⟩
abbrev cL_copy : ByteArray := method_6_code
def yL_copy : MethodName := ⟨RL, "copy", "(LCarryfree;IILCarryfreeLaw$Out;)I"⟩
abbrev cL_swap : ByteArray := method_7_code
def yL_swap : MethodName := ⟨RL, "swap", "(LCarryfree;IILCarryfreeLaw$Out;)I"⟩
abbrev cL_end : ByteArray := method_8_code
def yL_end : MethodName := ⟨RL, "end", "(LCarryfree;IIZILCarryfreeLaw$Out;)I"⟩
abbrev cL_join : ByteArray := method_9_code
def yL_join : MethodName := ⟨RL, "join", "(LCarryfree;IIIILCarryfreeLaw$Out;)I"⟩
abbrev cL_times : ByteArray := method_10_code
def yL_times : MethodName := ⟨RL, "times", "(LCarryfree;IIILCarryfreeLaw$Out;)I"⟩
abbrev cL_square : ByteArray := method_11_code
def yL_square : MethodName := ⟨RL, "square", "(LCarryfree;IILCarryfreeLaw$Out;)I"⟩
abbrev cL_shift : ByteArray := method_12_code
def yL_shift : MethodName := ⟨RL, "shift", "(LCarryfree;IIILCarryfreeLaw$Out;)I"⟩
abbrev cL_quotient : ByteArray := method_13_code
def yL_quotient : MethodName := ⟨RL, "quotient", "(LCarryfree;IIILCarryfreeLaw$Out;)I"⟩
abbrev cL_rest : ByteArray := method_14_code
def yL_rest : MethodName := ⟨RL, "rest", "(LCarryfree;IIILCarryfreeLaw$Out;)I"⟩
abbrev cL_gcd : ByteArray := method_15_code
def yL_gcd : MethodName := ⟨RL, "gcd", "(LCarryfree;IIILCarryfreeLaw$Out;)I"⟩
abbrev cL_lcm : ByteArray := method_16_code
def yL_lcm : MethodName := ⟨RL, "lcm", "(LCarryfree;IIILCarryfreeLaw$Out;)I"⟩
abbrev cL_bezout : ByteArray := method_17_code
def yL_bezout : MethodName := ⟨RL, "bezout", "(LCarryfree;IIZILCarryfreeLaw$Out;)I"⟩
abbrev cL_derive : ByteArray := method_18_code
def yL_derive : MethodName := ⟨RL, "derive", "(LCarryfree;IILCarryfreeLaw$Out;)I"⟩
abbrev cL_root : ByteArray := method_19_code
def yL_root : MethodName := ⟨RL, "root", "(LCarryfree;IILCarryfreeLaw$Out;)I"⟩
abbrev cL_turn : ByteArray := method_20_code
def yL_turn : MethodName := ⟨RL, "turn", "(LCarryfree;IILCarryfreeLaw$Out;)I"⟩
abbrev cL_move : ByteArray := method_21_code
def yL_move : MethodName := ⟨RL, "move", "(LCarryfree;IILCarryfreeLaw$Out;)I"⟩
abbrev cL_power : ByteArray := method_22_code
def yL_power : MethodName := ⟨RL, "power", "(LCarryfree;IIIILCarryfreeLaw$Out;)I"⟩
abbrev cL_nth : ByteArray := method_23_code
def yL_nth : MethodName := ⟨RL, "nth", "(LCarryfree;IIILCarryfreeLaw$Out;)I"⟩
abbrev cL_field : ByteArray := method_24_code
def yL_field : MethodName := ⟨RL, "field", "(LCarryfree;IILCarryfreeLaw$Out;)I"⟩
abbrev cL_again : ByteArray := method_25_code
def yL_again : MethodName := ⟨RL, "again", "(LCarryfree;IIILCarryfreeLaw$Out;)I"⟩
abbrev cL_degree : ByteArray := method_26_code
def yL_degree : MethodName := ⟨RL, "degree", "(LCarryfree;ILCarryfreeLaw$Out;)I"⟩
abbrev cL_low : ByteArray := method_27_code
def yL_low : MethodName := ⟨RL, "low", "(LCarryfree;ILCarryfreeLaw$Out;)I"⟩
abbrev cL_weight : ByteArray := method_28_code
def yL_weight : MethodName := ⟨RL, "weight", "(LCarryfree;ILCarryfreeLaw$Out;)I"⟩
abbrev cL_at : ByteArray := method_29_code
def yL_at : MethodName := ⟨RL, "at", "(LCarryfree;IILCarryfreeLaw$Out;)I"⟩
abbrev cL_digits : ByteArray := method_30_code
def yL_digits : MethodName := ⟨RL, "digits", "(LCarryfree;ILCarryfreeLaw$Out;)I"⟩
abbrev cL_text : ByteArray := method_31_code
def yL_text : MethodName := ⟨RL, "text", "(LCarryfree;ILCarryfreeLaw$Out;)I"⟩
abbrev cL_code : ByteArray := method_32_code
def yL_code : MethodName := ⟨RL, "code", "(LCarryfree;IILCarryfreeLaw$Out;)I"⟩
abbrev cL_order : ByteArray := method_33_code
def yL_order : MethodName := ⟨RL, "order", "(LCarryfree;IILCarryfreeLaw$Out;)I"⟩
abbrev cL_isSame : ByteArray := method_34_code
def yL_isSame : MethodName := ⟨RL, "isSame", "(LCarryfree;IILCarryfreeLaw$Out;)I"⟩
abbrev cL_value : ByteArray := method_35_code
def yL_value : MethodName := ⟨RL, "value", "(LCarryfree;IZLCarryfreeLaw$Out;)I"⟩
abbrev cL_divides : ByteArray := method_36_code
def yL_divides : MethodName := ⟨RL, "divides", "(LCarryfree;IILCarryfreeLaw$Out;)I"⟩
abbrev cL_isFree : ByteArray := method_37_code
def yL_isFree : MethodName := ⟨RL, "isFree", "(LCarryfree;ILCarryfreeLaw$Out;)I"⟩
abbrev cL_irreducible : ByteArray := method_38_code
def yL_irreducible : MethodName := ⟨RL, "irreducible", "(LCarryfree;ILCarryfreeLaw$Out;)I"⟩
abbrev cL_rank : ByteArray := method_39_code
def yL_rank : MethodName := ⟨RL, "rank", "(LCarryfree;ILCarryfreeLaw$Out;)I"⟩
abbrev cL_factors : ByteArray := method_40_code
def yL_factors : MethodName := ⟨RL, "factors", "(LCarryfree;ILCarryfreeLaw$Out;)I"⟩
abbrev cL_period : ByteArray := method_41_code
def yL_period : MethodName := ⟨RL, "period", "(LCarryfree;ILCarryfreeLaw$Out;)I"⟩
abbrev cL_many : ByteArray := method_42_code
def yL_many : MethodName := ⟨RL, "many", "(LCarryfree;ILCarryfreeLaw$Out;)I"⟩
abbrev cL_formula : ByteArray := method_43_code
def yL_formula : MethodName := ⟨RL, "formula", "(LCarryfree;ILCarryfreeLaw$Out;)I"⟩
abbrev cL_find : ByteArray := method_44_code
def yL_find : MethodName := ⟨RL, "find", "(LCarryfree;IZLCarryfreeLaw$Out;)I"⟩
abbrev cL_house : ByteArray := method_45_code
def yL_house : MethodName := ⟨RL, "house", "(LCarryfree;ILCarryfreeLaw$Out;)I"⟩
abbrev cL_law : ByteArray := code
def yL_law : MethodName := ⟨RL, "law", "([I)Z"⟩
theorem inX0 : ∀ w ∈ wsX00, w ∈ T0 := fun w h => T0_of ((show ∀ w ∈ wsX00, w ∈ lw_tbl by decide +kernel) w h) (List.all_eq_true.mp (show wsX00.all goodWord = true by decide +kernel) w h)
theorem inX1 : ∀ w ∈ wsX10, w ∈ T0 := fun w h => T0_of ((show ∀ w ∈ wsX10, w ∈ lw_tbl by decide +kernel) w h) (List.all_eq_true.mp (show wsX10.all goodWord = true by decide +kernel) w h)
theorem inX2 : ∀ w ∈ wsX20, w ∈ T0 := fun w h => T0_of ((show ∀ w ∈ wsX20, w ∈ lw_tbl by decide +kernel) w h) (List.all_eq_true.mp (show wsX20.all goodWord = true by decide +kernel) w h)
theorem inX3 : ∀ w ∈ wsX30, w ∈ T0 := fun w h => T0_of ((show ∀ w ∈ wsX30, w ∈ lw_tbl by decide +kernel) w h) (List.all_eq_true.mp (show wsX30.all goodWord = true by decide +kernel) w h)
theorem inX4 : ∀ w ∈ wsX40, w ∈ T0 := fun w h => T0_of ((show ∀ w ∈ wsX40, w ∈ lw_tbl by decide +kernel) w h) (List.all_eq_true.mp (show wsX40.all goodWord = true by decide +kernel) w h)
theorem inX5 : ∀ w ∈ wsX50, w ∈ T0 := fun w h => T0_of ((show ∀ w ∈ wsX50, w ∈ lw_tbl by decide +kernel) w h) (List.all_eq_true.mp (show wsX50.all goodWord = true by decide +kernel) w h)
theorem inJ5 : ∀ w ∈ wsJ50, w ∈ T0 := fun w h => T0_of ((show ∀ w ∈ wsJ50, w ∈ lw_tbl by decide +kernel) w h) (List.all_eq_true.mp (show wsJ50.all goodWord = true by decide +kernel) w h)
theorem inJ11 : ∀ w ∈ wsJ110, w ∈ T0 := fun w h => T0_of ((show ∀ w ∈ wsJ110, w ∈ lw_tbl by decide +kernel) w h) (List.all_eq_true.mp (show wsJ110.all goodWord = true by decide +kernel) w h)
theorem inJx8e188 : ∀ w ∈ wsJx8e1880, w ∈ T0 := fun w h => T0_of ((show ∀ w ∈ wsJx8e1880, w ∈ lw_tbl by decide +kernel) w h) (List.all_eq_true.mp (show wsJx8e1880.all goodWord = true by decide +kernel) w h)
theorem inJ6 : ∀ w ∈ wsJ60, w ∈ T0 := fun w h => T0_of ((show ∀ w ∈ wsJ60, w ∈ lw_tbl by decide +kernel) w h) (List.all_eq_true.mp (show wsJ60.all goodWord = true by decide +kernel) w h)
theorem inJ13 : ∀ w ∈ wsJ130, w ∈ T0 := fun w h => T0_of ((show ∀ w ∈ wsJ130, w ∈ lw_tbl by decide +kernel) w h) (List.all_eq_true.mp (show wsJ130.all goodWord = true by decide +kernel) w h)
theorem inJ9 : ∀ w ∈ wsJ90, w ∈ T0 := fun w h => T0_of ((show ∀ w ∈ wsJ90, w ∈ lw_tbl by decide +kernel) w h) (List.all_eq_true.mp (show wsJ90.all goodWord = true by decide +kernel) w h)
theorem inJ0 : ∀ w ∈ wsJ00, w ∈ T0 := fun w h => T0_of ((show ∀ w ∈ wsJ00, w ∈ lw_tbl by decide +kernel) w h) (List.all_eq_true.mp (show wsJ00.all goodWord = true by decide +kernel) w h)
theorem inJ4 : ∀ w ∈ wsJ40, w ∈ T0 := fun w h => T0_of ((show ∀ w ∈ wsJ40, w ∈ lw_tbl by decide +kernel) w h) (List.all_eq_true.mp (show wsJ40.all goodWord = true by decide +kernel) w h)
theorem inJ1 : ∀ w ∈ wsJ10, w ∈ T0 := fun w h => T0_of ((show ∀ w ∈ wsJ10, w ∈ lw_tbl by decide +kernel) w h) (List.all_eq_true.mp (show wsJ10.all goodWord = true by decide +kernel) w h)
theorem inJ2 : ∀ w ∈ wsJ20, w ∈ T0 := fun w h => T0_of ((show ∀ w ∈ wsJ20, w ∈ lw_tbl by decide +kernel) w h) (List.all_eq_true.mp (show wsJ20.all goodWord = true by decide +kernel) w h)
theorem inJ10 : ∀ w ∈ wsJ100, w ∈ T0 := fun w h => T0_of ((show ∀ w ∈ wsJ100, w ∈ lw_tbl by decide +kernel) w h) (List.all_eq_true.mp (show wsJ100.all goodWord = true by decide +kernel) w h)
theorem inJ7 : ∀ w ∈ wsJ70, w ∈ T0 := fun w h => T0_of ((show ∀ w ∈ wsJ70, w ∈ lw_tbl by decide +kernel) w h) (List.all_eq_true.mp (show wsJ70.all goodWord = true by decide +kernel) w h)
theorem inJ8 : ∀ w ∈ wsJ80, w ∈ T0 := fun w h => T0_of ((show ∀ w ∈ wsJ80, w ∈ lw_tbl by decide +kernel) w h) (List.all_eq_true.mp (show wsJ80.all goodWord = true by decide +kernel) w h)
theorem inJ3 : ∀ w ∈ wsJ30, w ∈ T0 := fun w h => T0_of ((show ∀ w ∈ wsJ30, w ∈ lw_tbl by decide +kernel) w h) (List.all_eq_true.mp (show wsJ30.all goodWord = true by decide +kernel) w h)
abbrev vwCl : List vw_C := [(RJ0, TJ0, 4), (RJ4, TJ4, 4), (RX3, TX3, 4), (RX4, TX4, 2), (RX5, TX5, 5)]

def wl1_0 : List Cond := [Cond.initialized RL, Cond.initialized RX3, Cond.initialized RX5, Cond.initialized RX4, Cond.initialized "java/lang/Throwable", Cond.initialized "java/lang/Exception", Cond.initialized "java/lang/RuntimeException", Cond.initialized "java/lang/IndexOutOfBoundsException", Cond.initialized "java/lang/IllegalArgumentException", Cond.initialized RX1, Cond.initialized RJ9, Cond.initialized RX0, Cond.initialized RJ13, Cond.initialized RX2, Cond.initialized RJ5, Cond.initialized RJ4, Cond.initialized RJ0, Cond.initialized RJ2, Cond.initialized RJ8, Cond.initialized RJ7, Cond.initialized RJ10, Cond.initialized RJ1, Cond.initialized RJ3, Cond.initialized RJ6, Cond.initialized RJ11, Cond.classLink RL 8 "Carryfree", Cond.methodLink RL 166 yX3_init, Cond.fieldLink RX3 9 "Carryfree" "cells" "[J", Cond.fieldLink RX3 13 "Carryfree" "acts" "I", Cond.fieldLink RX3 17 "Carryfree" "refusals" "I", Cond.fieldLink RX3 20 "Carryfree" "knocks" "I", Cond.arrayClass .long, Cond.methodLink RL 312 yX3_knock, Cond.methodLink RL 317 yX3_isSound, Cond.methodLink RX3 69 yX1_topPlace, Cond.methodLink RX3 122 yX1_bottomPlace, Cond.methodLink RX1 11 yX1_hasOne, Cond.methodLink RX3 43 yX3_polyIn, Cond.methodLink RX3 23 yX3_checkCell, Cond.classLink RX3 203 "java/lang/IndexOutOfBoundsException", Cond.arrayClass .byte, Cond.methodLink RX3 86 yX1_firstBezout, Cond.methodLink RX1 35 yX1_euclid, Cond.methodLink RX1 25 yX1_quotientOf, Cond.methodLink RX1 17 yX1_topPlace, Cond.methodLink RX1 21 yX1_single, Cond.methodLink RX1 29 yX1_product, Cond.methodLink RX3 169 yX1_product, Cond.methodLink RX3 89 yX1_secondBezout, Cond.methodLink RX3 83 yX1_gcdOf]
theorem owe1_0 : wl1_0 = [0, 1, 2, 3, 4, 5, 6, 7, 8, 9, 10, 11, 12, 13, 14, 15, 16, 17, 18, 19, 20, 21, 22, 23, 24, 25, 27, 33, 34, 35, 36, 46, 47, 51, 55, 58, 61, 64, 68, 72, 138, 139, 142, 145, 148, 149, 152, 155, 156, 159].filterMap (fun i => tables_1_1[i]?) := by decide +kernel
theorem ow1_0 (w : Cond) (h : w ∈ wl1_0) : w ∈ tables_1_1 := by
  rw [owe1_0] at h
  obtain ⟨i, -, hi⟩ := List.mem_filterMap.mp h
  exact List.mem_of_getElem? hi
def wl1_1 : List Cond := [Cond.methodLink RL 322 yX3_digest, Cond.constantLong RX3 172 (7686), Cond.constantLong RX3 174 (31), Cond.methodLink RX3 176 yX3_digits, Cond.methodLink RX3 179 yX3_degree, Cond.methodLink RX3 182 yX3_low, Cond.methodLink RX3 185 yX3_weight, Cond.methodLink RX3 125 yJ13_bitCount_95d88, Cond.constantLong RJ13 314 (6148914691236517205), Cond.constantLong RJ13 316 (3689348814741910323), Cond.constantLong RJ13 318 (1085102592571150095), Cond.methodLink RX3 188 yX3_find, Cond.methodLink RX3 192 yX3_order, Cond.methodLink RX3 196 yX3_house, Cond.methodLink RX3 33 yX3_checkRange, Cond.classLink RX3 210 "java/lang/IllegalArgumentException", Cond.methodLink RX3 163 yX3_cellsWithZero, Cond.methodLink RX3 166 yX3_allWeights, Cond.methodLink RX3 199 yX3_isSound, Cond.classLink RL 14 "CarryfreeLaw$Out", Cond.instanceMethod yX3_init, Cond.selects yX3_knock.cls yX3_knock yX3_knock, Cond.instanceMethod yX3_knock, Cond.selects yX3_isSound.cls yX3_isSound yX3_isSound, Cond.instanceMethod yX3_isSound, Cond.static yX1_topPlace, Cond.static yX1_bottomPlace, Cond.static yX1_hasOne, Cond.instanceMethod yX3_polyIn, Cond.instanceMethod yX3_checkCell, Cond.static yX1_firstBezout, Cond.static yX1_euclid, Cond.static yX1_quotientOf, Cond.static yX1_single, Cond.static yX1_product, Cond.static yX1_secondBezout, Cond.static yX1_gcdOf, Cond.selects yX3_digest.cls yX3_digest yX3_digest, Cond.instanceMethod yX3_digest, Cond.selects yX3_digits.cls yX3_digits yX3_digits, Cond.instanceMethod yX3_digits, Cond.selects yX3_degree.cls yX3_degree yX3_degree, Cond.instanceMethod yX3_degree, Cond.selects yX3_low.cls yX3_low yX3_low, Cond.instanceMethod yX3_low, Cond.selects yX3_weight.cls yX3_weight yX3_weight, Cond.instanceMethod yX3_weight, Cond.static yJ13_bitCount_95d88, Cond.selects yX3_find.cls yX3_find yX3_find, Cond.instanceMethod yX3_find]
theorem owe1_1 : wl1_1 = [162, 166, 167, 168, 172, 176, 180, 184, 187, 188, 189, 190, 194, 198, 202, 205, 221, 225, 229, 230, 28, 49, 48, 53, 52, 56, 59, 62, 66, 70, 140, 143, 146, 150, 153, 157, 160, 164, 163, 170, 169, 174, 173, 178, 177, 182, 181, 185, 192, 191].filterMap (fun i => tables_1_1[i]?) := by decide +kernel
theorem ow1_1 (w : Cond) (h : w ∈ wl1_1) : w ∈ tables_1_1 := by
  rw [owe1_1] at h
  obtain ⟨i, -, hi⟩ := List.mem_filterMap.mp h
  exact List.mem_of_getElem? hi
def wl1_2 : List Cond := [Cond.selects yX3_order.cls yX3_order yX3_order, Cond.instanceMethod yX3_order, Cond.selects yX3_house.cls yX3_house yX3_house, Cond.instanceMethod yX3_house, Cond.static yX3_checkRange, Cond.instanceMethod yX3_cellsWithZero, Cond.instanceMethod yX3_allWeights, Cond.instanceMethod yX4_init]
theorem owe1_2 : wl1_2 = [196, 195, 200, 199, 203, 223, 227, 233].filterMap (fun i => tables_1_1[i]?) := by decide +kernel
theorem ow1_2 (w : Cond) (h : w ∈ wl1_2) : w ∈ tables_1_1 := by
  rw [owe1_2] at h
  obtain ⟨i, -, hi⟩ := List.mem_filterMap.mp h
  exact List.mem_of_getElem? hi
def wl2_0 : List Cond := [Cond.methodLink RL 171 yL_put, Cond.classLink RL 19 "java/lang/IndexOutOfBoundsException", Cond.methodLink RL 7 yX3_put, Cond.constantLong RX3 27 (4294967295), Cond.methodLink RX3 29 yX3_fill, Cond.methodLink RL 177 yL_mono, Cond.classLink RL 24 "java/lang/IllegalArgumentException", Cond.methodLink RL 21 yX3_mono, Cond.methodLink RX3 37 yX1_single, Cond.methodLink RL 180 yL_digit, Cond.methodLink RL 26 yX3_digit, Cond.constantLong RX3 46 (-1), Cond.methodLink RX3 48 yX1_hasOne, Cond.methodLink RL 184 yL_flip, Cond.methodLink RL 30 yX3_flip, Cond.methodLink RL 187 yL_copy, Cond.methodLink RL 34 yX3_copy, Cond.methodLink RL 190 yL_swap, Cond.methodLink RL 37 yX3_swap, Cond.methodLink RL 193 yL_end, Cond.methodLink RL 40 yX3_end, Cond.methodLink RX3 52 yJ9_max_f86c9, Cond.methodLink RX3 58 yJ9_min_f86c9, Cond.methodLink RL 197 yL_join, Cond.methodLink RL 44 yX3_join, Cond.methodLink RX3 61 yX1_joined, Cond.constantLong RX1 15 (-1), Cond.methodLink RL 201 yL_times, Cond.methodLink RL 48 yX3_times, Cond.methodLink RX3 65 yX3_fillProduct, Cond.methodLink RX3 73 yX3_refuse, Cond.methodLink RL 205 yL_square, Cond.methodLink RL 52 yX3_square, Cond.methodLink RL 208 yL_shift, Cond.methodLink RL 55 yX3_shift, Cond.methodLink RL 211 yL_quotient, Cond.methodLink RL 58 yX3_quotient, Cond.methodLink RX3 77 yX1_quotientOf, Cond.methodLink RL 214 yL_rest, Cond.methodLink RL 61 yX3_rest, Cond.methodLink RX3 80 yX1_restOf, Cond.methodLink RL 217 yL_gcd, Cond.methodLink RL 64 yX3_gcd, Cond.methodLink RL 220 yL_lcm, Cond.methodLink RL 67 yX3_lcm, Cond.methodLink RL 223 yL_bezout, Cond.methodLink RL 70 yX3_bezout, Cond.methodLink RL 226 yL_derive, Cond.methodLink RL 73 yX3_derive, Cond.methodLink RX3 92 yX1_derived]
theorem owe2_0 : wl2_0 = [3, 6, 7, 11, 12, 16, 19, 20, 24, 25, 28, 32, 33, 34, 37, 41, 44, 48, 51, 55, 58, 62, 65, 68, 71, 75, 78, 79, 82, 86, 90, 94, 97, 101, 104, 108, 111, 115, 116, 119, 123, 126, 129, 133, 136, 140, 143, 147, 150, 154].filterMap (fun i => tables_1_2[i]?) := by decide +kernel
theorem ow2_0 (w : Cond) (h : w ∈ wl2_0) : w ∈ tables_1_2 := by
  rw [owe2_0] at h
  obtain ⟨i, -, hi⟩ := List.mem_filterMap.mp h
  exact List.mem_of_getElem? hi
def wl2_1 : List Cond := [Cond.constantLong RX1 39 (6148914691236517205), Cond.methodLink RL 229 yL_root, Cond.methodLink RL 76 yX3_root, Cond.methodLink RX3 96 yX1_evenPlacesHalved, Cond.methodLink RL 232 yL_turn, Cond.methodLink RL 79 yX3_turn, Cond.methodLink RX3 99 yX1_turned, Cond.methodLink RL 235 yL_move, Cond.methodLink RL 82 yX3_move, Cond.methodLink RX3 102 yX1_moved, Cond.methodLink RL 238 yL_power, Cond.methodLink RL 85 yX3_power, Cond.methodLink RX3 105 yX3_hasDegreeIn, Cond.methodLink RX3 109 yX1_powerRest, Cond.methodLink RX1 32 yX1_restOf, Cond.methodLink RL 241 yL_nth, Cond.methodLink RL 88 yX3_nth, Cond.methodLink RX3 113 yX0_withRank, Cond.methodLink RX0 15 yX1_single, Cond.methodLink RX0 25 yX0_isOne, Cond.methodLink RX0 9 yX1_topPlace, Cond.constantLong RX0 19 (2), Cond.methodLink RX0 21 yX1_isDivisor, Cond.methodLink RL 244 yL_field, Cond.methodLink RL 91 yX3_field, Cond.methodLink RX3 119 yX0_productForDivisors, Cond.methodLink RX0 31 yX0_timesAllOf, Cond.methodLink RX0 35 yX1_product, Cond.methodLink RL 247 yL_again, Cond.methodLink RL 94 yX3_again, Cond.selects yX3_put.cls yX3_put yX3_put, Cond.instanceMethod yX3_put, Cond.instanceMethod yX3_fill, Cond.selects yX3_mono.cls yX3_mono yX3_mono, Cond.instanceMethod yX3_mono, Cond.selects yX3_digit.cls yX3_digit yX3_digit, Cond.instanceMethod yX3_digit, Cond.selects yX3_flip.cls yX3_flip yX3_flip, Cond.instanceMethod yX3_flip, Cond.selects yX3_copy.cls yX3_copy yX3_copy, Cond.instanceMethod yX3_copy, Cond.selects yX3_swap.cls yX3_swap yX3_swap, Cond.instanceMethod yX3_swap, Cond.selects yX3_end.cls yX3_end yX3_end, Cond.instanceMethod yX3_end, Cond.static yJ9_max_f86c9, Cond.static yJ9_min_f86c9, Cond.selects yX3_join.cls yX3_join yX3_join, Cond.instanceMethod yX3_join, Cond.static yX1_joined]
theorem owe2_1 : wl2_1 = [157, 158, 161, 165, 168, 171, 175, 178, 181, 185, 188, 191, 195, 198, 201, 202, 205, 209, 212, 213, 216, 217, 218, 221, 224, 228, 231, 234, 235, 238, 9, 8, 14, 22, 21, 30, 29, 39, 38, 46, 45, 53, 52, 60, 59, 63, 66, 73, 72, 76].filterMap (fun i => tables_1_2[i]?) := by decide +kernel
theorem ow2_1 (w : Cond) (h : w ∈ wl2_1) : w ∈ tables_1_2 := by
  rw [owe2_1] at h
  obtain ⟨i, -, hi⟩ := List.mem_filterMap.mp h
  exact List.mem_of_getElem? hi
def wl2_2 : List Cond := [Cond.selects yX3_times.cls yX3_times yX3_times, Cond.instanceMethod yX3_times, Cond.instanceMethod yX3_fillProduct, Cond.instanceMethod yX3_refuse, Cond.selects yX3_square.cls yX3_square yX3_square, Cond.instanceMethod yX3_square, Cond.selects yX3_shift.cls yX3_shift yX3_shift, Cond.instanceMethod yX3_shift, Cond.selects yX3_quotient.cls yX3_quotient yX3_quotient, Cond.instanceMethod yX3_quotient, Cond.selects yX3_rest.cls yX3_rest yX3_rest, Cond.instanceMethod yX3_rest, Cond.static yX1_restOf, Cond.selects yX3_gcd.cls yX3_gcd yX3_gcd, Cond.instanceMethod yX3_gcd, Cond.selects yX3_lcm.cls yX3_lcm yX3_lcm, Cond.instanceMethod yX3_lcm, Cond.selects yX3_bezout.cls yX3_bezout yX3_bezout, Cond.instanceMethod yX3_bezout, Cond.selects yX3_derive.cls yX3_derive yX3_derive, Cond.instanceMethod yX3_derive, Cond.static yX1_derived, Cond.selects yX3_root.cls yX3_root yX3_root, Cond.instanceMethod yX3_root, Cond.static yX1_evenPlacesHalved, Cond.selects yX3_turn.cls yX3_turn yX3_turn, Cond.instanceMethod yX3_turn, Cond.static yX1_turned, Cond.selects yX3_move.cls yX3_move yX3_move, Cond.instanceMethod yX3_move, Cond.static yX1_moved, Cond.selects yX3_power.cls yX3_power yX3_power, Cond.instanceMethod yX3_power, Cond.static yX3_hasDegreeIn, Cond.static yX1_powerRest, Cond.selects yX3_nth.cls yX3_nth yX3_nth, Cond.instanceMethod yX3_nth, Cond.static yX0_withRank, Cond.static yX0_isOne, Cond.static yX1_isDivisor, Cond.selects yX3_field.cls yX3_field yX3_field, Cond.instanceMethod yX3_field, Cond.static yX0_productForDivisors, Cond.static yX0_timesAllOf, Cond.instanceMethod yX3_again]
theorem owe2_2 : wl2_2 = [84, 83, 88, 92, 99, 98, 106, 105, 113, 112, 121, 120, 124, 131, 130, 138, 137, 145, 144, 152, 151, 155, 163, 162, 166, 173, 172, 176, 183, 182, 186, 193, 192, 196, 199, 207, 206, 210, 214, 219, 226, 225, 229, 232, 239].filterMap (fun i => tables_1_2[i]?) := by decide +kernel
theorem ow2_2 (w : Cond) (h : w ∈ wl2_2) : w ∈ tables_1_2 := by
  rw [owe2_2] at h
  obtain ⟨i, -, hi⟩ := List.mem_filterMap.mp h
  exact List.mem_of_getElem? hi
def wl3_0 : List Cond := [Cond.methodLink RL 250 yL_degree, Cond.methodLink RL 97 yX3_degree, Cond.methodLink RL 254 yL_low, Cond.methodLink RL 101 yX3_low, Cond.methodLink RL 257 yL_weight, Cond.methodLink RL 104 yX3_weight, Cond.methodLink RL 260 yL_at, Cond.methodLink RL 107 yX3_at, Cond.methodLink RL 263 yL_digits, Cond.methodLink RL 110 yX3_digits, Cond.methodLink RL 266 yL_text, Cond.methodLink RL 113 yX3_text, Cond.methodLink RX3 130 yX2_placesOf, Cond.classLink RX2 9 "java/lang/StringBuilder", Cond.methodLink RX2 11 yJ4_init_da8c8, Cond.methodLink RJ4 1 yJ5_init_d00df, Cond.fieldLink RJ5 18 "java/lang/String" "COMPACT_STRINGS" "Z", Cond.methodLink RJ5 26 yJ2_newBytesFor_77867, Cond.methodLink RJ2 11 yJ2_newBytesLength_0f7a4, Cond.fieldLink RJ5 15 "java/lang/AbstractStringBuilder" "value" "[B", Cond.fieldLink RJ5 22 "java/lang/AbstractStringBuilder" "coder" "B", Cond.fieldLink RJ0 1048 "java/lang/AbstractStringBuilder" "maybeLatin1" "Z", Cond.fieldLink RJ5 79 "java/lang/AbstractStringBuilder" "count" "I", Cond.methodLink RX2 12 yX1_topPlace, Cond.methodLink RX2 18 yX1_hasOne, Cond.methodLink RX2 22 yJ4_length_8abf5, Cond.methodLink RJ4 343 yJ5_length_8abf5, Cond.methodLink RX2 26 yJ4_append_cf468, Cond.methodLink RJ4 50 yJ5_append_3fe6f, Cond.methodLink RJ5 100 yJ5_ensureCapacityInternal_d00df, Cond.methodLink RJ5 104 yJ5_newCapacity_0f7a4, Cond.methodLink RJ5 114 yJ8_newLength_cabcc, Cond.methodLink RJ8 194 yJ9_max_7cf53, Cond.methodLink RJ8 201 yJ8_hugeLength_7cf53, Cond.methodLink RJ5 108 yJ7_copyOf_9075b, Cond.classLink RJ7 311 "[B", Cond.methodLink RJ7 304 yJ9_min_7cf53, Cond.methodLink RJ5 83 yJ5_isLatin1_aae02, Cond.methodLink RJ5 191 yJ1_canEncode_fc78d, Cond.methodLink RJ5 195 yJ5_inflate_da8c8, Cond.methodLink RJ5 125 yJ1_inflate_0e8fd, Cond.methodLink RJ1 240 yJ2_inflate_0e8fd, Cond.methodLink RJ2 173 yJ2_checkBoundsOffCount_d044e, Cond.methodLink RJ2 48 yJ2_length_9d52b, Cond.methodLink RJ2 419 yJ0_checkBoundsOffCount_cabcc, Cond.fieldLink RJ0 1053 "jdk/internal/util/Preconditions" "SIOOBE_FORMATTER" "Ljava/util/function/BiFunction;", Cond.methodLink RJ0 1065 yJ3_checkFromIndexSize_8c36e, Cond.methodLink RJ2 111 yJ2_putChar_b72d1, Cond.fieldLink RJ2 44 "java/lang/StringUTF16" "$assertionsDisabled" "Z", Cond.fieldLink RJ2 59 "java/lang/StringUTF16" "HI_BYTE_SHIFT" "I"]
theorem owe3_0 : wl3_0 = [2, 5, 6, 9, 10, 13, 14, 17, 21, 24, 25, 28, 32, 36, 38, 41, 45, 47, 50, 54, 55, 56, 57, 67, 68, 69, 73, 76, 80, 83, 87, 91, 94, 98, 102, 111, 112, 118, 123, 126, 130, 133, 136, 139, 142, 145, 147, 150, 153, 155].filterMap (fun i => tables_1_3[i]?) := by decide +kernel
theorem ow3_0 (w : Cond) (h : w ∈ wl3_0) : w ∈ tables_1_3 := by
  rw [owe3_0] at h
  obtain ⟨i, -, hi⟩ := List.mem_filterMap.mp h
  exact List.mem_of_getElem? hi
def wl3_1 : List Cond := [Cond.fieldLink RJ2 63 "java/lang/StringUTF16" "LO_BYTE_SHIFT" "I", Cond.methodLink RJ5 197 yJ2_putCharSB_b72d1, Cond.methodLink RJ2 67 yJ2_checkIndex_2214a, Cond.methodLink RJ2 414 yJ0_checkIndex_df160, Cond.methodLink RJ0 1059 yJ3_checkIndex_8e157, Cond.methodLink RX2 30 yJ4_append_bf812, Cond.methodLink RJ4 53 yJ5_append_c97b9, Cond.methodLink RJ5 245 yJ6_stringSize_0f7a4, Cond.methodLink RJ5 248 yJ6_getChars_ba4f3, Cond.fieldLink RJ6 83 "java/lang/Integer" "DigitOnes" "[B", Cond.fieldLink RJ6 87 "java/lang/Integer" "DigitTens" "[B", Cond.methodLink RJ5 251 yJ2_getChars_46870, Cond.methodLink RJ2 96 yJ2_checkBoundsBeginEnd_d044e, Cond.methodLink RJ2 241 yJ0_checkBoundsBeginEnd_23922, Cond.methodLink RJ0 1062 yJ3_checkFromToIndex_8c36e, Cond.methodLink RJ2 393 yJ2_getChars_ba4f3, Cond.fieldLink RJ2 403 "java/lang/Integer" "DigitOnes" "[B", Cond.fieldLink RJ2 407 "java/lang/Integer" "DigitTens" "[B", Cond.methodLink RX2 33 yJ4_toString_0e30d, Cond.classLink RJ4 18 "java/lang/String", Cond.methodLink RJ4 137 yJ0_init_81219, Cond.methodLink RJ0 489 yJ0_init_db425, Cond.methodLink RJ0 552 yJ5_getValue_6d5f1, Cond.methodLink RJ0 549 yJ5_length_8abf5, Cond.methodLink RJ0 1047 yJ5_isLatin1_aae02, Cond.methodLink RJ0 54 yJ7_copyOfRange_39247, Cond.methodLink RJ7 339 yJ7_copyOfRangeByte_39247, Cond.methodLink RJ7 343 yJ7_checkLength_df160, Cond.classLink RJ7 43 "java/lang/IllegalArgumentException", Cond.classLink RJ7 45 "java/lang/StringBuilder", Cond.methodLink RJ7 47 yJ4_init_da8c8, Cond.methodLink RJ7 54 yJ4_append_bf812, Cond.methodLink RJ7 50 yJ4_append_15ec4, Cond.selects yX3_again.cls yX3_again yX3_again, Cond.selects yX3_at.cls yX3_at yX3_at, Cond.instanceMethod yX3_at, Cond.selects yX3_text.cls yX3_text yX3_text, Cond.instanceMethod yX3_text, Cond.static yX2_placesOf, Cond.instanceMethod yJ4_init_da8c8, Cond.instanceMethod yJ5_init_d00df, Cond.static yJ2_newBytesFor_77867, Cond.static yJ2_newBytesLength_0f7a4, Cond.selects yJ4_length_8abf5.cls yJ4_length_8abf5 yJ4_length_8abf5, Cond.instanceMethod yJ4_length_8abf5, Cond.selects yJ4_append_cf468.cls yJ4_append_cf468 yJ4_append_cf468, Cond.instanceMethod yJ4_append_cf468, Cond.static yJ8_newLength_cabcc, Cond.static yJ9_max_7cf53, Cond.static yJ8_hugeLength_7cf53]
theorem owe3_1 : wl3_1 = [157, 159, 162, 165, 168, 171, 175, 178, 181, 184, 186, 188, 191, 194, 197, 200, 203, 204, 205, 209, 211, 214, 218, 223, 224, 225, 228, 231, 234, 235, 236, 237, 239, 0, 19, 18, 30, 29, 33, 39, 42, 48, 51, 71, 70, 78, 77, 92, 95, 99].filterMap (fun i => tables_1_3[i]?) := by decide +kernel
theorem ow3_1 (w : Cond) (h : w ∈ wl3_1) : w ∈ tables_1_3 := by
  rw [owe3_1] at h
  obtain ⟨i, -, hi⟩ := List.mem_filterMap.mp h
  exact List.mem_of_getElem? hi
def wl3_2 : List Cond := [Cond.static yJ7_copyOf_9075b, Cond.static yJ9_min_7cf53, Cond.static yJ1_canEncode_fc78d, Cond.static yJ1_inflate_0e8fd, Cond.static yJ2_inflate_0e8fd, Cond.static yJ2_checkBoundsOffCount_d044e, Cond.static yJ2_length_9d52b, Cond.static yJ0_checkBoundsOffCount_cabcc, Cond.static yJ3_checkFromIndexSize_8c36e, Cond.static yJ2_putChar_b72d1, Cond.static yJ2_putCharSB_b72d1, Cond.static yJ2_checkIndex_2214a, Cond.static yJ0_checkIndex_df160, Cond.static yJ3_checkIndex_8e157, Cond.selects yJ4_append_bf812.cls yJ4_append_bf812 yJ4_append_bf812, Cond.instanceMethod yJ4_append_bf812, Cond.static yJ6_stringSize_0f7a4, Cond.static yJ6_getChars_ba4f3, Cond.static yJ2_getChars_46870, Cond.static yJ2_checkBoundsBeginEnd_d044e, Cond.static yJ0_checkBoundsBeginEnd_23922, Cond.static yJ3_checkFromToIndex_8c36e, Cond.static yJ2_getChars_ba4f3, Cond.selects yJ4_toString_0e30d.cls yJ4_toString_0e30d yJ4_toString_0e30d, Cond.instanceMethod yJ4_toString_0e30d, Cond.instanceMethod yJ0_init_81219, Cond.instanceMethod yJ0_init_db425, Cond.static yJ7_copyOfRange_39247, Cond.static yJ7_copyOfRangeByte_39247, Cond.static yJ7_checkLength_df160]
theorem owe3_2 : wl3_2 = [103, 113, 124, 131, 134, 137, 140, 143, 148, 151, 160, 163, 166, 169, 173, 172, 179, 182, 189, 192, 195, 198, 201, 207, 206, 212, 215, 226, 229, 232].filterMap (fun i => tables_1_3[i]?) := by decide +kernel
theorem ow3_2 (w : Cond) (h : w ∈ wl3_2) : w ∈ tables_1_3 := by
  rw [owe3_2] at h
  obtain ⟨i, -, hi⟩ := List.mem_filterMap.mp h
  exact List.mem_of_getElem? hi
def wl4_0 : List Cond := [Cond.methodLink RJ4 29 yJ5_append_cf1ce, Cond.methodLink RJ5 204 yJ5_appendNull_278bc, Cond.methodLink RJ5 226 yJ2_putCharsAt_cd4e5, Cond.methodLink RJ5 32 yJ0_length_8abf5, Cond.methodLink RJ0 335 yJ0_coder_7d493, Cond.fieldLink RJ0 38 "java/lang/String" "COMPACT_STRINGS" "Z", Cond.methodLink RJ5 208 yJ5_putStringAt_47b60, Cond.methodLink RJ5 397 yJ5_inflateIfNeededFor_a7421, Cond.methodLink RJ5 40 yJ0_coder_7d493, Cond.methodLink RJ5 399 yJ0_getBytes_840e7, Cond.methodLink RJ0 106 yJ1_inflate_0e8fd, Cond.methodLink RJ7 61 yJ4_toString_0e30d, Cond.methodLink RJ0 1051 yJ2_compress_39247, Cond.methodLink RJ2 123 yJ2_compress_5af95, Cond.methodLink RJ2 71 yJ2_getChar_3b067, Cond.methodLink RJ2 126 yJ7_copyOfRange_39247, Cond.methodLink RJ0 47 yJ2_coderFromArrayLen_85cad, Cond.fieldLink RJ0 9 "java/lang/String" "value" "[B", Cond.fieldLink RJ0 15 "java/lang/String" "coder" "B", Cond.methodLink RL 269 yL_code, Cond.methodLink RL 121 yX3_code, Cond.methodLink RX3 136 yX2_numberIn, Cond.methodLink RX2 39 yX2_signOf, Cond.methodLink RX2 45 yJ4_reverse_43fcb, Cond.methodLink RJ4 127 yJ5_reverse_278bc, Cond.methodLink RJ5 358 yJ2_reverse_db04f, Cond.methodLink RJ2 180 yJ2_checkOffset_2214a, Cond.methodLink RJ2 417 yJ0_checkOffset_df160, Cond.methodLink RJ2 212 yJ11_isSurrogate_fc78d, Cond.methodLink RJ2 399 yJ2_reverseAllValidSurrogatePairs_db04f, Cond.methodLink RJ2 81 yJ11_isLowSurrogate_fc78d, Cond.methodLink RJ2 75 yJ11_isHighSurrogate_fc78d, Cond.methodLink RL 272 yL_order, Cond.methodLink RL 125 yX3_order, Cond.methodLink RL 275 yL_isSame, Cond.methodLink RL 128 yX3_isSame, Cond.methodLink RL 278 yL_value, Cond.methodLink RL 131 yX3_value, Cond.methodLink RL 282 yL_divides, Cond.methodLink RL 135 yX3_divides, Cond.methodLink RX3 140 yX1_isDivisor, Cond.methodLink RL 285 yL_isFree, Cond.methodLink RL 138 yX3_isFree, Cond.methodLink RL 288 yL_irreducible, Cond.methodLink RL 142 yX3_irreducible, Cond.methodLink RX3 144 yX0_isOne, Cond.methodLink RL 291 yL_rank, Cond.methodLink RL 145 yX3_rank, Cond.methodLink RX3 148 yX0_countBelow, Cond.methodLink RL 294 yL_factors]
theorem owe4_0 : wl4_0 = [3, 6, 10, 13, 17, 21, 22, 26, 30, 31, 36, 37, 39, 42, 45, 48, 49, 52, 53, 63, 66, 70, 74, 77, 81, 84, 87, 90, 93, 98, 101, 105, 108, 111, 112, 115, 119, 122, 126, 129, 133, 134, 137, 141, 144, 148, 149, 152, 156, 159].filterMap (fun i => tables_1_4[i]?) := by decide +kernel
theorem ow4_0 (w : Cond) (h : w ∈ wl4_0) : w ∈ tables_1_4 := by
  rw [owe4_0] at h
  obtain ⟨i, -, hi⟩ := List.mem_filterMap.mp h
  exact List.mem_of_getElem? hi
def wl4_1 : List Cond := [Cond.methodLink RL 148 yX3_factors, Cond.methodLink RX3 153 yX0_factorsOf, Cond.classLink RX0 39 "java/lang/StringBuilder", Cond.methodLink RX0 41 yJ4_init_da8c8, Cond.methodLink RX0 42 yJ4_length_8abf5, Cond.methodLink RX0 46 yJ4_append_cf468, Cond.methodLink RX0 50 yJ4_append_bf812, Cond.methodLink RX0 53 yX1_quotientOf, Cond.methodLink RX0 56 yJ4_toString_0e30d, Cond.methodLink RL 297 yL_period, Cond.methodLink RL 151 yX3_period, Cond.methodLink RX3 156 yX0_periodOf, Cond.methodLink RX0 60 yX1_restOf, Cond.methodLink RL 300 yL_many, Cond.methodLink RL 154 yX3_many, Cond.methodLink RL 303 yL_formula, Cond.methodLink RL 157 yX3_formula, Cond.methodLink RX3 159 yX0_formulaFor, Cond.methodLink RX0 63 yX0_signOf, Cond.methodLink RL 306 yL_find, Cond.methodLink RL 160 yX3_find, Cond.methodLink RL 309 yL_house, Cond.methodLink RL 163 yX3_house, Cond.classLink RL 167 "CarryfreeModel", Cond.methodLink RL 169 yX5_init, Cond.fieldLink RX5 7 "CarryfreeModel" "cells" "[J", Cond.fieldLink RX5 13 "CarryfreeModel" "thrown" "I", Cond.fieldLink RX5 53 "CarryfreeModel" "acts" "I", Cond.fieldLink RX5 56 "CarryfreeModel" "refused" "I", Cond.fieldLink RX5 161 "CarryfreeModel" "knocks" "I", Cond.methodLink RL 176 yX5_put, Cond.selects yJ4_append_15ec4.cls yJ4_append_15ec4 yJ4_append_15ec4, Cond.instanceMethod yJ4_append_15ec4, Cond.static yJ2_putCharsAt_cd4e5, Cond.selects yJ0_length_8abf5.cls yJ0_length_8abf5 yJ0_length_8abf5, Cond.instanceMethod yJ0_length_8abf5, Cond.selects yJ0_coder_7d493.cls yJ0_coder_7d493 yJ0_coder_7d493, Cond.instanceMethod yJ0_coder_7d493, Cond.selects yJ0_getBytes_840e7.cls yJ0_getBytes_840e7 yJ0_getBytes_840e7, Cond.instanceMethod yJ0_getBytes_840e7, Cond.static yJ2_compress_39247, Cond.static yJ2_compress_5af95, Cond.static yJ2_getChar_3b067, Cond.static yJ2_coderFromArrayLen_85cad, Cond.selects yX3_code.cls yX3_code yX3_code, Cond.instanceMethod yX3_code, Cond.static yX2_numberIn, Cond.static yX2_signOf, Cond.selects yJ4_reverse_43fcb.cls yJ4_reverse_43fcb yJ4_reverse_43fcb, Cond.instanceMethod yJ4_reverse_43fcb]
theorem owe4_1 : wl4_1 = [162, 167, 170, 171, 172, 173, 174, 175, 176, 177, 180, 184, 187, 188, 191, 195, 198, 202, 205, 208, 211, 212, 215, 216, 218, 222, 223, 224, 225, 226, 238, 1, 0, 11, 15, 14, 19, 18, 33, 32, 40, 43, 46, 50, 68, 67, 71, 75, 79, 78].filterMap (fun i => tables_1_4[i]?) := by decide +kernel
theorem ow4_1 (w : Cond) (h : w ∈ wl4_1) : w ∈ tables_1_4 := by
  rw [owe4_1] at h
  obtain ⟨i, -, hi⟩ := List.mem_filterMap.mp h
  exact List.mem_of_getElem? hi
def wl4_2 : List Cond := [Cond.static yJ2_reverse_db04f, Cond.static yJ2_checkOffset_2214a, Cond.static yJ0_checkOffset_df160, Cond.static yJ11_isSurrogate_fc78d, Cond.static yJ2_reverseAllValidSurrogatePairs_db04f, Cond.static yJ11_isLowSurrogate_fc78d, Cond.static yJ11_isHighSurrogate_fc78d, Cond.selects yX3_isSame.cls yX3_isSame yX3_isSame, Cond.instanceMethod yX3_isSame, Cond.selects yX3_value.cls yX3_value yX3_value, Cond.instanceMethod yX3_value, Cond.selects yX3_divides.cls yX3_divides yX3_divides, Cond.instanceMethod yX3_divides, Cond.selects yX3_isFree.cls yX3_isFree yX3_isFree, Cond.instanceMethod yX3_isFree, Cond.selects yX3_irreducible.cls yX3_irreducible yX3_irreducible, Cond.instanceMethod yX3_irreducible, Cond.selects yX3_rank.cls yX3_rank yX3_rank, Cond.instanceMethod yX3_rank, Cond.static yX0_countBelow, Cond.selects yX3_factors.cls yX3_factors yX3_factors, Cond.instanceMethod yX3_factors, Cond.static yX0_factorsOf, Cond.selects yX3_period.cls yX3_period yX3_period, Cond.instanceMethod yX3_period, Cond.static yX0_periodOf, Cond.selects yX3_many.cls yX3_many yX3_many, Cond.instanceMethod yX3_many, Cond.selects yX3_formula.cls yX3_formula yX3_formula, Cond.instanceMethod yX3_formula, Cond.static yX0_formulaFor, Cond.static yX0_signOf, Cond.instanceMethod yX5_init, Cond.instanceMethod yX5_put]
theorem owe4_2 : wl4_2 = [85, 88, 91, 94, 99, 102, 106, 117, 116, 124, 123, 131, 130, 139, 138, 146, 145, 154, 153, 157, 164, 163, 168, 182, 181, 185, 193, 192, 200, 199, 203, 206, 219, 239].filterMap (fun i => tables_1_4[i]?) := by decide +kernel
theorem ow4_2 (w : Cond) (h : w ∈ wl4_2) : w ∈ tables_1_4 := by
  rw [owe4_2] at h
  obtain ⟨i, -, hi⟩ := List.mem_filterMap.mp h
  exact List.mem_of_getElem? hi
def wl5_0 : List Cond := [Cond.methodLink RX5 67 yX5_isNo, Cond.methodLink RX5 21 yX5_isIn, Cond.methodLink RX5 71 yX5_start, Cond.methodLink RX5 17 yX5_refuse, Cond.constantLong RX5 74 (4294967295), Cond.methodLink RX5 59 yX5_lay, Cond.methodLink RX5 29 yX5_one, Cond.methodLink RL 179 yX5_mono, Cond.methodLink RL 183 yX5_digit, Cond.methodLink RX5 25 yX5_has, Cond.methodLink RL 186 yX5_flip, Cond.methodLink RL 189 yX5_copy, Cond.methodLink RL 192 yX5_swap, Cond.methodLink RL 196 yX5_end, Cond.methodLink RX5 76 yJ9_max_f86c9, Cond.methodLink RX5 81 yJ9_min_f86c9, Cond.methodLink RL 200 yX5_join, Cond.constantLong RX5 84 (-1), Cond.methodLink RL 204 yX5_times, Cond.methodLink RX5 90 yX5_multiply, Cond.methodLink RX5 33 yX5_degreeOf, Cond.methodLink RX5 41 yX5_product, Cond.methodLink RX5 86 yX5_layIf, Cond.methodLink RX5 63 yX5_no, Cond.methodLink RL 207 yX5_square, Cond.methodLink RL 210 yX5_shift, Cond.methodLink RL 213 yX5_quotient, Cond.methodLink RX5 37 yX5_quotientOf, Cond.methodLink RL 216 yX5_rest, Cond.methodLink RX5 46 yX5_restOf, Cond.methodLink RL 219 yX5_gcd, Cond.methodLink RX5 94 yX5_euclid, Cond.methodLink RL 222 yX5_lcm, Cond.methodLink RL 225 yX5_bezout, Cond.methodLink RL 228 yX5_derive, Cond.methodLink RX5 98 yX5_derived, Cond.methodLink RL 231 yX5_root, Cond.methodLink RX5 102 yX5_half, Cond.methodLink RL 234 yX5_turn, Cond.methodLink RL 237 yX5_move, Cond.methodLink RL 240 yX5_power, Cond.methodLink RL 243 yX5_nth, Cond.constantLong RX5 44 (2), Cond.methodLink RX5 49 yX5_isIrreducible, Cond.methodLink RL 246 yX5_field, Cond.methodLink RL 249 yX5_again, Cond.methodLink RL 253 yX5_degree, Cond.methodLink RL 256 yX5_low, Cond.methodLink RX5 105 yX5_lowOf, Cond.methodLink RL 259 yX5_weight]
theorem owe5_0 : wl5_0 = [2, 5, 8, 12, 16, 17, 21, 24, 28, 32, 35, 39, 43, 47, 51, 52, 53, 57, 58, 62, 66, 69, 72, 76, 80, 84, 88, 92, 95, 99, 102, 106, 109, 113, 117, 121, 124, 128, 131, 135, 139, 143, 147, 148, 151, 155, 159, 163, 167, 170].filterMap (fun i => tables_1_5[i]?) := by decide +kernel
theorem ow5_0 (w : Cond) (h : w ∈ wl5_0) : w ∈ tables_1_5 := by
  rw [owe5_0] at h
  obtain ⟨i, -, hi⟩ := List.mem_filterMap.mp h
  exact List.mem_of_getElem? hi
def wl5_1 : List Cond := [Cond.methodLink RX5 108 yX5_weightOf, Cond.methodLink RL 262 yX5_at, Cond.methodLink RL 265 yX5_digits, Cond.methodLink RL 268 yX5_text, Cond.classLink RX5 115 "java/lang/StringBuilder", Cond.methodLink RX5 117 yJ4_init_da8c8, Cond.methodLink RX5 118 yJ4_length_8abf5, Cond.methodLink RX5 121 yJ4_append_cf468, Cond.methodLink RX5 125 yJ4_append_bf812, Cond.methodLink RX5 128 yJ4_toString_0e30d, Cond.methodLink RL 271 yX5_code, Cond.methodLink RX5 134 yJ0_charAt_5068e, Cond.methodLink RJ0 492 yJ0_isLatin1_aae02, Cond.methodLink RJ0 495 yJ1_charAt_3b067, Cond.methodLink RJ1 9 yJ0_checkIndex_df160, Cond.methodLink RJ0 498 yJ2_charAt_3b067, Cond.methodLink RL 274 yX5_order, Cond.methodLink RX5 140 yX5_side, Cond.methodLink RL 277 yX5_isSame, Cond.methodLink RL 281 yX5_value, Cond.methodLink RL 284 yX5_divides, Cond.methodLink RL 287 yX5_isFree, Cond.selects yX5_put.cls yX5_put yX5_put, Cond.static yX5_isNo, Cond.static yX5_isIn, Cond.instanceMethod yX5_start, Cond.instanceMethod yX5_refuse, Cond.instanceMethod yX5_lay, Cond.static yX5_one, Cond.selects yX5_mono.cls yX5_mono yX5_mono, Cond.instanceMethod yX5_mono, Cond.selects yX5_digit.cls yX5_digit yX5_digit, Cond.instanceMethod yX5_digit, Cond.static yX5_has, Cond.selects yX5_flip.cls yX5_flip yX5_flip, Cond.instanceMethod yX5_flip, Cond.selects yX5_copy.cls yX5_copy yX5_copy, Cond.instanceMethod yX5_copy, Cond.selects yX5_swap.cls yX5_swap yX5_swap, Cond.instanceMethod yX5_swap, Cond.selects yX5_end.cls yX5_end yX5_end, Cond.instanceMethod yX5_end, Cond.selects yX5_join.cls yX5_join yX5_join, Cond.instanceMethod yX5_join, Cond.selects yX5_times.cls yX5_times yX5_times, Cond.instanceMethod yX5_times, Cond.instanceMethod yX5_multiply, Cond.static yX5_degreeOf, Cond.static yX5_product, Cond.instanceMethod yX5_layIf]
theorem owe5_1 : wl5_1 = [174, 177, 181, 185, 191, 192, 193, 194, 195, 196, 197, 202, 206, 210, 213, 214, 217, 221, 225, 229, 233, 237, 0, 3, 6, 10, 14, 19, 22, 26, 25, 30, 29, 33, 37, 36, 41, 40, 45, 44, 49, 48, 55, 54, 60, 59, 64, 67, 70, 74].filterMap (fun i => tables_1_5[i]?) := by decide +kernel
theorem ow5_1 (w : Cond) (h : w ∈ wl5_1) : w ∈ tables_1_5 := by
  rw [owe5_1] at h
  obtain ⟨i, -, hi⟩ := List.mem_filterMap.mp h
  exact List.mem_of_getElem? hi
def wl5_2 : List Cond := [Cond.instanceMethod yX5_no, Cond.selects yX5_square.cls yX5_square yX5_square, Cond.instanceMethod yX5_square, Cond.selects yX5_shift.cls yX5_shift yX5_shift, Cond.instanceMethod yX5_shift, Cond.selects yX5_quotient.cls yX5_quotient yX5_quotient, Cond.instanceMethod yX5_quotient, Cond.static yX5_quotientOf, Cond.selects yX5_rest.cls yX5_rest yX5_rest, Cond.instanceMethod yX5_rest, Cond.static yX5_restOf, Cond.selects yX5_gcd.cls yX5_gcd yX5_gcd, Cond.instanceMethod yX5_gcd, Cond.static yX5_euclid, Cond.selects yX5_lcm.cls yX5_lcm yX5_lcm, Cond.instanceMethod yX5_lcm, Cond.selects yX5_bezout.cls yX5_bezout yX5_bezout, Cond.instanceMethod yX5_bezout, Cond.selects yX5_derive.cls yX5_derive yX5_derive, Cond.instanceMethod yX5_derive, Cond.static yX5_derived, Cond.selects yX5_root.cls yX5_root yX5_root, Cond.instanceMethod yX5_root, Cond.static yX5_half, Cond.selects yX5_turn.cls yX5_turn yX5_turn, Cond.instanceMethod yX5_turn, Cond.selects yX5_move.cls yX5_move yX5_move, Cond.instanceMethod yX5_move, Cond.selects yX5_power.cls yX5_power yX5_power, Cond.instanceMethod yX5_power, Cond.selects yX5_nth.cls yX5_nth yX5_nth, Cond.instanceMethod yX5_nth, Cond.static yX5_isIrreducible, Cond.selects yX5_field.cls yX5_field yX5_field, Cond.instanceMethod yX5_field, Cond.selects yX5_again.cls yX5_again yX5_again, Cond.instanceMethod yX5_again, Cond.selects yX5_degree.cls yX5_degree yX5_degree, Cond.instanceMethod yX5_degree, Cond.selects yX5_low.cls yX5_low yX5_low, Cond.instanceMethod yX5_low, Cond.static yX5_lowOf, Cond.selects yX5_weight.cls yX5_weight yX5_weight, Cond.instanceMethod yX5_weight, Cond.static yX5_weightOf, Cond.selects yX5_at.cls yX5_at yX5_at, Cond.instanceMethod yX5_at, Cond.selects yX5_digits.cls yX5_digits yX5_digits, Cond.instanceMethod yX5_digits, Cond.selects yX5_text.cls yX5_text yX5_text]
theorem owe5_2 : wl5_2 = [78, 82, 81, 86, 85, 90, 89, 93, 97, 96, 100, 104, 103, 107, 111, 110, 115, 114, 119, 118, 122, 126, 125, 129, 133, 132, 137, 136, 141, 140, 145, 144, 149, 153, 152, 157, 156, 161, 160, 165, 164, 168, 172, 171, 175, 179, 178, 183, 182, 187].filterMap (fun i => tables_1_5[i]?) := by decide +kernel
theorem ow5_2 (w : Cond) (h : w ∈ wl5_2) : w ∈ tables_1_5 := by
  rw [owe5_2] at h
  obtain ⟨i, -, hi⟩ := List.mem_filterMap.mp h
  exact List.mem_of_getElem? hi
def wl5_3 : List Cond := [Cond.instanceMethod yX5_text, Cond.selects yX5_code.cls yX5_code yX5_code, Cond.instanceMethod yX5_code, Cond.selects yJ0_charAt_5068e.cls yJ0_charAt_5068e yJ0_charAt_5068e, Cond.instanceMethod yJ0_charAt_5068e, Cond.selects yJ0_isLatin1_aae02.cls yJ0_isLatin1_aae02 yJ0_isLatin1_aae02, Cond.instanceMethod yJ0_isLatin1_aae02, Cond.static yJ1_charAt_3b067, Cond.static yJ2_charAt_3b067, Cond.selects yX5_order.cls yX5_order yX5_order, Cond.instanceMethod yX5_order, Cond.instanceMethod yX5_side, Cond.selects yX5_isSame.cls yX5_isSame yX5_isSame, Cond.instanceMethod yX5_isSame, Cond.selects yX5_value.cls yX5_value yX5_value, Cond.instanceMethod yX5_value, Cond.selects yX5_divides.cls yX5_divides yX5_divides, Cond.instanceMethod yX5_divides, Cond.selects yX5_isFree.cls yX5_isFree yX5_isFree, Cond.instanceMethod yX5_isFree]
theorem owe5_3 : wl5_3 = [186, 199, 198, 204, 203, 208, 207, 211, 215, 219, 218, 223, 227, 226, 231, 230, 235, 234, 239, 238].filterMap (fun i => tables_1_5[i]?) := by decide +kernel
theorem ow5_3 (w : Cond) (h : w ∈ wl5_3) : w ∈ tables_1_5 := by
  rw [owe5_3] at h
  obtain ⟨i, -, hi⟩ := List.mem_filterMap.mp h
  exact List.mem_of_getElem? hi
def wl6_0 : List Cond := [Cond.methodLink RL 290 yX5_irreducible, Cond.methodLink RL 293 yX5_rank, Cond.methodLink RX5 144 yX5_rankOf, Cond.methodLink RL 296 yX5_factors, Cond.methodLink RL 299 yX5_period, Cond.methodLink RL 302 yX5_many, Cond.methodLink RX5 149 yX5_howMany, Cond.methodLink RL 305 yX5_formula, Cond.fieldLink RX5 153 "CarryfreeModel" "MS" "[I", Cond.methodLink RL 308 yX5_find, Cond.methodLink RX5 157 yX5_found, Cond.methodLink RL 311 yX5_house, Cond.methodLink RX5 164 yX5_houseTold, Cond.methodLink RL 316 yX5_knock, Cond.methodLink RL 321 yX5_isSound, Cond.methodLink RX5 167 yX5_isWhole, Cond.methodLink RL 326 yX5_digest, Cond.constantLong RX5 173 (7686), Cond.methodLink RX5 175 yX5_add, Cond.constantLong RX5 171 (31), Cond.arrayClass .int, Cond.selects yX5_irreducible.cls yX5_irreducible yX5_irreducible, Cond.instanceMethod yX5_irreducible, Cond.selects yX5_rank.cls yX5_rank yX5_rank, Cond.instanceMethod yX5_rank, Cond.static yX5_rankOf, Cond.selects yX5_factors.cls yX5_factors yX5_factors, Cond.instanceMethod yX5_factors, Cond.selects yX5_period.cls yX5_period yX5_period, Cond.instanceMethod yX5_period, Cond.selects yX5_many.cls yX5_many yX5_many, Cond.instanceMethod yX5_many, Cond.static yX5_howMany, Cond.selects yX5_formula.cls yX5_formula yX5_formula, Cond.instanceMethod yX5_formula, Cond.selects yX5_find.cls yX5_find yX5_find, Cond.instanceMethod yX5_find, Cond.instanceMethod yX5_found, Cond.selects yX5_house.cls yX5_house yX5_house, Cond.instanceMethod yX5_house, Cond.instanceMethod yX5_houseTold, Cond.selects yX5_knock.cls yX5_knock yX5_knock, Cond.instanceMethod yX5_knock, Cond.selects yX5_isSound.cls yX5_isSound yX5_isSound, Cond.instanceMethod yX5_isSound, Cond.instanceMethod yX5_isWhole, Cond.selects yX5_digest.cls yX5_digest yX5_digest, Cond.instanceMethod yX5_digest, Cond.static yX5_add]
theorem owe6_0 : wl6_0 = [1, 5, 9, 12, 17, 21, 25, 28, 32, 34, 38, 42, 46, 50, 54, 58, 62, 66, 67, 70, 84, 3, 2, 7, 6, 10, 14, 13, 19, 18, 23, 22, 26, 30, 29, 36, 35, 40, 44, 43, 48, 52, 51, 56, 55, 60, 64, 63, 68].filterMap (fun i => tables_1_6[i]?) := by decide +kernel
theorem ow6_0 (w : Cond) (h : w ∈ wl6_0) : w ∈ tables_1_6 := by
  rw [owe6_0] at h
  obtain ⟨i, -, hi⟩ := List.mem_filterMap.mp h
  exact List.mem_of_getElem? hi
theorem ini_L : Cond.initialized RL ∈ lw_tbl := tb1 (ow1_0 (Cond.initialized RL) (List.mem_of_getElem? (i := 0) rfl))
theorem ini_X3 : Cond.initialized RX3 ∈ lw_tbl := tb1 (ow1_0 (Cond.initialized RX3) (List.mem_of_getElem? (i := 1) rfl))
theorem ini_X5 : Cond.initialized RX5 ∈ lw_tbl := tb1 (ow1_0 (Cond.initialized RX5) (List.mem_of_getElem? (i := 2) rfl))
theorem ini_X4 : Cond.initialized RX4 ∈ lw_tbl := tb1 (ow1_0 (Cond.initialized RX4) (List.mem_of_getElem? (i := 3) rfl))
theorem ini_java_lang_Throwable : Cond.initialized "java/lang/Throwable" ∈ lw_tbl := tb1 (ow1_0 (Cond.initialized "java/lang/Throwable") (List.mem_of_getElem? (i := 4) rfl))
theorem ini_java_lang_Exception : Cond.initialized "java/lang/Exception" ∈ lw_tbl := tb1 (ow1_0 (Cond.initialized "java/lang/Exception") (List.mem_of_getElem? (i := 5) rfl))
theorem ini_java_lang_RuntimeException : Cond.initialized "java/lang/RuntimeException" ∈ lw_tbl := tb1 (ow1_0 (Cond.initialized "java/lang/RuntimeException") (List.mem_of_getElem? (i := 6) rfl))
theorem ini_java_lang_IndexOutOfBoundsException : Cond.initialized "java/lang/IndexOutOfBoundsException" ∈ lw_tbl := tb1 (ow1_0 (Cond.initialized "java/lang/IndexOutOfBoundsException") (List.mem_of_getElem? (i := 7) rfl))
theorem ini_java_lang_IllegalArgumentException : Cond.initialized "java/lang/IllegalArgumentException" ∈ lw_tbl := tb1 (ow1_0 (Cond.initialized "java/lang/IllegalArgumentException") (List.mem_of_getElem? (i := 8) rfl))
theorem ini_X1 : Cond.initialized RX1 ∈ lw_tbl := tb1 (ow1_0 (Cond.initialized RX1) (List.mem_of_getElem? (i := 9) rfl))
theorem ini_J9 : Cond.initialized RJ9 ∈ lw_tbl := tb1 (ow1_0 (Cond.initialized RJ9) (List.mem_of_getElem? (i := 10) rfl))
theorem ini_X0 : Cond.initialized RX0 ∈ lw_tbl := tb1 (ow1_0 (Cond.initialized RX0) (List.mem_of_getElem? (i := 11) rfl))
theorem ini_J13 : Cond.initialized RJ13 ∈ lw_tbl := tb1 (ow1_0 (Cond.initialized RJ13) (List.mem_of_getElem? (i := 12) rfl))
theorem ini_X2 : Cond.initialized RX2 ∈ lw_tbl := tb1 (ow1_0 (Cond.initialized RX2) (List.mem_of_getElem? (i := 13) rfl))
theorem ini_J5 : Cond.initialized RJ5 ∈ lw_tbl := tb1 (ow1_0 (Cond.initialized RJ5) (List.mem_of_getElem? (i := 14) rfl))
theorem ini_J4 : Cond.initialized RJ4 ∈ lw_tbl := tb1 (ow1_0 (Cond.initialized RJ4) (List.mem_of_getElem? (i := 15) rfl))
theorem ini_J0 : Cond.initialized RJ0 ∈ lw_tbl := tb1 (ow1_0 (Cond.initialized RJ0) (List.mem_of_getElem? (i := 16) rfl))
theorem ini_J2 : Cond.initialized RJ2 ∈ lw_tbl := tb1 (ow1_0 (Cond.initialized RJ2) (List.mem_of_getElem? (i := 17) rfl))
theorem ini_J8 : Cond.initialized RJ8 ∈ lw_tbl := tb1 (ow1_0 (Cond.initialized RJ8) (List.mem_of_getElem? (i := 18) rfl))
theorem ini_J7 : Cond.initialized RJ7 ∈ lw_tbl := tb1 (ow1_0 (Cond.initialized RJ7) (List.mem_of_getElem? (i := 19) rfl))
theorem ini_J10 : Cond.initialized RJ10 ∈ lw_tbl := tb1 (ow1_0 (Cond.initialized RJ10) (List.mem_of_getElem? (i := 20) rfl))
theorem ini_J1 : Cond.initialized RJ1 ∈ lw_tbl := tb1 (ow1_0 (Cond.initialized RJ1) (List.mem_of_getElem? (i := 21) rfl))
theorem ini_J3 : Cond.initialized RJ3 ∈ lw_tbl := tb1 (ow1_0 (Cond.initialized RJ3) (List.mem_of_getElem? (i := 22) rfl))
theorem ini_J6 : Cond.initialized RJ6 ∈ lw_tbl := tb1 (ow1_0 (Cond.initialized RJ6) (List.mem_of_getElem? (i := 23) rfl))
theorem ini_J11 : Cond.initialized RJ11 ∈ lw_tbl := tb1 (ow1_0 (Cond.initialized RJ11) (List.mem_of_getElem? (i := 24) rfl))
theorem cl_L_8 : Cond.classLink RL 8 "Carryfree" ∈ lw_tbl := tb1 (ow1_0 (Cond.classLink RL 8 "Carryfree") (List.mem_of_getElem? (i := 25) rfl))
theorem ml_L_166 : Cond.methodLink RL 166 yX3_init ∈ lw_tbl := tb1 (ow1_0 (Cond.methodLink RL 166 yX3_init) (List.mem_of_getElem? (i := 26) rfl))
theorem fl_X3_9 : Cond.fieldLink RX3 9 "Carryfree" "cells" "[J" ∈ lw_tbl := tb1 (ow1_0 (Cond.fieldLink RX3 9 "Carryfree" "cells" "[J") (List.mem_of_getElem? (i := 27) rfl))
theorem fl_X3_13 : Cond.fieldLink RX3 13 "Carryfree" "acts" "I" ∈ lw_tbl := tb1 (ow1_0 (Cond.fieldLink RX3 13 "Carryfree" "acts" "I") (List.mem_of_getElem? (i := 28) rfl))
theorem fl_X3_17 : Cond.fieldLink RX3 17 "Carryfree" "refusals" "I" ∈ lw_tbl := tb1 (ow1_0 (Cond.fieldLink RX3 17 "Carryfree" "refusals" "I") (List.mem_of_getElem? (i := 29) rfl))
theorem fl_X3_20 : Cond.fieldLink RX3 20 "Carryfree" "knocks" "I" ∈ lw_tbl := tb1 (ow1_0 (Cond.fieldLink RX3 20 "Carryfree" "knocks" "I") (List.mem_of_getElem? (i := 30) rfl))
theorem ac_long : Cond.arrayClass .long ∈ lw_tbl := tb1 (ow1_0 (Cond.arrayClass .long) (List.mem_of_getElem? (i := 31) rfl))
theorem ml_L_312 : Cond.methodLink RL 312 yX3_knock ∈ lw_tbl := tb1 (ow1_0 (Cond.methodLink RL 312 yX3_knock) (List.mem_of_getElem? (i := 32) rfl))
theorem ml_L_317 : Cond.methodLink RL 317 yX3_isSound ∈ lw_tbl := tb1 (ow1_0 (Cond.methodLink RL 317 yX3_isSound) (List.mem_of_getElem? (i := 33) rfl))
theorem ml_X3_69 : Cond.methodLink RX3 69 yX1_topPlace ∈ lw_tbl := tb1 (ow1_0 (Cond.methodLink RX3 69 yX1_topPlace) (List.mem_of_getElem? (i := 34) rfl))
theorem ml_X3_122 : Cond.methodLink RX3 122 yX1_bottomPlace ∈ lw_tbl := tb1 (ow1_0 (Cond.methodLink RX3 122 yX1_bottomPlace) (List.mem_of_getElem? (i := 35) rfl))
theorem ml_X1_11 : Cond.methodLink RX1 11 yX1_hasOne ∈ lw_tbl := tb1 (ow1_0 (Cond.methodLink RX1 11 yX1_hasOne) (List.mem_of_getElem? (i := 36) rfl))
theorem ml_X3_43 : Cond.methodLink RX3 43 yX3_polyIn ∈ lw_tbl := tb1 (ow1_0 (Cond.methodLink RX3 43 yX3_polyIn) (List.mem_of_getElem? (i := 37) rfl))
theorem ml_X3_23 : Cond.methodLink RX3 23 yX3_checkCell ∈ lw_tbl := tb1 (ow1_0 (Cond.methodLink RX3 23 yX3_checkCell) (List.mem_of_getElem? (i := 38) rfl))
theorem cl_X3_203 : Cond.classLink RX3 203 "java/lang/IndexOutOfBoundsException" ∈ lw_tbl := tb1 (ow1_0 (Cond.classLink RX3 203 "java/lang/IndexOutOfBoundsException") (List.mem_of_getElem? (i := 39) rfl))
theorem ac_byte : Cond.arrayClass .byte ∈ lw_tbl := tb1 (ow1_0 (Cond.arrayClass .byte) (List.mem_of_getElem? (i := 40) rfl))
theorem ml_X3_86 : Cond.methodLink RX3 86 yX1_firstBezout ∈ lw_tbl := tb1 (ow1_0 (Cond.methodLink RX3 86 yX1_firstBezout) (List.mem_of_getElem? (i := 41) rfl))
theorem ml_X1_35 : Cond.methodLink RX1 35 yX1_euclid ∈ lw_tbl := tb1 (ow1_0 (Cond.methodLink RX1 35 yX1_euclid) (List.mem_of_getElem? (i := 42) rfl))
theorem ml_X1_25 : Cond.methodLink RX1 25 yX1_quotientOf ∈ lw_tbl := tb1 (ow1_0 (Cond.methodLink RX1 25 yX1_quotientOf) (List.mem_of_getElem? (i := 43) rfl))
theorem ml_X1_17 : Cond.methodLink RX1 17 yX1_topPlace ∈ lw_tbl := tb1 (ow1_0 (Cond.methodLink RX1 17 yX1_topPlace) (List.mem_of_getElem? (i := 44) rfl))
theorem ml_X1_21 : Cond.methodLink RX1 21 yX1_single ∈ lw_tbl := tb1 (ow1_0 (Cond.methodLink RX1 21 yX1_single) (List.mem_of_getElem? (i := 45) rfl))
theorem ml_X1_29 : Cond.methodLink RX1 29 yX1_product ∈ lw_tbl := tb1 (ow1_0 (Cond.methodLink RX1 29 yX1_product) (List.mem_of_getElem? (i := 46) rfl))
theorem ml_X3_169 : Cond.methodLink RX3 169 yX1_product ∈ lw_tbl := tb1 (ow1_0 (Cond.methodLink RX3 169 yX1_product) (List.mem_of_getElem? (i := 47) rfl))
theorem ml_X3_89 : Cond.methodLink RX3 89 yX1_secondBezout ∈ lw_tbl := tb1 (ow1_0 (Cond.methodLink RX3 89 yX1_secondBezout) (List.mem_of_getElem? (i := 48) rfl))
theorem ml_X3_83 : Cond.methodLink RX3 83 yX1_gcdOf ∈ lw_tbl := tb1 (ow1_0 (Cond.methodLink RX3 83 yX1_gcdOf) (List.mem_of_getElem? (i := 49) rfl))
theorem ml_L_322 : Cond.methodLink RL 322 yX3_digest ∈ lw_tbl := tb1 (ow1_1 (Cond.methodLink RL 322 yX3_digest) (List.mem_of_getElem? (i := 0) rfl))
theorem kl_X3_172 : Cond.constantLong RX3 172 (7686) ∈ lw_tbl := tb1 (ow1_1 (Cond.constantLong RX3 172 (7686)) (List.mem_of_getElem? (i := 1) rfl))
theorem kl_X3_174 : Cond.constantLong RX3 174 (31) ∈ lw_tbl := tb1 (ow1_1 (Cond.constantLong RX3 174 (31)) (List.mem_of_getElem? (i := 2) rfl))
theorem ml_X3_176 : Cond.methodLink RX3 176 yX3_digits ∈ lw_tbl := tb1 (ow1_1 (Cond.methodLink RX3 176 yX3_digits) (List.mem_of_getElem? (i := 3) rfl))
theorem ml_X3_179 : Cond.methodLink RX3 179 yX3_degree ∈ lw_tbl := tb1 (ow1_1 (Cond.methodLink RX3 179 yX3_degree) (List.mem_of_getElem? (i := 4) rfl))
theorem ml_X3_182 : Cond.methodLink RX3 182 yX3_low ∈ lw_tbl := tb1 (ow1_1 (Cond.methodLink RX3 182 yX3_low) (List.mem_of_getElem? (i := 5) rfl))
theorem ml_X3_185 : Cond.methodLink RX3 185 yX3_weight ∈ lw_tbl := tb1 (ow1_1 (Cond.methodLink RX3 185 yX3_weight) (List.mem_of_getElem? (i := 6) rfl))
theorem ml_X3_125 : Cond.methodLink RX3 125 yJ13_bitCount_95d88 ∈ lw_tbl := tb1 (ow1_1 (Cond.methodLink RX3 125 yJ13_bitCount_95d88) (List.mem_of_getElem? (i := 7) rfl))
theorem kl_J13_314 : Cond.constantLong RJ13 314 (6148914691236517205) ∈ lw_tbl := tb1 (ow1_1 (Cond.constantLong RJ13 314 (6148914691236517205)) (List.mem_of_getElem? (i := 8) rfl))
theorem kl_J13_316 : Cond.constantLong RJ13 316 (3689348814741910323) ∈ lw_tbl := tb1 (ow1_1 (Cond.constantLong RJ13 316 (3689348814741910323)) (List.mem_of_getElem? (i := 9) rfl))
theorem kl_J13_318 : Cond.constantLong RJ13 318 (1085102592571150095) ∈ lw_tbl := tb1 (ow1_1 (Cond.constantLong RJ13 318 (1085102592571150095)) (List.mem_of_getElem? (i := 10) rfl))
theorem ml_X3_188 : Cond.methodLink RX3 188 yX3_find ∈ lw_tbl := tb1 (ow1_1 (Cond.methodLink RX3 188 yX3_find) (List.mem_of_getElem? (i := 11) rfl))
theorem ml_X3_192 : Cond.methodLink RX3 192 yX3_order ∈ lw_tbl := tb1 (ow1_1 (Cond.methodLink RX3 192 yX3_order) (List.mem_of_getElem? (i := 12) rfl))
theorem ml_X3_196 : Cond.methodLink RX3 196 yX3_house ∈ lw_tbl := tb1 (ow1_1 (Cond.methodLink RX3 196 yX3_house) (List.mem_of_getElem? (i := 13) rfl))
theorem ml_X3_33 : Cond.methodLink RX3 33 yX3_checkRange ∈ lw_tbl := tb1 (ow1_1 (Cond.methodLink RX3 33 yX3_checkRange) (List.mem_of_getElem? (i := 14) rfl))
theorem cl_X3_210 : Cond.classLink RX3 210 "java/lang/IllegalArgumentException" ∈ lw_tbl := tb1 (ow1_1 (Cond.classLink RX3 210 "java/lang/IllegalArgumentException") (List.mem_of_getElem? (i := 15) rfl))
theorem ml_X3_163 : Cond.methodLink RX3 163 yX3_cellsWithZero ∈ lw_tbl := tb1 (ow1_1 (Cond.methodLink RX3 163 yX3_cellsWithZero) (List.mem_of_getElem? (i := 16) rfl))
theorem ml_X3_166 : Cond.methodLink RX3 166 yX3_allWeights ∈ lw_tbl := tb1 (ow1_1 (Cond.methodLink RX3 166 yX3_allWeights) (List.mem_of_getElem? (i := 17) rfl))
theorem ml_X3_199 : Cond.methodLink RX3 199 yX3_isSound ∈ lw_tbl := tb1 (ow1_1 (Cond.methodLink RX3 199 yX3_isSound) (List.mem_of_getElem? (i := 18) rfl))
theorem cl_L_14 : Cond.classLink RL 14 "CarryfreeLaw$Out" ∈ lw_tbl := tb1 (ow1_1 (Cond.classLink RL 14 "CarryfreeLaw$Out") (List.mem_of_getElem? (i := 19) rfl))
theorem ml_L_171 : Cond.methodLink RL 171 yL_put ∈ lw_tbl := tb2 (ow2_0 (Cond.methodLink RL 171 yL_put) (List.mem_of_getElem? (i := 0) rfl))
theorem cl_L_19 : Cond.classLink RL 19 "java/lang/IndexOutOfBoundsException" ∈ lw_tbl := tb2 (ow2_0 (Cond.classLink RL 19 "java/lang/IndexOutOfBoundsException") (List.mem_of_getElem? (i := 1) rfl))
theorem ml_L_7 : Cond.methodLink RL 7 yX3_put ∈ lw_tbl := tb2 (ow2_0 (Cond.methodLink RL 7 yX3_put) (List.mem_of_getElem? (i := 2) rfl))
theorem kl_X3_27 : Cond.constantLong RX3 27 (4294967295) ∈ lw_tbl := tb2 (ow2_0 (Cond.constantLong RX3 27 (4294967295)) (List.mem_of_getElem? (i := 3) rfl))
theorem ml_X3_29 : Cond.methodLink RX3 29 yX3_fill ∈ lw_tbl := tb2 (ow2_0 (Cond.methodLink RX3 29 yX3_fill) (List.mem_of_getElem? (i := 4) rfl))
theorem ml_L_177 : Cond.methodLink RL 177 yL_mono ∈ lw_tbl := tb2 (ow2_0 (Cond.methodLink RL 177 yL_mono) (List.mem_of_getElem? (i := 5) rfl))
theorem cl_L_24 : Cond.classLink RL 24 "java/lang/IllegalArgumentException" ∈ lw_tbl := tb2 (ow2_0 (Cond.classLink RL 24 "java/lang/IllegalArgumentException") (List.mem_of_getElem? (i := 6) rfl))
theorem ml_L_21 : Cond.methodLink RL 21 yX3_mono ∈ lw_tbl := tb2 (ow2_0 (Cond.methodLink RL 21 yX3_mono) (List.mem_of_getElem? (i := 7) rfl))
theorem ml_X3_37 : Cond.methodLink RX3 37 yX1_single ∈ lw_tbl := tb2 (ow2_0 (Cond.methodLink RX3 37 yX1_single) (List.mem_of_getElem? (i := 8) rfl))
theorem ml_L_180 : Cond.methodLink RL 180 yL_digit ∈ lw_tbl := tb2 (ow2_0 (Cond.methodLink RL 180 yL_digit) (List.mem_of_getElem? (i := 9) rfl))
theorem ml_L_26 : Cond.methodLink RL 26 yX3_digit ∈ lw_tbl := tb2 (ow2_0 (Cond.methodLink RL 26 yX3_digit) (List.mem_of_getElem? (i := 10) rfl))
theorem kl_X3_46 : Cond.constantLong RX3 46 (-1) ∈ lw_tbl := tb2 (ow2_0 (Cond.constantLong RX3 46 (-1)) (List.mem_of_getElem? (i := 11) rfl))
theorem ml_X3_48 : Cond.methodLink RX3 48 yX1_hasOne ∈ lw_tbl := tb2 (ow2_0 (Cond.methodLink RX3 48 yX1_hasOne) (List.mem_of_getElem? (i := 12) rfl))
theorem ml_L_184 : Cond.methodLink RL 184 yL_flip ∈ lw_tbl := tb2 (ow2_0 (Cond.methodLink RL 184 yL_flip) (List.mem_of_getElem? (i := 13) rfl))
theorem ml_L_30 : Cond.methodLink RL 30 yX3_flip ∈ lw_tbl := tb2 (ow2_0 (Cond.methodLink RL 30 yX3_flip) (List.mem_of_getElem? (i := 14) rfl))
theorem ml_L_187 : Cond.methodLink RL 187 yL_copy ∈ lw_tbl := tb2 (ow2_0 (Cond.methodLink RL 187 yL_copy) (List.mem_of_getElem? (i := 15) rfl))
theorem ml_L_34 : Cond.methodLink RL 34 yX3_copy ∈ lw_tbl := tb2 (ow2_0 (Cond.methodLink RL 34 yX3_copy) (List.mem_of_getElem? (i := 16) rfl))
theorem ml_L_190 : Cond.methodLink RL 190 yL_swap ∈ lw_tbl := tb2 (ow2_0 (Cond.methodLink RL 190 yL_swap) (List.mem_of_getElem? (i := 17) rfl))
theorem ml_L_37 : Cond.methodLink RL 37 yX3_swap ∈ lw_tbl := tb2 (ow2_0 (Cond.methodLink RL 37 yX3_swap) (List.mem_of_getElem? (i := 18) rfl))
theorem ml_L_193 : Cond.methodLink RL 193 yL_end ∈ lw_tbl := tb2 (ow2_0 (Cond.methodLink RL 193 yL_end) (List.mem_of_getElem? (i := 19) rfl))
theorem ml_L_40 : Cond.methodLink RL 40 yX3_end ∈ lw_tbl := tb2 (ow2_0 (Cond.methodLink RL 40 yX3_end) (List.mem_of_getElem? (i := 20) rfl))
theorem ml_X3_52 : Cond.methodLink RX3 52 yJ9_max_f86c9 ∈ lw_tbl := tb2 (ow2_0 (Cond.methodLink RX3 52 yJ9_max_f86c9) (List.mem_of_getElem? (i := 21) rfl))
theorem ml_X3_58 : Cond.methodLink RX3 58 yJ9_min_f86c9 ∈ lw_tbl := tb2 (ow2_0 (Cond.methodLink RX3 58 yJ9_min_f86c9) (List.mem_of_getElem? (i := 22) rfl))
theorem ml_L_197 : Cond.methodLink RL 197 yL_join ∈ lw_tbl := tb2 (ow2_0 (Cond.methodLink RL 197 yL_join) (List.mem_of_getElem? (i := 23) rfl))
theorem ml_L_44 : Cond.methodLink RL 44 yX3_join ∈ lw_tbl := tb2 (ow2_0 (Cond.methodLink RL 44 yX3_join) (List.mem_of_getElem? (i := 24) rfl))
theorem ml_X3_61 : Cond.methodLink RX3 61 yX1_joined ∈ lw_tbl := tb2 (ow2_0 (Cond.methodLink RX3 61 yX1_joined) (List.mem_of_getElem? (i := 25) rfl))
theorem kl_X1_15 : Cond.constantLong RX1 15 (-1) ∈ lw_tbl := tb2 (ow2_0 (Cond.constantLong RX1 15 (-1)) (List.mem_of_getElem? (i := 26) rfl))
theorem ml_L_201 : Cond.methodLink RL 201 yL_times ∈ lw_tbl := tb2 (ow2_0 (Cond.methodLink RL 201 yL_times) (List.mem_of_getElem? (i := 27) rfl))
theorem ml_L_48 : Cond.methodLink RL 48 yX3_times ∈ lw_tbl := tb2 (ow2_0 (Cond.methodLink RL 48 yX3_times) (List.mem_of_getElem? (i := 28) rfl))
theorem ml_X3_65 : Cond.methodLink RX3 65 yX3_fillProduct ∈ lw_tbl := tb2 (ow2_0 (Cond.methodLink RX3 65 yX3_fillProduct) (List.mem_of_getElem? (i := 29) rfl))
theorem ml_X3_73 : Cond.methodLink RX3 73 yX3_refuse ∈ lw_tbl := tb2 (ow2_0 (Cond.methodLink RX3 73 yX3_refuse) (List.mem_of_getElem? (i := 30) rfl))
theorem ml_L_205 : Cond.methodLink RL 205 yL_square ∈ lw_tbl := tb2 (ow2_0 (Cond.methodLink RL 205 yL_square) (List.mem_of_getElem? (i := 31) rfl))
theorem ml_L_52 : Cond.methodLink RL 52 yX3_square ∈ lw_tbl := tb2 (ow2_0 (Cond.methodLink RL 52 yX3_square) (List.mem_of_getElem? (i := 32) rfl))
theorem ml_L_208 : Cond.methodLink RL 208 yL_shift ∈ lw_tbl := tb2 (ow2_0 (Cond.methodLink RL 208 yL_shift) (List.mem_of_getElem? (i := 33) rfl))
theorem ml_L_55 : Cond.methodLink RL 55 yX3_shift ∈ lw_tbl := tb2 (ow2_0 (Cond.methodLink RL 55 yX3_shift) (List.mem_of_getElem? (i := 34) rfl))
theorem ml_L_211 : Cond.methodLink RL 211 yL_quotient ∈ lw_tbl := tb2 (ow2_0 (Cond.methodLink RL 211 yL_quotient) (List.mem_of_getElem? (i := 35) rfl))
theorem ml_L_58 : Cond.methodLink RL 58 yX3_quotient ∈ lw_tbl := tb2 (ow2_0 (Cond.methodLink RL 58 yX3_quotient) (List.mem_of_getElem? (i := 36) rfl))
theorem ml_X3_77 : Cond.methodLink RX3 77 yX1_quotientOf ∈ lw_tbl := tb2 (ow2_0 (Cond.methodLink RX3 77 yX1_quotientOf) (List.mem_of_getElem? (i := 37) rfl))
theorem ml_L_214 : Cond.methodLink RL 214 yL_rest ∈ lw_tbl := tb2 (ow2_0 (Cond.methodLink RL 214 yL_rest) (List.mem_of_getElem? (i := 38) rfl))
theorem ml_L_61 : Cond.methodLink RL 61 yX3_rest ∈ lw_tbl := tb2 (ow2_0 (Cond.methodLink RL 61 yX3_rest) (List.mem_of_getElem? (i := 39) rfl))
theorem ml_X3_80 : Cond.methodLink RX3 80 yX1_restOf ∈ lw_tbl := tb2 (ow2_0 (Cond.methodLink RX3 80 yX1_restOf) (List.mem_of_getElem? (i := 40) rfl))
theorem ml_L_217 : Cond.methodLink RL 217 yL_gcd ∈ lw_tbl := tb2 (ow2_0 (Cond.methodLink RL 217 yL_gcd) (List.mem_of_getElem? (i := 41) rfl))
theorem ml_L_64 : Cond.methodLink RL 64 yX3_gcd ∈ lw_tbl := tb2 (ow2_0 (Cond.methodLink RL 64 yX3_gcd) (List.mem_of_getElem? (i := 42) rfl))
theorem ml_L_220 : Cond.methodLink RL 220 yL_lcm ∈ lw_tbl := tb2 (ow2_0 (Cond.methodLink RL 220 yL_lcm) (List.mem_of_getElem? (i := 43) rfl))
theorem ml_L_67 : Cond.methodLink RL 67 yX3_lcm ∈ lw_tbl := tb2 (ow2_0 (Cond.methodLink RL 67 yX3_lcm) (List.mem_of_getElem? (i := 44) rfl))
theorem ml_L_223 : Cond.methodLink RL 223 yL_bezout ∈ lw_tbl := tb2 (ow2_0 (Cond.methodLink RL 223 yL_bezout) (List.mem_of_getElem? (i := 45) rfl))
theorem ml_L_70 : Cond.methodLink RL 70 yX3_bezout ∈ lw_tbl := tb2 (ow2_0 (Cond.methodLink RL 70 yX3_bezout) (List.mem_of_getElem? (i := 46) rfl))
theorem ml_L_226 : Cond.methodLink RL 226 yL_derive ∈ lw_tbl := tb2 (ow2_0 (Cond.methodLink RL 226 yL_derive) (List.mem_of_getElem? (i := 47) rfl))
theorem ml_L_73 : Cond.methodLink RL 73 yX3_derive ∈ lw_tbl := tb2 (ow2_0 (Cond.methodLink RL 73 yX3_derive) (List.mem_of_getElem? (i := 48) rfl))
theorem ml_X3_92 : Cond.methodLink RX3 92 yX1_derived ∈ lw_tbl := tb2 (ow2_0 (Cond.methodLink RX3 92 yX1_derived) (List.mem_of_getElem? (i := 49) rfl))
theorem kl_X1_39 : Cond.constantLong RX1 39 (6148914691236517205) ∈ lw_tbl := tb2 (ow2_1 (Cond.constantLong RX1 39 (6148914691236517205)) (List.mem_of_getElem? (i := 0) rfl))
theorem ml_L_229 : Cond.methodLink RL 229 yL_root ∈ lw_tbl := tb2 (ow2_1 (Cond.methodLink RL 229 yL_root) (List.mem_of_getElem? (i := 1) rfl))
theorem ml_L_76 : Cond.methodLink RL 76 yX3_root ∈ lw_tbl := tb2 (ow2_1 (Cond.methodLink RL 76 yX3_root) (List.mem_of_getElem? (i := 2) rfl))
theorem ml_X3_96 : Cond.methodLink RX3 96 yX1_evenPlacesHalved ∈ lw_tbl := tb2 (ow2_1 (Cond.methodLink RX3 96 yX1_evenPlacesHalved) (List.mem_of_getElem? (i := 3) rfl))
theorem ml_L_232 : Cond.methodLink RL 232 yL_turn ∈ lw_tbl := tb2 (ow2_1 (Cond.methodLink RL 232 yL_turn) (List.mem_of_getElem? (i := 4) rfl))
theorem ml_L_79 : Cond.methodLink RL 79 yX3_turn ∈ lw_tbl := tb2 (ow2_1 (Cond.methodLink RL 79 yX3_turn) (List.mem_of_getElem? (i := 5) rfl))
theorem ml_X3_99 : Cond.methodLink RX3 99 yX1_turned ∈ lw_tbl := tb2 (ow2_1 (Cond.methodLink RX3 99 yX1_turned) (List.mem_of_getElem? (i := 6) rfl))
theorem ml_L_235 : Cond.methodLink RL 235 yL_move ∈ lw_tbl := tb2 (ow2_1 (Cond.methodLink RL 235 yL_move) (List.mem_of_getElem? (i := 7) rfl))
theorem ml_L_82 : Cond.methodLink RL 82 yX3_move ∈ lw_tbl := tb2 (ow2_1 (Cond.methodLink RL 82 yX3_move) (List.mem_of_getElem? (i := 8) rfl))
theorem ml_X3_102 : Cond.methodLink RX3 102 yX1_moved ∈ lw_tbl := tb2 (ow2_1 (Cond.methodLink RX3 102 yX1_moved) (List.mem_of_getElem? (i := 9) rfl))
theorem ml_L_238 : Cond.methodLink RL 238 yL_power ∈ lw_tbl := tb2 (ow2_1 (Cond.methodLink RL 238 yL_power) (List.mem_of_getElem? (i := 10) rfl))
theorem ml_L_85 : Cond.methodLink RL 85 yX3_power ∈ lw_tbl := tb2 (ow2_1 (Cond.methodLink RL 85 yX3_power) (List.mem_of_getElem? (i := 11) rfl))
theorem ml_X3_105 : Cond.methodLink RX3 105 yX3_hasDegreeIn ∈ lw_tbl := tb2 (ow2_1 (Cond.methodLink RX3 105 yX3_hasDegreeIn) (List.mem_of_getElem? (i := 12) rfl))
theorem ml_X3_109 : Cond.methodLink RX3 109 yX1_powerRest ∈ lw_tbl := tb2 (ow2_1 (Cond.methodLink RX3 109 yX1_powerRest) (List.mem_of_getElem? (i := 13) rfl))
theorem ml_X1_32 : Cond.methodLink RX1 32 yX1_restOf ∈ lw_tbl := tb2 (ow2_1 (Cond.methodLink RX1 32 yX1_restOf) (List.mem_of_getElem? (i := 14) rfl))
theorem ml_L_241 : Cond.methodLink RL 241 yL_nth ∈ lw_tbl := tb2 (ow2_1 (Cond.methodLink RL 241 yL_nth) (List.mem_of_getElem? (i := 15) rfl))
theorem ml_L_88 : Cond.methodLink RL 88 yX3_nth ∈ lw_tbl := tb2 (ow2_1 (Cond.methodLink RL 88 yX3_nth) (List.mem_of_getElem? (i := 16) rfl))
theorem ml_X3_113 : Cond.methodLink RX3 113 yX0_withRank ∈ lw_tbl := tb2 (ow2_1 (Cond.methodLink RX3 113 yX0_withRank) (List.mem_of_getElem? (i := 17) rfl))
theorem ml_X0_15 : Cond.methodLink RX0 15 yX1_single ∈ lw_tbl := tb2 (ow2_1 (Cond.methodLink RX0 15 yX1_single) (List.mem_of_getElem? (i := 18) rfl))
theorem ml_X0_25 : Cond.methodLink RX0 25 yX0_isOne ∈ lw_tbl := tb2 (ow2_1 (Cond.methodLink RX0 25 yX0_isOne) (List.mem_of_getElem? (i := 19) rfl))
theorem ml_X0_9 : Cond.methodLink RX0 9 yX1_topPlace ∈ lw_tbl := tb2 (ow2_1 (Cond.methodLink RX0 9 yX1_topPlace) (List.mem_of_getElem? (i := 20) rfl))
theorem kl_X0_19 : Cond.constantLong RX0 19 (2) ∈ lw_tbl := tb2 (ow2_1 (Cond.constantLong RX0 19 (2)) (List.mem_of_getElem? (i := 21) rfl))
theorem ml_X0_21 : Cond.methodLink RX0 21 yX1_isDivisor ∈ lw_tbl := tb2 (ow2_1 (Cond.methodLink RX0 21 yX1_isDivisor) (List.mem_of_getElem? (i := 22) rfl))
theorem ml_L_244 : Cond.methodLink RL 244 yL_field ∈ lw_tbl := tb2 (ow2_1 (Cond.methodLink RL 244 yL_field) (List.mem_of_getElem? (i := 23) rfl))
theorem ml_L_91 : Cond.methodLink RL 91 yX3_field ∈ lw_tbl := tb2 (ow2_1 (Cond.methodLink RL 91 yX3_field) (List.mem_of_getElem? (i := 24) rfl))
theorem ml_X3_119 : Cond.methodLink RX3 119 yX0_productForDivisors ∈ lw_tbl := tb2 (ow2_1 (Cond.methodLink RX3 119 yX0_productForDivisors) (List.mem_of_getElem? (i := 25) rfl))
theorem ml_X0_31 : Cond.methodLink RX0 31 yX0_timesAllOf ∈ lw_tbl := tb2 (ow2_1 (Cond.methodLink RX0 31 yX0_timesAllOf) (List.mem_of_getElem? (i := 26) rfl))
theorem ml_X0_35 : Cond.methodLink RX0 35 yX1_product ∈ lw_tbl := tb2 (ow2_1 (Cond.methodLink RX0 35 yX1_product) (List.mem_of_getElem? (i := 27) rfl))
theorem ml_L_247 : Cond.methodLink RL 247 yL_again ∈ lw_tbl := tb2 (ow2_1 (Cond.methodLink RL 247 yL_again) (List.mem_of_getElem? (i := 28) rfl))
theorem ml_L_94 : Cond.methodLink RL 94 yX3_again ∈ lw_tbl := tb2 (ow2_1 (Cond.methodLink RL 94 yX3_again) (List.mem_of_getElem? (i := 29) rfl))
theorem ml_L_250 : Cond.methodLink RL 250 yL_degree ∈ lw_tbl := tb3 (ow3_0 (Cond.methodLink RL 250 yL_degree) (List.mem_of_getElem? (i := 0) rfl))
theorem ml_L_97 : Cond.methodLink RL 97 yX3_degree ∈ lw_tbl := tb3 (ow3_0 (Cond.methodLink RL 97 yX3_degree) (List.mem_of_getElem? (i := 1) rfl))
theorem ml_L_254 : Cond.methodLink RL 254 yL_low ∈ lw_tbl := tb3 (ow3_0 (Cond.methodLink RL 254 yL_low) (List.mem_of_getElem? (i := 2) rfl))
theorem ml_L_101 : Cond.methodLink RL 101 yX3_low ∈ lw_tbl := tb3 (ow3_0 (Cond.methodLink RL 101 yX3_low) (List.mem_of_getElem? (i := 3) rfl))
theorem ml_L_257 : Cond.methodLink RL 257 yL_weight ∈ lw_tbl := tb3 (ow3_0 (Cond.methodLink RL 257 yL_weight) (List.mem_of_getElem? (i := 4) rfl))
theorem ml_L_104 : Cond.methodLink RL 104 yX3_weight ∈ lw_tbl := tb3 (ow3_0 (Cond.methodLink RL 104 yX3_weight) (List.mem_of_getElem? (i := 5) rfl))
theorem ml_L_260 : Cond.methodLink RL 260 yL_at ∈ lw_tbl := tb3 (ow3_0 (Cond.methodLink RL 260 yL_at) (List.mem_of_getElem? (i := 6) rfl))
theorem ml_L_107 : Cond.methodLink RL 107 yX3_at ∈ lw_tbl := tb3 (ow3_0 (Cond.methodLink RL 107 yX3_at) (List.mem_of_getElem? (i := 7) rfl))
theorem ml_L_263 : Cond.methodLink RL 263 yL_digits ∈ lw_tbl := tb3 (ow3_0 (Cond.methodLink RL 263 yL_digits) (List.mem_of_getElem? (i := 8) rfl))
theorem ml_L_110 : Cond.methodLink RL 110 yX3_digits ∈ lw_tbl := tb3 (ow3_0 (Cond.methodLink RL 110 yX3_digits) (List.mem_of_getElem? (i := 9) rfl))
theorem ml_L_266 : Cond.methodLink RL 266 yL_text ∈ lw_tbl := tb3 (ow3_0 (Cond.methodLink RL 266 yL_text) (List.mem_of_getElem? (i := 10) rfl))
theorem ml_L_113 : Cond.methodLink RL 113 yX3_text ∈ lw_tbl := tb3 (ow3_0 (Cond.methodLink RL 113 yX3_text) (List.mem_of_getElem? (i := 11) rfl))
theorem ml_X3_130 : Cond.methodLink RX3 130 yX2_placesOf ∈ lw_tbl := tb3 (ow3_0 (Cond.methodLink RX3 130 yX2_placesOf) (List.mem_of_getElem? (i := 12) rfl))
theorem cl_X2_9 : Cond.classLink RX2 9 "java/lang/StringBuilder" ∈ lw_tbl := tb3 (ow3_0 (Cond.classLink RX2 9 "java/lang/StringBuilder") (List.mem_of_getElem? (i := 13) rfl))
theorem ml_X2_11 : Cond.methodLink RX2 11 yJ4_init_da8c8 ∈ lw_tbl := tb3 (ow3_0 (Cond.methodLink RX2 11 yJ4_init_da8c8) (List.mem_of_getElem? (i := 14) rfl))
theorem ml_J4_1 : Cond.methodLink RJ4 1 yJ5_init_d00df ∈ lw_tbl := tb3 (ow3_0 (Cond.methodLink RJ4 1 yJ5_init_d00df) (List.mem_of_getElem? (i := 15) rfl))
theorem fl_J5_18 : Cond.fieldLink RJ5 18 "java/lang/String" "COMPACT_STRINGS" "Z" ∈ lw_tbl := tb3 (ow3_0 (Cond.fieldLink RJ5 18 "java/lang/String" "COMPACT_STRINGS" "Z") (List.mem_of_getElem? (i := 16) rfl))
theorem ml_J5_26 : Cond.methodLink RJ5 26 yJ2_newBytesFor_77867 ∈ lw_tbl := tb3 (ow3_0 (Cond.methodLink RJ5 26 yJ2_newBytesFor_77867) (List.mem_of_getElem? (i := 17) rfl))
theorem ml_J2_11 : Cond.methodLink RJ2 11 yJ2_newBytesLength_0f7a4 ∈ lw_tbl := tb3 (ow3_0 (Cond.methodLink RJ2 11 yJ2_newBytesLength_0f7a4) (List.mem_of_getElem? (i := 18) rfl))
theorem fl_J5_15 : Cond.fieldLink RJ5 15 "java/lang/AbstractStringBuilder" "value" "[B" ∈ lw_tbl := tb3 (ow3_0 (Cond.fieldLink RJ5 15 "java/lang/AbstractStringBuilder" "value" "[B") (List.mem_of_getElem? (i := 19) rfl))
theorem fl_J5_22 : Cond.fieldLink RJ5 22 "java/lang/AbstractStringBuilder" "coder" "B" ∈ lw_tbl := tb3 (ow3_0 (Cond.fieldLink RJ5 22 "java/lang/AbstractStringBuilder" "coder" "B") (List.mem_of_getElem? (i := 20) rfl))
theorem fl_J0_1048 : Cond.fieldLink RJ0 1048 "java/lang/AbstractStringBuilder" "maybeLatin1" "Z" ∈ lw_tbl := tb3 (ow3_0 (Cond.fieldLink RJ0 1048 "java/lang/AbstractStringBuilder" "maybeLatin1" "Z") (List.mem_of_getElem? (i := 21) rfl))
theorem fl_J5_79 : Cond.fieldLink RJ5 79 "java/lang/AbstractStringBuilder" "count" "I" ∈ lw_tbl := tb3 (ow3_0 (Cond.fieldLink RJ5 79 "java/lang/AbstractStringBuilder" "count" "I") (List.mem_of_getElem? (i := 22) rfl))
theorem ml_X2_12 : Cond.methodLink RX2 12 yX1_topPlace ∈ lw_tbl := tb3 (ow3_0 (Cond.methodLink RX2 12 yX1_topPlace) (List.mem_of_getElem? (i := 23) rfl))
theorem ml_X2_18 : Cond.methodLink RX2 18 yX1_hasOne ∈ lw_tbl := tb3 (ow3_0 (Cond.methodLink RX2 18 yX1_hasOne) (List.mem_of_getElem? (i := 24) rfl))
theorem ml_X2_22 : Cond.methodLink RX2 22 yJ4_length_8abf5 ∈ lw_tbl := tb3 (ow3_0 (Cond.methodLink RX2 22 yJ4_length_8abf5) (List.mem_of_getElem? (i := 25) rfl))
theorem ml_J4_343 : Cond.methodLink RJ4 343 yJ5_length_8abf5 ∈ lw_tbl := tb3 (ow3_0 (Cond.methodLink RJ4 343 yJ5_length_8abf5) (List.mem_of_getElem? (i := 26) rfl))
theorem ml_X2_26 : Cond.methodLink RX2 26 yJ4_append_cf468 ∈ lw_tbl := tb3 (ow3_0 (Cond.methodLink RX2 26 yJ4_append_cf468) (List.mem_of_getElem? (i := 27) rfl))
theorem ml_J4_50 : Cond.methodLink RJ4 50 yJ5_append_3fe6f ∈ lw_tbl := tb3 (ow3_0 (Cond.methodLink RJ4 50 yJ5_append_3fe6f) (List.mem_of_getElem? (i := 28) rfl))
theorem ml_J5_100 : Cond.methodLink RJ5 100 yJ5_ensureCapacityInternal_d00df ∈ lw_tbl := tb3 (ow3_0 (Cond.methodLink RJ5 100 yJ5_ensureCapacityInternal_d00df) (List.mem_of_getElem? (i := 29) rfl))
theorem ml_J5_104 : Cond.methodLink RJ5 104 yJ5_newCapacity_0f7a4 ∈ lw_tbl := tb3 (ow3_0 (Cond.methodLink RJ5 104 yJ5_newCapacity_0f7a4) (List.mem_of_getElem? (i := 30) rfl))
theorem ml_J5_114 : Cond.methodLink RJ5 114 yJ8_newLength_cabcc ∈ lw_tbl := tb3 (ow3_0 (Cond.methodLink RJ5 114 yJ8_newLength_cabcc) (List.mem_of_getElem? (i := 31) rfl))
theorem ml_J8_194 : Cond.methodLink RJ8 194 yJ9_max_7cf53 ∈ lw_tbl := tb3 (ow3_0 (Cond.methodLink RJ8 194 yJ9_max_7cf53) (List.mem_of_getElem? (i := 32) rfl))
theorem ml_J8_201 : Cond.methodLink RJ8 201 yJ8_hugeLength_7cf53 ∈ lw_tbl := tb3 (ow3_0 (Cond.methodLink RJ8 201 yJ8_hugeLength_7cf53) (List.mem_of_getElem? (i := 33) rfl))
theorem ml_J5_108 : Cond.methodLink RJ5 108 yJ7_copyOf_9075b ∈ lw_tbl := tb3 (ow3_0 (Cond.methodLink RJ5 108 yJ7_copyOf_9075b) (List.mem_of_getElem? (i := 34) rfl))
theorem cl_J7_311 : Cond.classLink RJ7 311 "[B" ∈ lw_tbl := tb3 (ow3_0 (Cond.classLink RJ7 311 "[B") (List.mem_of_getElem? (i := 35) rfl))
theorem ml_J7_304 : Cond.methodLink RJ7 304 yJ9_min_7cf53 ∈ lw_tbl := tb3 (ow3_0 (Cond.methodLink RJ7 304 yJ9_min_7cf53) (List.mem_of_getElem? (i := 36) rfl))
theorem ml_J5_83 : Cond.methodLink RJ5 83 yJ5_isLatin1_aae02 ∈ lw_tbl := tb3 (ow3_0 (Cond.methodLink RJ5 83 yJ5_isLatin1_aae02) (List.mem_of_getElem? (i := 37) rfl))
theorem ml_J5_191 : Cond.methodLink RJ5 191 yJ1_canEncode_fc78d ∈ lw_tbl := tb3 (ow3_0 (Cond.methodLink RJ5 191 yJ1_canEncode_fc78d) (List.mem_of_getElem? (i := 38) rfl))
theorem ml_J5_195 : Cond.methodLink RJ5 195 yJ5_inflate_da8c8 ∈ lw_tbl := tb3 (ow3_0 (Cond.methodLink RJ5 195 yJ5_inflate_da8c8) (List.mem_of_getElem? (i := 39) rfl))
theorem ml_J5_125 : Cond.methodLink RJ5 125 yJ1_inflate_0e8fd ∈ lw_tbl := tb3 (ow3_0 (Cond.methodLink RJ5 125 yJ1_inflate_0e8fd) (List.mem_of_getElem? (i := 40) rfl))
theorem ml_J1_240 : Cond.methodLink RJ1 240 yJ2_inflate_0e8fd ∈ lw_tbl := tb3 (ow3_0 (Cond.methodLink RJ1 240 yJ2_inflate_0e8fd) (List.mem_of_getElem? (i := 41) rfl))
theorem ml_J2_173 : Cond.methodLink RJ2 173 yJ2_checkBoundsOffCount_d044e ∈ lw_tbl := tb3 (ow3_0 (Cond.methodLink RJ2 173 yJ2_checkBoundsOffCount_d044e) (List.mem_of_getElem? (i := 42) rfl))
theorem ml_J2_48 : Cond.methodLink RJ2 48 yJ2_length_9d52b ∈ lw_tbl := tb3 (ow3_0 (Cond.methodLink RJ2 48 yJ2_length_9d52b) (List.mem_of_getElem? (i := 43) rfl))
theorem ml_J2_419 : Cond.methodLink RJ2 419 yJ0_checkBoundsOffCount_cabcc ∈ lw_tbl := tb3 (ow3_0 (Cond.methodLink RJ2 419 yJ0_checkBoundsOffCount_cabcc) (List.mem_of_getElem? (i := 44) rfl))
theorem fl_J0_1053 : Cond.fieldLink RJ0 1053 "jdk/internal/util/Preconditions" "SIOOBE_FORMATTER" "Ljava/util/function/BiFunction;" ∈ lw_tbl := tb3 (ow3_0 (Cond.fieldLink RJ0 1053 "jdk/internal/util/Preconditions" "SIOOBE_FORMATTER" "Ljava/util/function/BiFunction;") (List.mem_of_getElem? (i := 45) rfl))
theorem ml_J0_1065 : Cond.methodLink RJ0 1065 yJ3_checkFromIndexSize_8c36e ∈ lw_tbl := tb3 (ow3_0 (Cond.methodLink RJ0 1065 yJ3_checkFromIndexSize_8c36e) (List.mem_of_getElem? (i := 46) rfl))
theorem ml_J2_111 : Cond.methodLink RJ2 111 yJ2_putChar_b72d1 ∈ lw_tbl := tb3 (ow3_0 (Cond.methodLink RJ2 111 yJ2_putChar_b72d1) (List.mem_of_getElem? (i := 47) rfl))
theorem fl_J2_44 : Cond.fieldLink RJ2 44 "java/lang/StringUTF16" "$assertionsDisabled" "Z" ∈ lw_tbl := tb3 (ow3_0 (Cond.fieldLink RJ2 44 "java/lang/StringUTF16" "$assertionsDisabled" "Z") (List.mem_of_getElem? (i := 48) rfl))
theorem fl_J2_59 : Cond.fieldLink RJ2 59 "java/lang/StringUTF16" "HI_BYTE_SHIFT" "I" ∈ lw_tbl := tb3 (ow3_0 (Cond.fieldLink RJ2 59 "java/lang/StringUTF16" "HI_BYTE_SHIFT" "I") (List.mem_of_getElem? (i := 49) rfl))
theorem fl_J2_63 : Cond.fieldLink RJ2 63 "java/lang/StringUTF16" "LO_BYTE_SHIFT" "I" ∈ lw_tbl := tb3 (ow3_1 (Cond.fieldLink RJ2 63 "java/lang/StringUTF16" "LO_BYTE_SHIFT" "I") (List.mem_of_getElem? (i := 0) rfl))
theorem ml_J5_197 : Cond.methodLink RJ5 197 yJ2_putCharSB_b72d1 ∈ lw_tbl := tb3 (ow3_1 (Cond.methodLink RJ5 197 yJ2_putCharSB_b72d1) (List.mem_of_getElem? (i := 1) rfl))
theorem ml_J2_67 : Cond.methodLink RJ2 67 yJ2_checkIndex_2214a ∈ lw_tbl := tb3 (ow3_1 (Cond.methodLink RJ2 67 yJ2_checkIndex_2214a) (List.mem_of_getElem? (i := 2) rfl))
theorem ml_J2_414 : Cond.methodLink RJ2 414 yJ0_checkIndex_df160 ∈ lw_tbl := tb3 (ow3_1 (Cond.methodLink RJ2 414 yJ0_checkIndex_df160) (List.mem_of_getElem? (i := 3) rfl))
theorem ml_J0_1059 : Cond.methodLink RJ0 1059 yJ3_checkIndex_8e157 ∈ lw_tbl := tb3 (ow3_1 (Cond.methodLink RJ0 1059 yJ3_checkIndex_8e157) (List.mem_of_getElem? (i := 4) rfl))
theorem ml_X2_30 : Cond.methodLink RX2 30 yJ4_append_bf812 ∈ lw_tbl := tb3 (ow3_1 (Cond.methodLink RX2 30 yJ4_append_bf812) (List.mem_of_getElem? (i := 5) rfl))
theorem ml_J4_53 : Cond.methodLink RJ4 53 yJ5_append_c97b9 ∈ lw_tbl := tb3 (ow3_1 (Cond.methodLink RJ4 53 yJ5_append_c97b9) (List.mem_of_getElem? (i := 6) rfl))
theorem ml_J5_245 : Cond.methodLink RJ5 245 yJ6_stringSize_0f7a4 ∈ lw_tbl := tb3 (ow3_1 (Cond.methodLink RJ5 245 yJ6_stringSize_0f7a4) (List.mem_of_getElem? (i := 7) rfl))
theorem ml_J5_248 : Cond.methodLink RJ5 248 yJ6_getChars_ba4f3 ∈ lw_tbl := tb3 (ow3_1 (Cond.methodLink RJ5 248 yJ6_getChars_ba4f3) (List.mem_of_getElem? (i := 8) rfl))
theorem fl_J6_83 : Cond.fieldLink RJ6 83 "java/lang/Integer" "DigitOnes" "[B" ∈ lw_tbl := tb3 (ow3_1 (Cond.fieldLink RJ6 83 "java/lang/Integer" "DigitOnes" "[B") (List.mem_of_getElem? (i := 9) rfl))
theorem fl_J6_87 : Cond.fieldLink RJ6 87 "java/lang/Integer" "DigitTens" "[B" ∈ lw_tbl := tb3 (ow3_1 (Cond.fieldLink RJ6 87 "java/lang/Integer" "DigitTens" "[B") (List.mem_of_getElem? (i := 10) rfl))
theorem ml_J5_251 : Cond.methodLink RJ5 251 yJ2_getChars_46870 ∈ lw_tbl := tb3 (ow3_1 (Cond.methodLink RJ5 251 yJ2_getChars_46870) (List.mem_of_getElem? (i := 11) rfl))
theorem ml_J2_96 : Cond.methodLink RJ2 96 yJ2_checkBoundsBeginEnd_d044e ∈ lw_tbl := tb3 (ow3_1 (Cond.methodLink RJ2 96 yJ2_checkBoundsBeginEnd_d044e) (List.mem_of_getElem? (i := 12) rfl))
theorem ml_J2_241 : Cond.methodLink RJ2 241 yJ0_checkBoundsBeginEnd_23922 ∈ lw_tbl := tb3 (ow3_1 (Cond.methodLink RJ2 241 yJ0_checkBoundsBeginEnd_23922) (List.mem_of_getElem? (i := 13) rfl))
theorem ml_J0_1062 : Cond.methodLink RJ0 1062 yJ3_checkFromToIndex_8c36e ∈ lw_tbl := tb3 (ow3_1 (Cond.methodLink RJ0 1062 yJ3_checkFromToIndex_8c36e) (List.mem_of_getElem? (i := 14) rfl))
theorem ml_J2_393 : Cond.methodLink RJ2 393 yJ2_getChars_ba4f3 ∈ lw_tbl := tb3 (ow3_1 (Cond.methodLink RJ2 393 yJ2_getChars_ba4f3) (List.mem_of_getElem? (i := 15) rfl))
theorem fl_J2_403 : Cond.fieldLink RJ2 403 "java/lang/Integer" "DigitOnes" "[B" ∈ lw_tbl := tb3 (ow3_1 (Cond.fieldLink RJ2 403 "java/lang/Integer" "DigitOnes" "[B") (List.mem_of_getElem? (i := 16) rfl))
theorem fl_J2_407 : Cond.fieldLink RJ2 407 "java/lang/Integer" "DigitTens" "[B" ∈ lw_tbl := tb3 (ow3_1 (Cond.fieldLink RJ2 407 "java/lang/Integer" "DigitTens" "[B") (List.mem_of_getElem? (i := 17) rfl))
theorem ml_X2_33 : Cond.methodLink RX2 33 yJ4_toString_0e30d ∈ lw_tbl := tb3 (ow3_1 (Cond.methodLink RX2 33 yJ4_toString_0e30d) (List.mem_of_getElem? (i := 18) rfl))
theorem cl_J4_18 : Cond.classLink RJ4 18 "java/lang/String" ∈ lw_tbl := tb3 (ow3_1 (Cond.classLink RJ4 18 "java/lang/String") (List.mem_of_getElem? (i := 19) rfl))
theorem ml_J4_137 : Cond.methodLink RJ4 137 yJ0_init_81219 ∈ lw_tbl := tb3 (ow3_1 (Cond.methodLink RJ4 137 yJ0_init_81219) (List.mem_of_getElem? (i := 20) rfl))
theorem ml_J0_489 : Cond.methodLink RJ0 489 yJ0_init_db425 ∈ lw_tbl := tb3 (ow3_1 (Cond.methodLink RJ0 489 yJ0_init_db425) (List.mem_of_getElem? (i := 21) rfl))
theorem ml_J0_552 : Cond.methodLink RJ0 552 yJ5_getValue_6d5f1 ∈ lw_tbl := tb3 (ow3_1 (Cond.methodLink RJ0 552 yJ5_getValue_6d5f1) (List.mem_of_getElem? (i := 22) rfl))
theorem ml_J0_549 : Cond.methodLink RJ0 549 yJ5_length_8abf5 ∈ lw_tbl := tb3 (ow3_1 (Cond.methodLink RJ0 549 yJ5_length_8abf5) (List.mem_of_getElem? (i := 23) rfl))
theorem ml_J0_1047 : Cond.methodLink RJ0 1047 yJ5_isLatin1_aae02 ∈ lw_tbl := tb3 (ow3_1 (Cond.methodLink RJ0 1047 yJ5_isLatin1_aae02) (List.mem_of_getElem? (i := 24) rfl))
theorem ml_J0_54 : Cond.methodLink RJ0 54 yJ7_copyOfRange_39247 ∈ lw_tbl := tb3 (ow3_1 (Cond.methodLink RJ0 54 yJ7_copyOfRange_39247) (List.mem_of_getElem? (i := 25) rfl))
theorem ml_J7_339 : Cond.methodLink RJ7 339 yJ7_copyOfRangeByte_39247 ∈ lw_tbl := tb3 (ow3_1 (Cond.methodLink RJ7 339 yJ7_copyOfRangeByte_39247) (List.mem_of_getElem? (i := 26) rfl))
theorem ml_J7_343 : Cond.methodLink RJ7 343 yJ7_checkLength_df160 ∈ lw_tbl := tb3 (ow3_1 (Cond.methodLink RJ7 343 yJ7_checkLength_df160) (List.mem_of_getElem? (i := 27) rfl))
theorem cl_J7_43 : Cond.classLink RJ7 43 "java/lang/IllegalArgumentException" ∈ lw_tbl := tb3 (ow3_1 (Cond.classLink RJ7 43 "java/lang/IllegalArgumentException") (List.mem_of_getElem? (i := 28) rfl))
theorem cl_J7_45 : Cond.classLink RJ7 45 "java/lang/StringBuilder" ∈ lw_tbl := tb3 (ow3_1 (Cond.classLink RJ7 45 "java/lang/StringBuilder") (List.mem_of_getElem? (i := 29) rfl))
theorem ml_J7_47 : Cond.methodLink RJ7 47 yJ4_init_da8c8 ∈ lw_tbl := tb3 (ow3_1 (Cond.methodLink RJ7 47 yJ4_init_da8c8) (List.mem_of_getElem? (i := 30) rfl))
theorem ml_J7_54 : Cond.methodLink RJ7 54 yJ4_append_bf812 ∈ lw_tbl := tb3 (ow3_1 (Cond.methodLink RJ7 54 yJ4_append_bf812) (List.mem_of_getElem? (i := 31) rfl))
theorem ml_J7_50 : Cond.methodLink RJ7 50 yJ4_append_15ec4 ∈ lw_tbl := tb3 (ow3_1 (Cond.methodLink RJ7 50 yJ4_append_15ec4) (List.mem_of_getElem? (i := 32) rfl))
theorem ml_J4_29 : Cond.methodLink RJ4 29 yJ5_append_cf1ce ∈ lw_tbl := tb4 (ow4_0 (Cond.methodLink RJ4 29 yJ5_append_cf1ce) (List.mem_of_getElem? (i := 0) rfl))
theorem ml_J5_204 : Cond.methodLink RJ5 204 yJ5_appendNull_278bc ∈ lw_tbl := tb4 (ow4_0 (Cond.methodLink RJ5 204 yJ5_appendNull_278bc) (List.mem_of_getElem? (i := 1) rfl))
theorem ml_J5_226 : Cond.methodLink RJ5 226 yJ2_putCharsAt_cd4e5 ∈ lw_tbl := tb4 (ow4_0 (Cond.methodLink RJ5 226 yJ2_putCharsAt_cd4e5) (List.mem_of_getElem? (i := 2) rfl))
theorem ml_J5_32 : Cond.methodLink RJ5 32 yJ0_length_8abf5 ∈ lw_tbl := tb4 (ow4_0 (Cond.methodLink RJ5 32 yJ0_length_8abf5) (List.mem_of_getElem? (i := 3) rfl))
theorem ml_J0_335 : Cond.methodLink RJ0 335 yJ0_coder_7d493 ∈ lw_tbl := tb4 (ow4_0 (Cond.methodLink RJ0 335 yJ0_coder_7d493) (List.mem_of_getElem? (i := 4) rfl))
theorem fl_J0_38 : Cond.fieldLink RJ0 38 "java/lang/String" "COMPACT_STRINGS" "Z" ∈ lw_tbl := tb4 (ow4_0 (Cond.fieldLink RJ0 38 "java/lang/String" "COMPACT_STRINGS" "Z") (List.mem_of_getElem? (i := 5) rfl))
theorem ml_J5_208 : Cond.methodLink RJ5 208 yJ5_putStringAt_47b60 ∈ lw_tbl := tb4 (ow4_0 (Cond.methodLink RJ5 208 yJ5_putStringAt_47b60) (List.mem_of_getElem? (i := 6) rfl))
theorem ml_J5_397 : Cond.methodLink RJ5 397 yJ5_inflateIfNeededFor_a7421 ∈ lw_tbl := tb4 (ow4_0 (Cond.methodLink RJ5 397 yJ5_inflateIfNeededFor_a7421) (List.mem_of_getElem? (i := 7) rfl))
theorem ml_J5_40 : Cond.methodLink RJ5 40 yJ0_coder_7d493 ∈ lw_tbl := tb4 (ow4_0 (Cond.methodLink RJ5 40 yJ0_coder_7d493) (List.mem_of_getElem? (i := 8) rfl))
theorem ml_J5_399 : Cond.methodLink RJ5 399 yJ0_getBytes_840e7 ∈ lw_tbl := tb4 (ow4_0 (Cond.methodLink RJ5 399 yJ0_getBytes_840e7) (List.mem_of_getElem? (i := 9) rfl))
theorem ml_J0_106 : Cond.methodLink RJ0 106 yJ1_inflate_0e8fd ∈ lw_tbl := tb4 (ow4_0 (Cond.methodLink RJ0 106 yJ1_inflate_0e8fd) (List.mem_of_getElem? (i := 10) rfl))
theorem ml_J7_61 : Cond.methodLink RJ7 61 yJ4_toString_0e30d ∈ lw_tbl := tb4 (ow4_0 (Cond.methodLink RJ7 61 yJ4_toString_0e30d) (List.mem_of_getElem? (i := 11) rfl))
theorem ml_J0_1051 : Cond.methodLink RJ0 1051 yJ2_compress_39247 ∈ lw_tbl := tb4 (ow4_0 (Cond.methodLink RJ0 1051 yJ2_compress_39247) (List.mem_of_getElem? (i := 12) rfl))
theorem ml_J2_123 : Cond.methodLink RJ2 123 yJ2_compress_5af95 ∈ lw_tbl := tb4 (ow4_0 (Cond.methodLink RJ2 123 yJ2_compress_5af95) (List.mem_of_getElem? (i := 13) rfl))
theorem ml_J2_71 : Cond.methodLink RJ2 71 yJ2_getChar_3b067 ∈ lw_tbl := tb4 (ow4_0 (Cond.methodLink RJ2 71 yJ2_getChar_3b067) (List.mem_of_getElem? (i := 14) rfl))
theorem ml_J2_126 : Cond.methodLink RJ2 126 yJ7_copyOfRange_39247 ∈ lw_tbl := tb4 (ow4_0 (Cond.methodLink RJ2 126 yJ7_copyOfRange_39247) (List.mem_of_getElem? (i := 15) rfl))
theorem ml_J0_47 : Cond.methodLink RJ0 47 yJ2_coderFromArrayLen_85cad ∈ lw_tbl := tb4 (ow4_0 (Cond.methodLink RJ0 47 yJ2_coderFromArrayLen_85cad) (List.mem_of_getElem? (i := 16) rfl))
theorem fl_J0_9 : Cond.fieldLink RJ0 9 "java/lang/String" "value" "[B" ∈ lw_tbl := tb4 (ow4_0 (Cond.fieldLink RJ0 9 "java/lang/String" "value" "[B") (List.mem_of_getElem? (i := 17) rfl))
theorem fl_J0_15 : Cond.fieldLink RJ0 15 "java/lang/String" "coder" "B" ∈ lw_tbl := tb4 (ow4_0 (Cond.fieldLink RJ0 15 "java/lang/String" "coder" "B") (List.mem_of_getElem? (i := 18) rfl))
theorem ml_L_269 : Cond.methodLink RL 269 yL_code ∈ lw_tbl := tb4 (ow4_0 (Cond.methodLink RL 269 yL_code) (List.mem_of_getElem? (i := 19) rfl))
theorem ml_L_121 : Cond.methodLink RL 121 yX3_code ∈ lw_tbl := tb4 (ow4_0 (Cond.methodLink RL 121 yX3_code) (List.mem_of_getElem? (i := 20) rfl))
theorem ml_X3_136 : Cond.methodLink RX3 136 yX2_numberIn ∈ lw_tbl := tb4 (ow4_0 (Cond.methodLink RX3 136 yX2_numberIn) (List.mem_of_getElem? (i := 21) rfl))
theorem ml_X2_39 : Cond.methodLink RX2 39 yX2_signOf ∈ lw_tbl := tb4 (ow4_0 (Cond.methodLink RX2 39 yX2_signOf) (List.mem_of_getElem? (i := 22) rfl))
theorem ml_X2_45 : Cond.methodLink RX2 45 yJ4_reverse_43fcb ∈ lw_tbl := tb4 (ow4_0 (Cond.methodLink RX2 45 yJ4_reverse_43fcb) (List.mem_of_getElem? (i := 23) rfl))
theorem ml_J4_127 : Cond.methodLink RJ4 127 yJ5_reverse_278bc ∈ lw_tbl := tb4 (ow4_0 (Cond.methodLink RJ4 127 yJ5_reverse_278bc) (List.mem_of_getElem? (i := 24) rfl))
theorem ml_J5_358 : Cond.methodLink RJ5 358 yJ2_reverse_db04f ∈ lw_tbl := tb4 (ow4_0 (Cond.methodLink RJ5 358 yJ2_reverse_db04f) (List.mem_of_getElem? (i := 25) rfl))
theorem ml_J2_180 : Cond.methodLink RJ2 180 yJ2_checkOffset_2214a ∈ lw_tbl := tb4 (ow4_0 (Cond.methodLink RJ2 180 yJ2_checkOffset_2214a) (List.mem_of_getElem? (i := 26) rfl))
theorem ml_J2_417 : Cond.methodLink RJ2 417 yJ0_checkOffset_df160 ∈ lw_tbl := tb4 (ow4_0 (Cond.methodLink RJ2 417 yJ0_checkOffset_df160) (List.mem_of_getElem? (i := 27) rfl))
theorem ml_J2_212 : Cond.methodLink RJ2 212 yJ11_isSurrogate_fc78d ∈ lw_tbl := tb4 (ow4_0 (Cond.methodLink RJ2 212 yJ11_isSurrogate_fc78d) (List.mem_of_getElem? (i := 28) rfl))
theorem ml_J2_399 : Cond.methodLink RJ2 399 yJ2_reverseAllValidSurrogatePairs_db04f ∈ lw_tbl := tb4 (ow4_0 (Cond.methodLink RJ2 399 yJ2_reverseAllValidSurrogatePairs_db04f) (List.mem_of_getElem? (i := 29) rfl))
theorem ml_J2_81 : Cond.methodLink RJ2 81 yJ11_isLowSurrogate_fc78d ∈ lw_tbl := tb4 (ow4_0 (Cond.methodLink RJ2 81 yJ11_isLowSurrogate_fc78d) (List.mem_of_getElem? (i := 30) rfl))
theorem ml_J2_75 : Cond.methodLink RJ2 75 yJ11_isHighSurrogate_fc78d ∈ lw_tbl := tb4 (ow4_0 (Cond.methodLink RJ2 75 yJ11_isHighSurrogate_fc78d) (List.mem_of_getElem? (i := 31) rfl))
theorem ml_L_272 : Cond.methodLink RL 272 yL_order ∈ lw_tbl := tb4 (ow4_0 (Cond.methodLink RL 272 yL_order) (List.mem_of_getElem? (i := 32) rfl))
theorem ml_L_125 : Cond.methodLink RL 125 yX3_order ∈ lw_tbl := tb4 (ow4_0 (Cond.methodLink RL 125 yX3_order) (List.mem_of_getElem? (i := 33) rfl))
theorem ml_L_275 : Cond.methodLink RL 275 yL_isSame ∈ lw_tbl := tb4 (ow4_0 (Cond.methodLink RL 275 yL_isSame) (List.mem_of_getElem? (i := 34) rfl))
theorem ml_L_128 : Cond.methodLink RL 128 yX3_isSame ∈ lw_tbl := tb4 (ow4_0 (Cond.methodLink RL 128 yX3_isSame) (List.mem_of_getElem? (i := 35) rfl))
theorem ml_L_278 : Cond.methodLink RL 278 yL_value ∈ lw_tbl := tb4 (ow4_0 (Cond.methodLink RL 278 yL_value) (List.mem_of_getElem? (i := 36) rfl))
theorem ml_L_131 : Cond.methodLink RL 131 yX3_value ∈ lw_tbl := tb4 (ow4_0 (Cond.methodLink RL 131 yX3_value) (List.mem_of_getElem? (i := 37) rfl))
theorem ml_L_282 : Cond.methodLink RL 282 yL_divides ∈ lw_tbl := tb4 (ow4_0 (Cond.methodLink RL 282 yL_divides) (List.mem_of_getElem? (i := 38) rfl))
theorem ml_L_135 : Cond.methodLink RL 135 yX3_divides ∈ lw_tbl := tb4 (ow4_0 (Cond.methodLink RL 135 yX3_divides) (List.mem_of_getElem? (i := 39) rfl))
theorem ml_X3_140 : Cond.methodLink RX3 140 yX1_isDivisor ∈ lw_tbl := tb4 (ow4_0 (Cond.methodLink RX3 140 yX1_isDivisor) (List.mem_of_getElem? (i := 40) rfl))
theorem ml_L_285 : Cond.methodLink RL 285 yL_isFree ∈ lw_tbl := tb4 (ow4_0 (Cond.methodLink RL 285 yL_isFree) (List.mem_of_getElem? (i := 41) rfl))
theorem ml_L_138 : Cond.methodLink RL 138 yX3_isFree ∈ lw_tbl := tb4 (ow4_0 (Cond.methodLink RL 138 yX3_isFree) (List.mem_of_getElem? (i := 42) rfl))
theorem ml_L_288 : Cond.methodLink RL 288 yL_irreducible ∈ lw_tbl := tb4 (ow4_0 (Cond.methodLink RL 288 yL_irreducible) (List.mem_of_getElem? (i := 43) rfl))
theorem ml_L_142 : Cond.methodLink RL 142 yX3_irreducible ∈ lw_tbl := tb4 (ow4_0 (Cond.methodLink RL 142 yX3_irreducible) (List.mem_of_getElem? (i := 44) rfl))
theorem ml_X3_144 : Cond.methodLink RX3 144 yX0_isOne ∈ lw_tbl := tb4 (ow4_0 (Cond.methodLink RX3 144 yX0_isOne) (List.mem_of_getElem? (i := 45) rfl))
theorem ml_L_291 : Cond.methodLink RL 291 yL_rank ∈ lw_tbl := tb4 (ow4_0 (Cond.methodLink RL 291 yL_rank) (List.mem_of_getElem? (i := 46) rfl))
theorem ml_L_145 : Cond.methodLink RL 145 yX3_rank ∈ lw_tbl := tb4 (ow4_0 (Cond.methodLink RL 145 yX3_rank) (List.mem_of_getElem? (i := 47) rfl))
theorem ml_X3_148 : Cond.methodLink RX3 148 yX0_countBelow ∈ lw_tbl := tb4 (ow4_0 (Cond.methodLink RX3 148 yX0_countBelow) (List.mem_of_getElem? (i := 48) rfl))
theorem ml_L_294 : Cond.methodLink RL 294 yL_factors ∈ lw_tbl := tb4 (ow4_0 (Cond.methodLink RL 294 yL_factors) (List.mem_of_getElem? (i := 49) rfl))
theorem ml_L_148 : Cond.methodLink RL 148 yX3_factors ∈ lw_tbl := tb4 (ow4_1 (Cond.methodLink RL 148 yX3_factors) (List.mem_of_getElem? (i := 0) rfl))
theorem ml_X3_153 : Cond.methodLink RX3 153 yX0_factorsOf ∈ lw_tbl := tb4 (ow4_1 (Cond.methodLink RX3 153 yX0_factorsOf) (List.mem_of_getElem? (i := 1) rfl))
theorem cl_X0_39 : Cond.classLink RX0 39 "java/lang/StringBuilder" ∈ lw_tbl := tb4 (ow4_1 (Cond.classLink RX0 39 "java/lang/StringBuilder") (List.mem_of_getElem? (i := 2) rfl))
theorem ml_X0_41 : Cond.methodLink RX0 41 yJ4_init_da8c8 ∈ lw_tbl := tb4 (ow4_1 (Cond.methodLink RX0 41 yJ4_init_da8c8) (List.mem_of_getElem? (i := 3) rfl))
theorem ml_X0_42 : Cond.methodLink RX0 42 yJ4_length_8abf5 ∈ lw_tbl := tb4 (ow4_1 (Cond.methodLink RX0 42 yJ4_length_8abf5) (List.mem_of_getElem? (i := 4) rfl))
theorem ml_X0_46 : Cond.methodLink RX0 46 yJ4_append_cf468 ∈ lw_tbl := tb4 (ow4_1 (Cond.methodLink RX0 46 yJ4_append_cf468) (List.mem_of_getElem? (i := 5) rfl))
theorem ml_X0_50 : Cond.methodLink RX0 50 yJ4_append_bf812 ∈ lw_tbl := tb4 (ow4_1 (Cond.methodLink RX0 50 yJ4_append_bf812) (List.mem_of_getElem? (i := 6) rfl))
theorem ml_X0_53 : Cond.methodLink RX0 53 yX1_quotientOf ∈ lw_tbl := tb4 (ow4_1 (Cond.methodLink RX0 53 yX1_quotientOf) (List.mem_of_getElem? (i := 7) rfl))
theorem ml_X0_56 : Cond.methodLink RX0 56 yJ4_toString_0e30d ∈ lw_tbl := tb4 (ow4_1 (Cond.methodLink RX0 56 yJ4_toString_0e30d) (List.mem_of_getElem? (i := 8) rfl))
theorem ml_L_297 : Cond.methodLink RL 297 yL_period ∈ lw_tbl := tb4 (ow4_1 (Cond.methodLink RL 297 yL_period) (List.mem_of_getElem? (i := 9) rfl))
theorem ml_L_151 : Cond.methodLink RL 151 yX3_period ∈ lw_tbl := tb4 (ow4_1 (Cond.methodLink RL 151 yX3_period) (List.mem_of_getElem? (i := 10) rfl))
theorem ml_X3_156 : Cond.methodLink RX3 156 yX0_periodOf ∈ lw_tbl := tb4 (ow4_1 (Cond.methodLink RX3 156 yX0_periodOf) (List.mem_of_getElem? (i := 11) rfl))
theorem ml_X0_60 : Cond.methodLink RX0 60 yX1_restOf ∈ lw_tbl := tb4 (ow4_1 (Cond.methodLink RX0 60 yX1_restOf) (List.mem_of_getElem? (i := 12) rfl))
theorem ml_L_300 : Cond.methodLink RL 300 yL_many ∈ lw_tbl := tb4 (ow4_1 (Cond.methodLink RL 300 yL_many) (List.mem_of_getElem? (i := 13) rfl))
theorem ml_L_154 : Cond.methodLink RL 154 yX3_many ∈ lw_tbl := tb4 (ow4_1 (Cond.methodLink RL 154 yX3_many) (List.mem_of_getElem? (i := 14) rfl))
theorem ml_L_303 : Cond.methodLink RL 303 yL_formula ∈ lw_tbl := tb4 (ow4_1 (Cond.methodLink RL 303 yL_formula) (List.mem_of_getElem? (i := 15) rfl))
theorem ml_L_157 : Cond.methodLink RL 157 yX3_formula ∈ lw_tbl := tb4 (ow4_1 (Cond.methodLink RL 157 yX3_formula) (List.mem_of_getElem? (i := 16) rfl))
theorem ml_X3_159 : Cond.methodLink RX3 159 yX0_formulaFor ∈ lw_tbl := tb4 (ow4_1 (Cond.methodLink RX3 159 yX0_formulaFor) (List.mem_of_getElem? (i := 17) rfl))
theorem ml_X0_63 : Cond.methodLink RX0 63 yX0_signOf ∈ lw_tbl := tb4 (ow4_1 (Cond.methodLink RX0 63 yX0_signOf) (List.mem_of_getElem? (i := 18) rfl))
theorem ml_L_306 : Cond.methodLink RL 306 yL_find ∈ lw_tbl := tb4 (ow4_1 (Cond.methodLink RL 306 yL_find) (List.mem_of_getElem? (i := 19) rfl))
theorem ml_L_160 : Cond.methodLink RL 160 yX3_find ∈ lw_tbl := tb4 (ow4_1 (Cond.methodLink RL 160 yX3_find) (List.mem_of_getElem? (i := 20) rfl))
theorem ml_L_309 : Cond.methodLink RL 309 yL_house ∈ lw_tbl := tb4 (ow4_1 (Cond.methodLink RL 309 yL_house) (List.mem_of_getElem? (i := 21) rfl))
theorem ml_L_163 : Cond.methodLink RL 163 yX3_house ∈ lw_tbl := tb4 (ow4_1 (Cond.methodLink RL 163 yX3_house) (List.mem_of_getElem? (i := 22) rfl))
theorem cl_L_167 : Cond.classLink RL 167 "CarryfreeModel" ∈ lw_tbl := tb4 (ow4_1 (Cond.classLink RL 167 "CarryfreeModel") (List.mem_of_getElem? (i := 23) rfl))
theorem ml_L_169 : Cond.methodLink RL 169 yX5_init ∈ lw_tbl := tb4 (ow4_1 (Cond.methodLink RL 169 yX5_init) (List.mem_of_getElem? (i := 24) rfl))
theorem fl_X5_7 : Cond.fieldLink RX5 7 "CarryfreeModel" "cells" "[J" ∈ lw_tbl := tb4 (ow4_1 (Cond.fieldLink RX5 7 "CarryfreeModel" "cells" "[J") (List.mem_of_getElem? (i := 25) rfl))
theorem fl_X5_13 : Cond.fieldLink RX5 13 "CarryfreeModel" "thrown" "I" ∈ lw_tbl := tb4 (ow4_1 (Cond.fieldLink RX5 13 "CarryfreeModel" "thrown" "I") (List.mem_of_getElem? (i := 26) rfl))
theorem fl_X5_53 : Cond.fieldLink RX5 53 "CarryfreeModel" "acts" "I" ∈ lw_tbl := tb4 (ow4_1 (Cond.fieldLink RX5 53 "CarryfreeModel" "acts" "I") (List.mem_of_getElem? (i := 27) rfl))
theorem fl_X5_56 : Cond.fieldLink RX5 56 "CarryfreeModel" "refused" "I" ∈ lw_tbl := tb4 (ow4_1 (Cond.fieldLink RX5 56 "CarryfreeModel" "refused" "I") (List.mem_of_getElem? (i := 28) rfl))
theorem fl_X5_161 : Cond.fieldLink RX5 161 "CarryfreeModel" "knocks" "I" ∈ lw_tbl := tb4 (ow4_1 (Cond.fieldLink RX5 161 "CarryfreeModel" "knocks" "I") (List.mem_of_getElem? (i := 29) rfl))
theorem ml_L_176 : Cond.methodLink RL 176 yX5_put ∈ lw_tbl := tb4 (ow4_1 (Cond.methodLink RL 176 yX5_put) (List.mem_of_getElem? (i := 30) rfl))
theorem ml_X5_67 : Cond.methodLink RX5 67 yX5_isNo ∈ lw_tbl := tb5 (ow5_0 (Cond.methodLink RX5 67 yX5_isNo) (List.mem_of_getElem? (i := 0) rfl))
theorem ml_X5_21 : Cond.methodLink RX5 21 yX5_isIn ∈ lw_tbl := tb5 (ow5_0 (Cond.methodLink RX5 21 yX5_isIn) (List.mem_of_getElem? (i := 1) rfl))
theorem ml_X5_71 : Cond.methodLink RX5 71 yX5_start ∈ lw_tbl := tb5 (ow5_0 (Cond.methodLink RX5 71 yX5_start) (List.mem_of_getElem? (i := 2) rfl))
theorem ml_X5_17 : Cond.methodLink RX5 17 yX5_refuse ∈ lw_tbl := tb5 (ow5_0 (Cond.methodLink RX5 17 yX5_refuse) (List.mem_of_getElem? (i := 3) rfl))
theorem kl_X5_74 : Cond.constantLong RX5 74 (4294967295) ∈ lw_tbl := tb5 (ow5_0 (Cond.constantLong RX5 74 (4294967295)) (List.mem_of_getElem? (i := 4) rfl))
theorem ml_X5_59 : Cond.methodLink RX5 59 yX5_lay ∈ lw_tbl := tb5 (ow5_0 (Cond.methodLink RX5 59 yX5_lay) (List.mem_of_getElem? (i := 5) rfl))
theorem ml_X5_29 : Cond.methodLink RX5 29 yX5_one ∈ lw_tbl := tb5 (ow5_0 (Cond.methodLink RX5 29 yX5_one) (List.mem_of_getElem? (i := 6) rfl))
theorem ml_L_179 : Cond.methodLink RL 179 yX5_mono ∈ lw_tbl := tb5 (ow5_0 (Cond.methodLink RL 179 yX5_mono) (List.mem_of_getElem? (i := 7) rfl))
theorem ml_L_183 : Cond.methodLink RL 183 yX5_digit ∈ lw_tbl := tb5 (ow5_0 (Cond.methodLink RL 183 yX5_digit) (List.mem_of_getElem? (i := 8) rfl))
theorem ml_X5_25 : Cond.methodLink RX5 25 yX5_has ∈ lw_tbl := tb5 (ow5_0 (Cond.methodLink RX5 25 yX5_has) (List.mem_of_getElem? (i := 9) rfl))
theorem ml_L_186 : Cond.methodLink RL 186 yX5_flip ∈ lw_tbl := tb5 (ow5_0 (Cond.methodLink RL 186 yX5_flip) (List.mem_of_getElem? (i := 10) rfl))
theorem ml_L_189 : Cond.methodLink RL 189 yX5_copy ∈ lw_tbl := tb5 (ow5_0 (Cond.methodLink RL 189 yX5_copy) (List.mem_of_getElem? (i := 11) rfl))
theorem ml_L_192 : Cond.methodLink RL 192 yX5_swap ∈ lw_tbl := tb5 (ow5_0 (Cond.methodLink RL 192 yX5_swap) (List.mem_of_getElem? (i := 12) rfl))
theorem ml_L_196 : Cond.methodLink RL 196 yX5_end ∈ lw_tbl := tb5 (ow5_0 (Cond.methodLink RL 196 yX5_end) (List.mem_of_getElem? (i := 13) rfl))
theorem ml_X5_76 : Cond.methodLink RX5 76 yJ9_max_f86c9 ∈ lw_tbl := tb5 (ow5_0 (Cond.methodLink RX5 76 yJ9_max_f86c9) (List.mem_of_getElem? (i := 14) rfl))
theorem ml_X5_81 : Cond.methodLink RX5 81 yJ9_min_f86c9 ∈ lw_tbl := tb5 (ow5_0 (Cond.methodLink RX5 81 yJ9_min_f86c9) (List.mem_of_getElem? (i := 15) rfl))
theorem ml_L_200 : Cond.methodLink RL 200 yX5_join ∈ lw_tbl := tb5 (ow5_0 (Cond.methodLink RL 200 yX5_join) (List.mem_of_getElem? (i := 16) rfl))
theorem kl_X5_84 : Cond.constantLong RX5 84 (-1) ∈ lw_tbl := tb5 (ow5_0 (Cond.constantLong RX5 84 (-1)) (List.mem_of_getElem? (i := 17) rfl))
theorem ml_L_204 : Cond.methodLink RL 204 yX5_times ∈ lw_tbl := tb5 (ow5_0 (Cond.methodLink RL 204 yX5_times) (List.mem_of_getElem? (i := 18) rfl))
theorem ml_X5_90 : Cond.methodLink RX5 90 yX5_multiply ∈ lw_tbl := tb5 (ow5_0 (Cond.methodLink RX5 90 yX5_multiply) (List.mem_of_getElem? (i := 19) rfl))
theorem ml_X5_33 : Cond.methodLink RX5 33 yX5_degreeOf ∈ lw_tbl := tb5 (ow5_0 (Cond.methodLink RX5 33 yX5_degreeOf) (List.mem_of_getElem? (i := 20) rfl))
theorem ml_X5_41 : Cond.methodLink RX5 41 yX5_product ∈ lw_tbl := tb5 (ow5_0 (Cond.methodLink RX5 41 yX5_product) (List.mem_of_getElem? (i := 21) rfl))
theorem ml_X5_86 : Cond.methodLink RX5 86 yX5_layIf ∈ lw_tbl := tb5 (ow5_0 (Cond.methodLink RX5 86 yX5_layIf) (List.mem_of_getElem? (i := 22) rfl))
theorem ml_X5_63 : Cond.methodLink RX5 63 yX5_no ∈ lw_tbl := tb5 (ow5_0 (Cond.methodLink RX5 63 yX5_no) (List.mem_of_getElem? (i := 23) rfl))
theorem ml_L_207 : Cond.methodLink RL 207 yX5_square ∈ lw_tbl := tb5 (ow5_0 (Cond.methodLink RL 207 yX5_square) (List.mem_of_getElem? (i := 24) rfl))
theorem ml_L_210 : Cond.methodLink RL 210 yX5_shift ∈ lw_tbl := tb5 (ow5_0 (Cond.methodLink RL 210 yX5_shift) (List.mem_of_getElem? (i := 25) rfl))
theorem ml_L_213 : Cond.methodLink RL 213 yX5_quotient ∈ lw_tbl := tb5 (ow5_0 (Cond.methodLink RL 213 yX5_quotient) (List.mem_of_getElem? (i := 26) rfl))
theorem ml_X5_37 : Cond.methodLink RX5 37 yX5_quotientOf ∈ lw_tbl := tb5 (ow5_0 (Cond.methodLink RX5 37 yX5_quotientOf) (List.mem_of_getElem? (i := 27) rfl))
theorem ml_L_216 : Cond.methodLink RL 216 yX5_rest ∈ lw_tbl := tb5 (ow5_0 (Cond.methodLink RL 216 yX5_rest) (List.mem_of_getElem? (i := 28) rfl))
theorem ml_X5_46 : Cond.methodLink RX5 46 yX5_restOf ∈ lw_tbl := tb5 (ow5_0 (Cond.methodLink RX5 46 yX5_restOf) (List.mem_of_getElem? (i := 29) rfl))
theorem ml_L_219 : Cond.methodLink RL 219 yX5_gcd ∈ lw_tbl := tb5 (ow5_0 (Cond.methodLink RL 219 yX5_gcd) (List.mem_of_getElem? (i := 30) rfl))
theorem ml_X5_94 : Cond.methodLink RX5 94 yX5_euclid ∈ lw_tbl := tb5 (ow5_0 (Cond.methodLink RX5 94 yX5_euclid) (List.mem_of_getElem? (i := 31) rfl))
theorem ml_L_222 : Cond.methodLink RL 222 yX5_lcm ∈ lw_tbl := tb5 (ow5_0 (Cond.methodLink RL 222 yX5_lcm) (List.mem_of_getElem? (i := 32) rfl))
theorem ml_L_225 : Cond.methodLink RL 225 yX5_bezout ∈ lw_tbl := tb5 (ow5_0 (Cond.methodLink RL 225 yX5_bezout) (List.mem_of_getElem? (i := 33) rfl))
theorem ml_L_228 : Cond.methodLink RL 228 yX5_derive ∈ lw_tbl := tb5 (ow5_0 (Cond.methodLink RL 228 yX5_derive) (List.mem_of_getElem? (i := 34) rfl))
theorem ml_X5_98 : Cond.methodLink RX5 98 yX5_derived ∈ lw_tbl := tb5 (ow5_0 (Cond.methodLink RX5 98 yX5_derived) (List.mem_of_getElem? (i := 35) rfl))
theorem ml_L_231 : Cond.methodLink RL 231 yX5_root ∈ lw_tbl := tb5 (ow5_0 (Cond.methodLink RL 231 yX5_root) (List.mem_of_getElem? (i := 36) rfl))
theorem ml_X5_102 : Cond.methodLink RX5 102 yX5_half ∈ lw_tbl := tb5 (ow5_0 (Cond.methodLink RX5 102 yX5_half) (List.mem_of_getElem? (i := 37) rfl))
theorem ml_L_234 : Cond.methodLink RL 234 yX5_turn ∈ lw_tbl := tb5 (ow5_0 (Cond.methodLink RL 234 yX5_turn) (List.mem_of_getElem? (i := 38) rfl))
theorem ml_L_237 : Cond.methodLink RL 237 yX5_move ∈ lw_tbl := tb5 (ow5_0 (Cond.methodLink RL 237 yX5_move) (List.mem_of_getElem? (i := 39) rfl))
theorem ml_L_240 : Cond.methodLink RL 240 yX5_power ∈ lw_tbl := tb5 (ow5_0 (Cond.methodLink RL 240 yX5_power) (List.mem_of_getElem? (i := 40) rfl))
theorem ml_L_243 : Cond.methodLink RL 243 yX5_nth ∈ lw_tbl := tb5 (ow5_0 (Cond.methodLink RL 243 yX5_nth) (List.mem_of_getElem? (i := 41) rfl))
theorem kl_X5_44 : Cond.constantLong RX5 44 (2) ∈ lw_tbl := tb5 (ow5_0 (Cond.constantLong RX5 44 (2)) (List.mem_of_getElem? (i := 42) rfl))
theorem ml_X5_49 : Cond.methodLink RX5 49 yX5_isIrreducible ∈ lw_tbl := tb5 (ow5_0 (Cond.methodLink RX5 49 yX5_isIrreducible) (List.mem_of_getElem? (i := 43) rfl))
theorem ml_L_246 : Cond.methodLink RL 246 yX5_field ∈ lw_tbl := tb5 (ow5_0 (Cond.methodLink RL 246 yX5_field) (List.mem_of_getElem? (i := 44) rfl))
theorem ml_L_249 : Cond.methodLink RL 249 yX5_again ∈ lw_tbl := tb5 (ow5_0 (Cond.methodLink RL 249 yX5_again) (List.mem_of_getElem? (i := 45) rfl))
theorem ml_L_253 : Cond.methodLink RL 253 yX5_degree ∈ lw_tbl := tb5 (ow5_0 (Cond.methodLink RL 253 yX5_degree) (List.mem_of_getElem? (i := 46) rfl))
theorem ml_L_256 : Cond.methodLink RL 256 yX5_low ∈ lw_tbl := tb5 (ow5_0 (Cond.methodLink RL 256 yX5_low) (List.mem_of_getElem? (i := 47) rfl))
theorem ml_X5_105 : Cond.methodLink RX5 105 yX5_lowOf ∈ lw_tbl := tb5 (ow5_0 (Cond.methodLink RX5 105 yX5_lowOf) (List.mem_of_getElem? (i := 48) rfl))
theorem ml_L_259 : Cond.methodLink RL 259 yX5_weight ∈ lw_tbl := tb5 (ow5_0 (Cond.methodLink RL 259 yX5_weight) (List.mem_of_getElem? (i := 49) rfl))
theorem ml_X5_108 : Cond.methodLink RX5 108 yX5_weightOf ∈ lw_tbl := tb5 (ow5_1 (Cond.methodLink RX5 108 yX5_weightOf) (List.mem_of_getElem? (i := 0) rfl))
theorem ml_L_262 : Cond.methodLink RL 262 yX5_at ∈ lw_tbl := tb5 (ow5_1 (Cond.methodLink RL 262 yX5_at) (List.mem_of_getElem? (i := 1) rfl))
theorem ml_L_265 : Cond.methodLink RL 265 yX5_digits ∈ lw_tbl := tb5 (ow5_1 (Cond.methodLink RL 265 yX5_digits) (List.mem_of_getElem? (i := 2) rfl))
theorem ml_L_268 : Cond.methodLink RL 268 yX5_text ∈ lw_tbl := tb5 (ow5_1 (Cond.methodLink RL 268 yX5_text) (List.mem_of_getElem? (i := 3) rfl))
theorem cl_X5_115 : Cond.classLink RX5 115 "java/lang/StringBuilder" ∈ lw_tbl := tb5 (ow5_1 (Cond.classLink RX5 115 "java/lang/StringBuilder") (List.mem_of_getElem? (i := 4) rfl))
theorem ml_X5_117 : Cond.methodLink RX5 117 yJ4_init_da8c8 ∈ lw_tbl := tb5 (ow5_1 (Cond.methodLink RX5 117 yJ4_init_da8c8) (List.mem_of_getElem? (i := 5) rfl))
theorem ml_X5_118 : Cond.methodLink RX5 118 yJ4_length_8abf5 ∈ lw_tbl := tb5 (ow5_1 (Cond.methodLink RX5 118 yJ4_length_8abf5) (List.mem_of_getElem? (i := 6) rfl))
theorem ml_X5_121 : Cond.methodLink RX5 121 yJ4_append_cf468 ∈ lw_tbl := tb5 (ow5_1 (Cond.methodLink RX5 121 yJ4_append_cf468) (List.mem_of_getElem? (i := 7) rfl))
theorem ml_X5_125 : Cond.methodLink RX5 125 yJ4_append_bf812 ∈ lw_tbl := tb5 (ow5_1 (Cond.methodLink RX5 125 yJ4_append_bf812) (List.mem_of_getElem? (i := 8) rfl))
theorem ml_X5_128 : Cond.methodLink RX5 128 yJ4_toString_0e30d ∈ lw_tbl := tb5 (ow5_1 (Cond.methodLink RX5 128 yJ4_toString_0e30d) (List.mem_of_getElem? (i := 9) rfl))
theorem ml_L_271 : Cond.methodLink RL 271 yX5_code ∈ lw_tbl := tb5 (ow5_1 (Cond.methodLink RL 271 yX5_code) (List.mem_of_getElem? (i := 10) rfl))
theorem ml_X5_134 : Cond.methodLink RX5 134 yJ0_charAt_5068e ∈ lw_tbl := tb5 (ow5_1 (Cond.methodLink RX5 134 yJ0_charAt_5068e) (List.mem_of_getElem? (i := 11) rfl))
theorem ml_J0_492 : Cond.methodLink RJ0 492 yJ0_isLatin1_aae02 ∈ lw_tbl := tb5 (ow5_1 (Cond.methodLink RJ0 492 yJ0_isLatin1_aae02) (List.mem_of_getElem? (i := 12) rfl))
theorem ml_J0_495 : Cond.methodLink RJ0 495 yJ1_charAt_3b067 ∈ lw_tbl := tb5 (ow5_1 (Cond.methodLink RJ0 495 yJ1_charAt_3b067) (List.mem_of_getElem? (i := 13) rfl))
theorem ml_J1_9 : Cond.methodLink RJ1 9 yJ0_checkIndex_df160 ∈ lw_tbl := tb5 (ow5_1 (Cond.methodLink RJ1 9 yJ0_checkIndex_df160) (List.mem_of_getElem? (i := 14) rfl))
theorem ml_J0_498 : Cond.methodLink RJ0 498 yJ2_charAt_3b067 ∈ lw_tbl := tb5 (ow5_1 (Cond.methodLink RJ0 498 yJ2_charAt_3b067) (List.mem_of_getElem? (i := 15) rfl))
theorem ml_L_274 : Cond.methodLink RL 274 yX5_order ∈ lw_tbl := tb5 (ow5_1 (Cond.methodLink RL 274 yX5_order) (List.mem_of_getElem? (i := 16) rfl))
theorem ml_X5_140 : Cond.methodLink RX5 140 yX5_side ∈ lw_tbl := tb5 (ow5_1 (Cond.methodLink RX5 140 yX5_side) (List.mem_of_getElem? (i := 17) rfl))
theorem ml_L_277 : Cond.methodLink RL 277 yX5_isSame ∈ lw_tbl := tb5 (ow5_1 (Cond.methodLink RL 277 yX5_isSame) (List.mem_of_getElem? (i := 18) rfl))
theorem ml_L_281 : Cond.methodLink RL 281 yX5_value ∈ lw_tbl := tb5 (ow5_1 (Cond.methodLink RL 281 yX5_value) (List.mem_of_getElem? (i := 19) rfl))
theorem ml_L_284 : Cond.methodLink RL 284 yX5_divides ∈ lw_tbl := tb5 (ow5_1 (Cond.methodLink RL 284 yX5_divides) (List.mem_of_getElem? (i := 20) rfl))
theorem ml_L_287 : Cond.methodLink RL 287 yX5_isFree ∈ lw_tbl := tb5 (ow5_1 (Cond.methodLink RL 287 yX5_isFree) (List.mem_of_getElem? (i := 21) rfl))
theorem ml_L_290 : Cond.methodLink RL 290 yX5_irreducible ∈ lw_tbl := tb6 (ow6_0 (Cond.methodLink RL 290 yX5_irreducible) (List.mem_of_getElem? (i := 0) rfl))
theorem ml_L_293 : Cond.methodLink RL 293 yX5_rank ∈ lw_tbl := tb6 (ow6_0 (Cond.methodLink RL 293 yX5_rank) (List.mem_of_getElem? (i := 1) rfl))
theorem ml_X5_144 : Cond.methodLink RX5 144 yX5_rankOf ∈ lw_tbl := tb6 (ow6_0 (Cond.methodLink RX5 144 yX5_rankOf) (List.mem_of_getElem? (i := 2) rfl))
theorem ml_L_296 : Cond.methodLink RL 296 yX5_factors ∈ lw_tbl := tb6 (ow6_0 (Cond.methodLink RL 296 yX5_factors) (List.mem_of_getElem? (i := 3) rfl))
theorem ml_L_299 : Cond.methodLink RL 299 yX5_period ∈ lw_tbl := tb6 (ow6_0 (Cond.methodLink RL 299 yX5_period) (List.mem_of_getElem? (i := 4) rfl))
theorem ml_L_302 : Cond.methodLink RL 302 yX5_many ∈ lw_tbl := tb6 (ow6_0 (Cond.methodLink RL 302 yX5_many) (List.mem_of_getElem? (i := 5) rfl))
theorem ml_X5_149 : Cond.methodLink RX5 149 yX5_howMany ∈ lw_tbl := tb6 (ow6_0 (Cond.methodLink RX5 149 yX5_howMany) (List.mem_of_getElem? (i := 6) rfl))
theorem ml_L_305 : Cond.methodLink RL 305 yX5_formula ∈ lw_tbl := tb6 (ow6_0 (Cond.methodLink RL 305 yX5_formula) (List.mem_of_getElem? (i := 7) rfl))
theorem fl_X5_153 : Cond.fieldLink RX5 153 "CarryfreeModel" "MS" "[I" ∈ lw_tbl := tb6 (ow6_0 (Cond.fieldLink RX5 153 "CarryfreeModel" "MS" "[I") (List.mem_of_getElem? (i := 8) rfl))
theorem ml_L_308 : Cond.methodLink RL 308 yX5_find ∈ lw_tbl := tb6 (ow6_0 (Cond.methodLink RL 308 yX5_find) (List.mem_of_getElem? (i := 9) rfl))
theorem ml_X5_157 : Cond.methodLink RX5 157 yX5_found ∈ lw_tbl := tb6 (ow6_0 (Cond.methodLink RX5 157 yX5_found) (List.mem_of_getElem? (i := 10) rfl))
theorem ml_L_311 : Cond.methodLink RL 311 yX5_house ∈ lw_tbl := tb6 (ow6_0 (Cond.methodLink RL 311 yX5_house) (List.mem_of_getElem? (i := 11) rfl))
theorem ml_X5_164 : Cond.methodLink RX5 164 yX5_houseTold ∈ lw_tbl := tb6 (ow6_0 (Cond.methodLink RX5 164 yX5_houseTold) (List.mem_of_getElem? (i := 12) rfl))
theorem ml_L_316 : Cond.methodLink RL 316 yX5_knock ∈ lw_tbl := tb6 (ow6_0 (Cond.methodLink RL 316 yX5_knock) (List.mem_of_getElem? (i := 13) rfl))
theorem ml_L_321 : Cond.methodLink RL 321 yX5_isSound ∈ lw_tbl := tb6 (ow6_0 (Cond.methodLink RL 321 yX5_isSound) (List.mem_of_getElem? (i := 14) rfl))
theorem ml_X5_167 : Cond.methodLink RX5 167 yX5_isWhole ∈ lw_tbl := tb6 (ow6_0 (Cond.methodLink RX5 167 yX5_isWhole) (List.mem_of_getElem? (i := 15) rfl))
theorem ml_L_326 : Cond.methodLink RL 326 yX5_digest ∈ lw_tbl := tb6 (ow6_0 (Cond.methodLink RL 326 yX5_digest) (List.mem_of_getElem? (i := 16) rfl))
theorem kl_X5_173 : Cond.constantLong RX5 173 (7686) ∈ lw_tbl := tb6 (ow6_0 (Cond.constantLong RX5 173 (7686)) (List.mem_of_getElem? (i := 17) rfl))
theorem ml_X5_175 : Cond.methodLink RX5 175 yX5_add ∈ lw_tbl := tb6 (ow6_0 (Cond.methodLink RX5 175 yX5_add) (List.mem_of_getElem? (i := 18) rfl))
theorem kl_X5_171 : Cond.constantLong RX5 171 (31) ∈ lw_tbl := tb6 (ow6_0 (Cond.constantLong RX5 171 (31)) (List.mem_of_getElem? (i := 19) rfl))
theorem ac_int : Cond.arrayClass .int ∈ lw_tbl := tb6 (ow6_0 (Cond.arrayClass .int) (List.mem_of_getElem? (i := 20) rfl))
theorem zi_X3_init : zN yX3_init cX3_init 1 := ⟨tb1 (ow1_1 (Cond.instanceMethod yX3_init) (List.mem_of_getElem? (i := 20) rfl)), ini_X3, tb1 (List.mem_of_getElem? (i := 29) rfl)⟩
theorem zi_X3_knock : zI yX3_knock cX3_knock 1 (some .int) := ⟨tb1 (ow1_1 (Cond.instanceMethod yX3_knock) (List.mem_of_getElem? (i := 22) rfl)), tb1 (ow1_1 (Cond.selects yX3_knock.cls yX3_knock yX3_knock) (List.mem_of_getElem? (i := 21) rfl)), ini_X3, tb1 (List.mem_of_getElem? (i := 50) rfl)⟩
theorem zi_X3_isSound : zI yX3_isSound cX3_isSound 7 (some .boolean) := ⟨tb1 (ow1_1 (Cond.instanceMethod yX3_isSound) (List.mem_of_getElem? (i := 24) rfl)), tb1 (ow1_1 (Cond.selects yX3_isSound.cls yX3_isSound yX3_isSound) (List.mem_of_getElem? (i := 23) rfl)), ini_X3, tb1 (List.mem_of_getElem? (i := 54) rfl)⟩
theorem zs_X1_topPlace : zS yX1_topPlace cX1_topPlace 4 (some .int) := ⟨tb1 (ow1_1 (Cond.static yX1_topPlace) (List.mem_of_getElem? (i := 25) rfl)), ini_X1, tb1 (List.mem_of_getElem? (i := 57) rfl)⟩
theorem zs_X1_bottomPlace : zS yX1_bottomPlace cX1_bottomPlace 3 (some .int) := ⟨tb1 (ow1_1 (Cond.static yX1_bottomPlace) (List.mem_of_getElem? (i := 26) rfl)), ini_X1, tb1 (List.mem_of_getElem? (i := 60) rfl)⟩
theorem zs_X1_hasOne : zS yX1_hasOne cX1_hasOne 3 (some .boolean) := ⟨tb1 (ow1_1 (Cond.static yX1_hasOne) (List.mem_of_getElem? (i := 27) rfl)), ini_X1, tb1 (List.mem_of_getElem? (i := 63) rfl)⟩
theorem zi_X3_polyIn : zI yX3_polyIn cX3_polyIn 2 (some .long) := ⟨tb1 (ow1_1 (Cond.instanceMethod yX3_polyIn) (List.mem_of_getElem? (i := 28) rfl)), List.mem_append_left _ (List.mem_of_getElem? (i := 0) (by decide +kernel)), ini_X3, tb1 (List.mem_of_getElem? (i := 67) rfl)⟩
theorem zi_X3_checkCell : zI yX3_checkCell cX3_checkCell 2 none := ⟨tb1 (ow1_1 (Cond.instanceMethod yX3_checkCell) (List.mem_of_getElem? (i := 29) rfl)), List.mem_append_left _ (List.mem_of_getElem? (i := 1) (by decide +kernel)), ini_X3, tb1 (List.mem_of_getElem? (i := 71) rfl)⟩
theorem zs_X1_firstBezout : zS yX1_firstBezout cX1_firstBezout 4 (some .long) := ⟨tb1 (ow1_1 (Cond.static yX1_firstBezout) (List.mem_of_getElem? (i := 30) rfl)), ini_X1, tb1 (List.mem_of_getElem? (i := 141) rfl)⟩
theorem zs_X1_euclid : zS yX1_euclid cX1_euclid 23 (some .long) := ⟨tb1 (ow1_1 (Cond.static yX1_euclid) (List.mem_of_getElem? (i := 31) rfl)), ini_X1, tb1 (List.mem_of_getElem? (i := 144) rfl)⟩
theorem zs_X1_quotientOf : zS yX1_quotientOf cX1_quotientOf 10 (some .long) := ⟨tb1 (ow1_1 (Cond.static yX1_quotientOf) (List.mem_of_getElem? (i := 32) rfl)), ini_X1, tb1 (List.mem_of_getElem? (i := 147) rfl)⟩
theorem zs_X1_single : zS yX1_single cX1_single 1 (some .long) := ⟨tb1 (ow1_1 (Cond.static yX1_single) (List.mem_of_getElem? (i := 33) rfl)), ini_X1, tb1 (List.mem_of_getElem? (i := 151) rfl)⟩
theorem zs_X1_product : zS yX1_product cX1_product 7 (some .long) := ⟨tb1 (ow1_1 (Cond.static yX1_product) (List.mem_of_getElem? (i := 34) rfl)), ini_X1, tb1 (List.mem_of_getElem? (i := 154) rfl)⟩
theorem zs_X1_secondBezout : zS yX1_secondBezout cX1_secondBezout 4 (some .long) := ⟨tb1 (ow1_1 (Cond.static yX1_secondBezout) (List.mem_of_getElem? (i := 35) rfl)), ini_X1, tb1 (List.mem_of_getElem? (i := 158) rfl)⟩
theorem zs_X1_gcdOf : zS yX1_gcdOf cX1_gcdOf 4 (some .long) := ⟨tb1 (ow1_1 (Cond.static yX1_gcdOf) (List.mem_of_getElem? (i := 36) rfl)), ini_X1, tb1 (List.mem_of_getElem? (i := 161) rfl)⟩
theorem zi_X3_digest : zI yX3_digest cX3_digest 4 (some .long) := ⟨tb1 (ow1_1 (Cond.instanceMethod yX3_digest) (List.mem_of_getElem? (i := 38) rfl)), tb1 (ow1_1 (Cond.selects yX3_digest.cls yX3_digest yX3_digest) (List.mem_of_getElem? (i := 37) rfl)), ini_X3, tb1 (List.mem_of_getElem? (i := 165) rfl)⟩
theorem zi_X3_digits : zI yX3_digits cX3_digits 2 (some .int) := ⟨tb1 (ow1_1 (Cond.instanceMethod yX3_digits) (List.mem_of_getElem? (i := 40) rfl)), tb1 (ow1_1 (Cond.selects yX3_digits.cls yX3_digits yX3_digits) (List.mem_of_getElem? (i := 39) rfl)), ini_X3, tb1 (List.mem_of_getElem? (i := 171) rfl)⟩
theorem zi_X3_degree : zI yX3_degree cX3_degree 2 (some .int) := ⟨tb1 (ow1_1 (Cond.instanceMethod yX3_degree) (List.mem_of_getElem? (i := 42) rfl)), tb1 (ow1_1 (Cond.selects yX3_degree.cls yX3_degree yX3_degree) (List.mem_of_getElem? (i := 41) rfl)), ini_X3, tb1 (List.mem_of_getElem? (i := 175) rfl)⟩
theorem zi_X3_low : zI yX3_low cX3_low 2 (some .int) := ⟨tb1 (ow1_1 (Cond.instanceMethod yX3_low) (List.mem_of_getElem? (i := 44) rfl)), tb1 (ow1_1 (Cond.selects yX3_low.cls yX3_low yX3_low) (List.mem_of_getElem? (i := 43) rfl)), ini_X3, tb1 (List.mem_of_getElem? (i := 179) rfl)⟩
theorem zi_X3_weight : zI yX3_weight cX3_weight 2 (some .int) := ⟨tb1 (ow1_1 (Cond.instanceMethod yX3_weight) (List.mem_of_getElem? (i := 46) rfl)), tb1 (ow1_1 (Cond.selects yX3_weight.cls yX3_weight yX3_weight) (List.mem_of_getElem? (i := 45) rfl)), ini_X3, tb1 (List.mem_of_getElem? (i := 183) rfl)⟩
theorem zs_J13_bitCount_95d88 : zS yJ13_bitCount_95d88 cJ13_bitCount_95d88 2 (some .int) := ⟨tb1 (ow1_1 (Cond.static yJ13_bitCount_95d88) (List.mem_of_getElem? (i := 47) rfl)), ini_J13, tb1 (List.mem_of_getElem? (i := 186) rfl)⟩
theorem zi_X3_find : zI yX3_find cX3_find 7 (some .int) := ⟨tb1 (ow1_1 (Cond.instanceMethod yX3_find) (List.mem_of_getElem? (i := 49) rfl)), tb1 (ow1_1 (Cond.selects yX3_find.cls yX3_find yX3_find) (List.mem_of_getElem? (i := 48) rfl)), ini_X3, tb1 (List.mem_of_getElem? (i := 193) rfl)⟩
theorem zi_X3_order : zI yX3_order cX3_order 7 (some .int) := ⟨tb1 (ow1_2 (Cond.instanceMethod yX3_order) (List.mem_of_getElem? (i := 1) rfl)), tb1 (ow1_2 (Cond.selects yX3_order.cls yX3_order yX3_order) (List.mem_of_getElem? (i := 0) rfl)), ini_X3, tb1 (List.mem_of_getElem? (i := 197) rfl)⟩
theorem zi_X3_house : zI yX3_house cX3_house 2 (some .int) := ⟨tb1 (ow1_2 (Cond.instanceMethod yX3_house) (List.mem_of_getElem? (i := 3) rfl)), tb1 (ow1_2 (Cond.selects yX3_house.cls yX3_house yX3_house) (List.mem_of_getElem? (i := 2) rfl)), ini_X3, tb1 (List.mem_of_getElem? (i := 201) rfl)⟩
theorem zs_X3_checkRange : zS yX3_checkRange cX3_checkRange 3 none := ⟨tb1 (ow1_2 (Cond.static yX3_checkRange) (List.mem_of_getElem? (i := 4) rfl)), ini_X3, tb1 (List.mem_of_getElem? (i := 204) rfl)⟩
theorem zi_X3_cellsWithZero : zI yX3_cellsWithZero cX3_cellsWithZero 3 (some .int) := ⟨tb1 (ow1_2 (Cond.instanceMethod yX3_cellsWithZero) (List.mem_of_getElem? (i := 5) rfl)), List.mem_append_left _ (List.mem_of_getElem? (i := 3) (by decide +kernel)), ini_X3, tb1 (List.mem_of_getElem? (i := 224) rfl)⟩
theorem zi_X3_allWeights : zI yX3_allWeights cX3_allWeights 3 (some .int) := ⟨tb1 (ow1_2 (Cond.instanceMethod yX3_allWeights) (List.mem_of_getElem? (i := 6) rfl)), List.mem_append_left _ (List.mem_of_getElem? (i := 4) (by decide +kernel)), ini_X3, tb1 (List.mem_of_getElem? (i := 228) rfl)⟩
theorem zi_X4_init : zN yX4_init cX4_init 1 := ⟨tb1 (ow1_2 (Cond.instanceMethod yX4_init) (List.mem_of_getElem? (i := 7) rfl)), ini_X4, tb1 (List.mem_of_getElem? (i := 234) rfl)⟩
theorem zi_X3_put : zI yX3_put cX3_put 3 (some .int) := ⟨tb2 (ow2_1 (Cond.instanceMethod yX3_put) (List.mem_of_getElem? (i := 31) rfl)), tb2 (ow2_1 (Cond.selects yX3_put.cls yX3_put yX3_put) (List.mem_of_getElem? (i := 30) rfl)), ini_X3, tb2 (List.mem_of_getElem? (i := 10) rfl)⟩
theorem zi_X3_fill : zI yX3_fill cX3_fill 5 (some .int) := ⟨tb2 (ow2_1 (Cond.instanceMethod yX3_fill) (List.mem_of_getElem? (i := 32) rfl)), List.mem_append_left _ (List.mem_of_getElem? (i := 5) (by decide +kernel)), ini_X3, tb2 (List.mem_of_getElem? (i := 15) rfl)⟩
theorem zi_X3_mono : zI yX3_mono cX3_mono 3 (some .int) := ⟨tb2 (ow2_1 (Cond.instanceMethod yX3_mono) (List.mem_of_getElem? (i := 34) rfl)), tb2 (ow2_1 (Cond.selects yX3_mono.cls yX3_mono yX3_mono) (List.mem_of_getElem? (i := 33) rfl)), ini_X3, tb2 (List.mem_of_getElem? (i := 23) rfl)⟩
theorem zi_X3_digit : zI yX3_digit cX3_digit 6 (some .boolean) := ⟨tb2 (ow2_1 (Cond.instanceMethod yX3_digit) (List.mem_of_getElem? (i := 36) rfl)), tb2 (ow2_1 (Cond.selects yX3_digit.cls yX3_digit yX3_digit) (List.mem_of_getElem? (i := 35) rfl)), ini_X3, tb2 (List.mem_of_getElem? (i := 31) rfl)⟩
theorem zi_X3_flip : zI yX3_flip cX3_flip 5 (some .boolean) := ⟨tb2 (ow2_1 (Cond.instanceMethod yX3_flip) (List.mem_of_getElem? (i := 38) rfl)), tb2 (ow2_1 (Cond.selects yX3_flip.cls yX3_flip yX3_flip) (List.mem_of_getElem? (i := 37) rfl)), ini_X3, tb2 (List.mem_of_getElem? (i := 40) rfl)⟩
theorem zi_X3_copy : zI yX3_copy cX3_copy 5 (some .int) := ⟨tb2 (ow2_1 (Cond.instanceMethod yX3_copy) (List.mem_of_getElem? (i := 40) rfl)), tb2 (ow2_1 (Cond.selects yX3_copy.cls yX3_copy yX3_copy) (List.mem_of_getElem? (i := 39) rfl)), ini_X3, tb2 (List.mem_of_getElem? (i := 47) rfl)⟩
theorem zi_X3_swap : zI yX3_swap cX3_swap 7 (some .int) := ⟨tb2 (ow2_1 (Cond.instanceMethod yX3_swap) (List.mem_of_getElem? (i := 42) rfl)), tb2 (ow2_1 (Cond.selects yX3_swap.cls yX3_swap yX3_swap) (List.mem_of_getElem? (i := 41) rfl)), ini_X3, tb2 (List.mem_of_getElem? (i := 54) rfl)⟩
theorem zi_X3_end : zI yX3_end cX3_end 9 (some .int) := ⟨tb2 (ow2_1 (Cond.instanceMethod yX3_end) (List.mem_of_getElem? (i := 44) rfl)), tb2 (ow2_1 (Cond.selects yX3_end.cls yX3_end yX3_end) (List.mem_of_getElem? (i := 43) rfl)), ini_X3, tb2 (List.mem_of_getElem? (i := 61) rfl)⟩
theorem zs_J9_max_f86c9 : zS yJ9_max_f86c9 cJ9_max_f86c9 4 (some .long) := ⟨tb2 (ow2_1 (Cond.static yJ9_max_f86c9) (List.mem_of_getElem? (i := 45) rfl)), ini_J9, tb2 (List.mem_of_getElem? (i := 64) rfl)⟩
theorem zs_J9_min_f86c9 : zS yJ9_min_f86c9 cJ9_min_f86c9 4 (some .long) := ⟨tb2 (ow2_1 (Cond.static yJ9_min_f86c9) (List.mem_of_getElem? (i := 46) rfl)), ini_J9, tb2 (List.mem_of_getElem? (i := 67) rfl)⟩
theorem zi_X3_join : zI yX3_join cX3_join 9 (some .int) := ⟨tb2 (ow2_1 (Cond.instanceMethod yX3_join) (List.mem_of_getElem? (i := 48) rfl)), tb2 (ow2_1 (Cond.selects yX3_join.cls yX3_join yX3_join) (List.mem_of_getElem? (i := 47) rfl)), ini_X3, tb2 (List.mem_of_getElem? (i := 74) rfl)⟩
theorem zs_X1_joined : zS yX1_joined cX1_joined 5 (some .long) := ⟨tb2 (ow2_1 (Cond.static yX1_joined) (List.mem_of_getElem? (i := 49) rfl)), ini_X1, tb2 (List.mem_of_getElem? (i := 77) rfl)⟩
theorem zi_X3_times : zI yX3_times cX3_times 8 (some .int) := ⟨tb2 (ow2_2 (Cond.instanceMethod yX3_times) (List.mem_of_getElem? (i := 1) rfl)), tb2 (ow2_2 (Cond.selects yX3_times.cls yX3_times yX3_times) (List.mem_of_getElem? (i := 0) rfl)), ini_X3, tb2 (List.mem_of_getElem? (i := 85) rfl)⟩
theorem zi_X3_fillProduct : zI yX3_fillProduct cX3_fillProduct 6 (some .int) := ⟨tb2 (ow2_2 (Cond.instanceMethod yX3_fillProduct) (List.mem_of_getElem? (i := 2) rfl)), List.mem_append_left _ (List.mem_of_getElem? (i := 6) (by decide +kernel)), ini_X3, tb2 (List.mem_of_getElem? (i := 89) rfl)⟩
theorem zi_X3_refuse : zI yX3_refuse cX3_refuse 1 (some .int) := ⟨tb2 (ow2_2 (Cond.instanceMethod yX3_refuse) (List.mem_of_getElem? (i := 3) rfl)), List.mem_append_left _ (List.mem_of_getElem? (i := 7) (by decide +kernel)), ini_X3, tb2 (List.mem_of_getElem? (i := 93) rfl)⟩
theorem zi_X3_square : zI yX3_square cX3_square 5 (some .int) := ⟨tb2 (ow2_2 (Cond.instanceMethod yX3_square) (List.mem_of_getElem? (i := 5) rfl)), tb2 (ow2_2 (Cond.selects yX3_square.cls yX3_square yX3_square) (List.mem_of_getElem? (i := 4) rfl)), ini_X3, tb2 (List.mem_of_getElem? (i := 100) rfl)⟩
theorem zi_X3_shift : zI yX3_shift cX3_shift 6 (some .int) := ⟨tb2 (ow2_2 (Cond.instanceMethod yX3_shift) (List.mem_of_getElem? (i := 7) rfl)), tb2 (ow2_2 (Cond.selects yX3_shift.cls yX3_shift yX3_shift) (List.mem_of_getElem? (i := 6) rfl)), ini_X3, tb2 (List.mem_of_getElem? (i := 107) rfl)⟩
theorem zi_X3_quotient : zI yX3_quotient cX3_quotient 8 (some .int) := ⟨tb2 (ow2_2 (Cond.instanceMethod yX3_quotient) (List.mem_of_getElem? (i := 9) rfl)), tb2 (ow2_2 (Cond.selects yX3_quotient.cls yX3_quotient yX3_quotient) (List.mem_of_getElem? (i := 8) rfl)), ini_X3, tb2 (List.mem_of_getElem? (i := 114) rfl)⟩
theorem zi_X3_rest : zI yX3_rest cX3_rest 8 (some .int) := ⟨tb2 (ow2_2 (Cond.instanceMethod yX3_rest) (List.mem_of_getElem? (i := 11) rfl)), tb2 (ow2_2 (Cond.selects yX3_rest.cls yX3_rest yX3_rest) (List.mem_of_getElem? (i := 10) rfl)), ini_X3, tb2 (List.mem_of_getElem? (i := 122) rfl)⟩
theorem zs_X1_restOf : zS yX1_restOf cX1_restOf 4 (some .long) := ⟨tb2 (ow2_2 (Cond.static yX1_restOf) (List.mem_of_getElem? (i := 12) rfl)), ini_X1, tb2 (List.mem_of_getElem? (i := 125) rfl)⟩
theorem zi_X3_gcd : zI yX3_gcd cX3_gcd 8 (some .int) := ⟨tb2 (ow2_2 (Cond.instanceMethod yX3_gcd) (List.mem_of_getElem? (i := 14) rfl)), tb2 (ow2_2 (Cond.selects yX3_gcd.cls yX3_gcd yX3_gcd) (List.mem_of_getElem? (i := 13) rfl)), ini_X3, tb2 (List.mem_of_getElem? (i := 132) rfl)⟩
theorem zi_X3_lcm : zI yX3_lcm cX3_lcm 8 (some .int) := ⟨tb2 (ow2_2 (Cond.instanceMethod yX3_lcm) (List.mem_of_getElem? (i := 16) rfl)), tb2 (ow2_2 (Cond.selects yX3_lcm.cls yX3_lcm yX3_lcm) (List.mem_of_getElem? (i := 15) rfl)), ini_X3, tb2 (List.mem_of_getElem? (i := 139) rfl)⟩
theorem zi_X3_bezout : zI yX3_bezout cX3_bezout 9 (some .int) := ⟨tb2 (ow2_2 (Cond.instanceMethod yX3_bezout) (List.mem_of_getElem? (i := 18) rfl)), tb2 (ow2_2 (Cond.selects yX3_bezout.cls yX3_bezout yX3_bezout) (List.mem_of_getElem? (i := 17) rfl)), ini_X3, tb2 (List.mem_of_getElem? (i := 146) rfl)⟩
theorem zi_X3_derive : zI yX3_derive cX3_derive 5 (some .int) := ⟨tb2 (ow2_2 (Cond.instanceMethod yX3_derive) (List.mem_of_getElem? (i := 20) rfl)), tb2 (ow2_2 (Cond.selects yX3_derive.cls yX3_derive yX3_derive) (List.mem_of_getElem? (i := 19) rfl)), ini_X3, tb2 (List.mem_of_getElem? (i := 153) rfl)⟩
theorem zs_X1_derived : zS yX1_derived cX1_derived 2 (some .long) := ⟨tb2 (ow2_2 (Cond.static yX1_derived) (List.mem_of_getElem? (i := 21) rfl)), ini_X1, tb2 (List.mem_of_getElem? (i := 156) rfl)⟩
theorem zi_X3_root : zI yX3_root cX3_root 5 (some .int) := ⟨tb2 (ow2_2 (Cond.instanceMethod yX3_root) (List.mem_of_getElem? (i := 23) rfl)), tb2 (ow2_2 (Cond.selects yX3_root.cls yX3_root yX3_root) (List.mem_of_getElem? (i := 22) rfl)), ini_X3, tb2 (List.mem_of_getElem? (i := 164) rfl)⟩
theorem zs_X1_evenPlacesHalved : zS yX1_evenPlacesHalved cX1_evenPlacesHalved 5 (some .long) := ⟨tb2 (ow2_2 (Cond.static yX1_evenPlacesHalved) (List.mem_of_getElem? (i := 24) rfl)), ini_X1, tb2 (List.mem_of_getElem? (i := 167) rfl)⟩
theorem zi_X3_turn : zI yX3_turn cX3_turn 5 (some .int) := ⟨tb2 (ow2_2 (Cond.instanceMethod yX3_turn) (List.mem_of_getElem? (i := 26) rfl)), tb2 (ow2_2 (Cond.selects yX3_turn.cls yX3_turn yX3_turn) (List.mem_of_getElem? (i := 25) rfl)), ini_X3, tb2 (List.mem_of_getElem? (i := 174) rfl)⟩
theorem zs_X1_turned : zS yX1_turned cX1_turned 6 (some .long) := ⟨tb2 (ow2_2 (Cond.static yX1_turned) (List.mem_of_getElem? (i := 27) rfl)), ini_X1, tb2 (List.mem_of_getElem? (i := 177) rfl)⟩
theorem zi_X3_move : zI yX3_move cX3_move 5 (some .int) := ⟨tb2 (ow2_2 (Cond.instanceMethod yX3_move) (List.mem_of_getElem? (i := 29) rfl)), tb2 (ow2_2 (Cond.selects yX3_move.cls yX3_move yX3_move) (List.mem_of_getElem? (i := 28) rfl)), ini_X3, tb2 (List.mem_of_getElem? (i := 184) rfl)⟩
theorem zs_X1_moved : zS yX1_moved cX1_moved 5 (some .long) := ⟨tb2 (ow2_2 (Cond.static yX1_moved) (List.mem_of_getElem? (i := 30) rfl)), ini_X1, tb2 (List.mem_of_getElem? (i := 187) rfl)⟩
theorem zi_X3_power : zI yX3_power cX3_power 9 (some .int) := ⟨tb2 (ow2_2 (Cond.instanceMethod yX3_power) (List.mem_of_getElem? (i := 32) rfl)), tb2 (ow2_2 (Cond.selects yX3_power.cls yX3_power yX3_power) (List.mem_of_getElem? (i := 31) rfl)), ini_X3, tb2 (List.mem_of_getElem? (i := 194) rfl)⟩
theorem zs_X3_hasDegreeIn : zS yX3_hasDegreeIn cX3_hasDegreeIn 5 (some .boolean) := ⟨tb2 (ow2_2 (Cond.static yX3_hasDegreeIn) (List.mem_of_getElem? (i := 33) rfl)), ini_X3, tb2 (List.mem_of_getElem? (i := 197) rfl)⟩
theorem zs_X1_powerRest : zS yX1_powerRest cX1_powerRest 10 (some .long) := ⟨tb2 (ow2_2 (Cond.static yX1_powerRest) (List.mem_of_getElem? (i := 34) rfl)), ini_X1, tb2 (List.mem_of_getElem? (i := 200) rfl)⟩
theorem zi_X3_nth : zI yX3_nth cX3_nth 6 (some .int) := ⟨tb2 (ow2_2 (Cond.instanceMethod yX3_nth) (List.mem_of_getElem? (i := 36) rfl)), tb2 (ow2_2 (Cond.selects yX3_nth.cls yX3_nth yX3_nth) (List.mem_of_getElem? (i := 35) rfl)), ini_X3, tb2 (List.mem_of_getElem? (i := 208) rfl)⟩
theorem zs_X0_withRank : zS yX0_withRank cX0_withRank 5 (some .long) := ⟨tb2 (ow2_2 (Cond.static yX0_withRank) (List.mem_of_getElem? (i := 37) rfl)), ini_X0, tb2 (List.mem_of_getElem? (i := 211) rfl)⟩
theorem zs_X0_isOne : zS yX0_isOne cX0_isOne 7 (some .boolean) := ⟨tb2 (ow2_2 (Cond.static yX0_isOne) (List.mem_of_getElem? (i := 38) rfl)), ini_X0, tb2 (List.mem_of_getElem? (i := 215) rfl)⟩
theorem zs_X1_isDivisor : zS yX1_isDivisor cX1_isDivisor 4 (some .boolean) := ⟨tb2 (ow2_2 (Cond.static yX1_isDivisor) (List.mem_of_getElem? (i := 39) rfl)), ini_X1, tb2 (List.mem_of_getElem? (i := 220) rfl)⟩
theorem zi_X3_field : zI yX3_field cX3_field 3 (some .int) := ⟨tb2 (ow2_2 (Cond.instanceMethod yX3_field) (List.mem_of_getElem? (i := 41) rfl)), tb2 (ow2_2 (Cond.selects yX3_field.cls yX3_field yX3_field) (List.mem_of_getElem? (i := 40) rfl)), ini_X3, tb2 (List.mem_of_getElem? (i := 227) rfl)⟩
theorem zs_X0_productForDivisors : zS yX0_productForDivisors cX0_productForDivisors 4 (some .long) := ⟨tb2 (ow2_2 (Cond.static yX0_productForDivisors) (List.mem_of_getElem? (i := 42) rfl)), ini_X0, tb2 (List.mem_of_getElem? (i := 230) rfl)⟩
theorem zs_X0_timesAllOf : zS yX0_timesAllOf cX0_timesAllOf 7 (some .long) := ⟨tb2 (ow2_2 (Cond.static yX0_timesAllOf) (List.mem_of_getElem? (i := 43) rfl)), ini_X0, tb2 (List.mem_of_getElem? (i := 233) rfl)⟩
theorem zi_X3_again : zI yX3_again cX3_again 6 (some .int) := ⟨tb2 (ow2_2 (Cond.instanceMethod yX3_again) (List.mem_of_getElem? (i := 44) rfl)), tb3 (ow3_1 (Cond.selects yX3_again.cls yX3_again yX3_again) (List.mem_of_getElem? (i := 33) rfl)), ini_X3, tb3 (List.mem_of_getElem? (i := 1) rfl)⟩
theorem zi_X3_at : zI yX3_at cX3_at 5 (some .boolean) := ⟨tb3 (ow3_1 (Cond.instanceMethod yX3_at) (List.mem_of_getElem? (i := 35) rfl)), tb3 (ow3_1 (Cond.selects yX3_at.cls yX3_at yX3_at) (List.mem_of_getElem? (i := 34) rfl)), ini_X3, tb3 (List.mem_of_getElem? (i := 20) rfl)⟩
theorem zi_X3_text : zI yX3_text cX3_text 2 (some (.object "java/lang/String")) := ⟨tb3 (ow3_1 (Cond.instanceMethod yX3_text) (List.mem_of_getElem? (i := 37) rfl)), tb3 (ow3_1 (Cond.selects yX3_text.cls yX3_text yX3_text) (List.mem_of_getElem? (i := 36) rfl)), ini_X3, tb3 (List.mem_of_getElem? (i := 31) rfl)⟩
theorem zs_X2_placesOf : zS yX2_placesOf cX2_placesOf 4 (some (.object "java/lang/String")) := ⟨tb3 (ow3_1 (Cond.static yX2_placesOf) (List.mem_of_getElem? (i := 38) rfl)), ini_X2, tb3 (List.mem_of_getElem? (i := 34) rfl)⟩
theorem zi_J4_init_da8c8 : zN yJ4_init_da8c8 cJ4_init_da8c8 1 := ⟨tb3 (ow3_1 (Cond.instanceMethod yJ4_init_da8c8) (List.mem_of_getElem? (i := 39) rfl)), ini_J4, tb3 (List.mem_of_getElem? (i := 40) rfl)⟩
theorem zi_J5_init_d00df : zN yJ5_init_d00df cJ5_init_d00df 2 := ⟨tb3 (ow3_1 (Cond.instanceMethod yJ5_init_d00df) (List.mem_of_getElem? (i := 40) rfl)), ini_J5, tb3 (List.mem_of_getElem? (i := 43) rfl)⟩
theorem zs_J2_newBytesFor_77867 : zS yJ2_newBytesFor_77867 cJ2_newBytesFor_77867 1 (some (.array .byte)) := ⟨tb3 (ow3_1 (Cond.static yJ2_newBytesFor_77867) (List.mem_of_getElem? (i := 41) rfl)), ini_J2, tb3 (List.mem_of_getElem? (i := 49) rfl)⟩
theorem zs_J2_newBytesLength_0f7a4 : zS yJ2_newBytesLength_0f7a4 cJ2_newBytesLength_0f7a4 1 (some .int) := ⟨tb3 (ow3_1 (Cond.static yJ2_newBytesLength_0f7a4) (List.mem_of_getElem? (i := 42) rfl)), ini_J2, tb3 (List.mem_of_getElem? (i := 52) rfl)⟩
theorem zi_J4_length_8abf5 : zI yJ4_length_8abf5 cJ4_length_8abf5 1 (some .int) := ⟨tb3 (ow3_1 (Cond.instanceMethod yJ4_length_8abf5) (List.mem_of_getElem? (i := 44) rfl)), tb3 (ow3_1 (Cond.selects yJ4_length_8abf5.cls yJ4_length_8abf5 yJ4_length_8abf5) (List.mem_of_getElem? (i := 43) rfl)), ini_J4, tb3 (List.mem_of_getElem? (i := 72) rfl)⟩
theorem zi_J4_append_cf468 : zI yJ4_append_cf468 cJ4_append_cf468 2 (some (.object "java/lang/StringBuilder")) := ⟨tb3 (ow3_1 (Cond.instanceMethod yJ4_append_cf468) (List.mem_of_getElem? (i := 46) rfl)), tb3 (ow3_1 (Cond.selects yJ4_append_cf468.cls yJ4_append_cf468 yJ4_append_cf468) (List.mem_of_getElem? (i := 45) rfl)), ini_J4, tb3 (List.mem_of_getElem? (i := 79) rfl)⟩
theorem zs_J8_newLength_cabcc : zS yJ8_newLength_cabcc cJ8_newLength_cabcc 4 (some .int) := ⟨tb3 (ow3_1 (Cond.static yJ8_newLength_cabcc) (List.mem_of_getElem? (i := 47) rfl)), ini_J8, tb3 (List.mem_of_getElem? (i := 93) rfl)⟩
theorem zs_J9_max_7cf53 : zS yJ9_max_7cf53 cJ9_max_7cf53 2 (some .int) := ⟨tb3 (ow3_1 (Cond.static yJ9_max_7cf53) (List.mem_of_getElem? (i := 48) rfl)), ini_J9, tb3 (List.mem_of_getElem? (i := 96) rfl)⟩
theorem zs_J8_hugeLength_7cf53 : zS yJ8_hugeLength_7cf53 cJ8_hugeLength_7cf53 3 (some .int) := ⟨tb3 (ow3_1 (Cond.static yJ8_hugeLength_7cf53) (List.mem_of_getElem? (i := 49) rfl)), ini_J8, tb3 (List.mem_of_getElem? (i := 100) rfl)⟩
theorem zs_J7_copyOf_9075b : zS yJ7_copyOf_9075b cJ7_copyOf_9075b 3 (some (.array .byte)) := ⟨tb3 (ow3_2 (Cond.static yJ7_copyOf_9075b) (List.mem_of_getElem? (i := 0) rfl)), ini_J7, tb3 (List.mem_of_getElem? (i := 104) rfl)⟩
theorem zs_J9_min_7cf53 : zS yJ9_min_7cf53 cJ9_min_7cf53 2 (some .int) := ⟨tb3 (ow3_2 (Cond.static yJ9_min_7cf53) (List.mem_of_getElem? (i := 1) rfl)), ini_J9, tb3 (List.mem_of_getElem? (i := 114) rfl)⟩
theorem zs_J1_canEncode_fc78d : zS yJ1_canEncode_fc78d cJ1_canEncode_fc78d 1 (some .boolean) := ⟨tb3 (ow3_2 (Cond.static yJ1_canEncode_fc78d) (List.mem_of_getElem? (i := 2) rfl)), ini_J1, tb3 (List.mem_of_getElem? (i := 125) rfl)⟩
theorem zs_J1_inflate_0e8fd : zS yJ1_inflate_0e8fd cJ1_inflate_0e8fd 5 none := ⟨tb3 (ow3_2 (Cond.static yJ1_inflate_0e8fd) (List.mem_of_getElem? (i := 3) rfl)), ini_J1, tb3 (List.mem_of_getElem? (i := 132) rfl)⟩
theorem zs_J2_inflate_0e8fd : zS yJ2_inflate_0e8fd cJ2_inflate_0e8fd 6 none := ⟨tb3 (ow3_2 (Cond.static yJ2_inflate_0e8fd) (List.mem_of_getElem? (i := 4) rfl)), ini_J2, tb3 (List.mem_of_getElem? (i := 135) rfl)⟩
theorem zs_J2_checkBoundsOffCount_d044e : zS yJ2_checkBoundsOffCount_d044e cJ2_checkBoundsOffCount_d044e 3 none := ⟨tb3 (ow3_2 (Cond.static yJ2_checkBoundsOffCount_d044e) (List.mem_of_getElem? (i := 5) rfl)), ini_J2, tb3 (List.mem_of_getElem? (i := 138) rfl)⟩
theorem zs_J2_length_9d52b : zS yJ2_length_9d52b cJ2_length_9d52b 1 (some .int) := ⟨tb3 (ow3_2 (Cond.static yJ2_length_9d52b) (List.mem_of_getElem? (i := 6) rfl)), ini_J2, tb3 (List.mem_of_getElem? (i := 141) rfl)⟩
theorem zs_J0_checkBoundsOffCount_cabcc : zS yJ0_checkBoundsOffCount_cabcc cJ0_checkBoundsOffCount_cabcc 3 (some .int) := ⟨tb3 (ow3_2 (Cond.static yJ0_checkBoundsOffCount_cabcc) (List.mem_of_getElem? (i := 7) rfl)), ini_J0, tb3 (List.mem_of_getElem? (i := 144) rfl)⟩
theorem zs_J3_checkFromIndexSize_8c36e : zS yJ3_checkFromIndexSize_8c36e cJ3_checkFromIndexSize_8c36e 4 (some .int) := ⟨tb3 (ow3_2 (Cond.static yJ3_checkFromIndexSize_8c36e) (List.mem_of_getElem? (i := 8) rfl)), ini_J3, tb3 (List.mem_of_getElem? (i := 149) rfl)⟩
theorem zs_J2_putChar_b72d1 : zS yJ2_putChar_b72d1 cJ2_putChar_b72d1 3 none := ⟨tb3 (ow3_2 (Cond.static yJ2_putChar_b72d1) (List.mem_of_getElem? (i := 9) rfl)), ini_J2, tb3 (List.mem_of_getElem? (i := 152) rfl)⟩
theorem zs_J2_putCharSB_b72d1 : zS yJ2_putCharSB_b72d1 cJ2_putCharSB_b72d1 3 none := ⟨tb3 (ow3_2 (Cond.static yJ2_putCharSB_b72d1) (List.mem_of_getElem? (i := 10) rfl)), ini_J2, tb3 (List.mem_of_getElem? (i := 161) rfl)⟩
theorem zs_J2_checkIndex_2214a : zS yJ2_checkIndex_2214a cJ2_checkIndex_2214a 2 none := ⟨tb3 (ow3_2 (Cond.static yJ2_checkIndex_2214a) (List.mem_of_getElem? (i := 11) rfl)), ini_J2, tb3 (List.mem_of_getElem? (i := 164) rfl)⟩
theorem zs_J0_checkIndex_df160 : zS yJ0_checkIndex_df160 cJ0_checkIndex_df160 2 none := ⟨tb3 (ow3_2 (Cond.static yJ0_checkIndex_df160) (List.mem_of_getElem? (i := 12) rfl)), ini_J0, tb3 (List.mem_of_getElem? (i := 167) rfl)⟩
theorem zs_J3_checkIndex_8e157 : zS yJ3_checkIndex_8e157 cJ3_checkIndex_8e157 3 (some .int) := ⟨tb3 (ow3_2 (Cond.static yJ3_checkIndex_8e157) (List.mem_of_getElem? (i := 13) rfl)), ini_J3, tb3 (List.mem_of_getElem? (i := 170) rfl)⟩
theorem zi_J4_append_bf812 : zI yJ4_append_bf812 cJ4_append_bf812 2 (some (.object "java/lang/StringBuilder")) := ⟨tb3 (ow3_2 (Cond.instanceMethod yJ4_append_bf812) (List.mem_of_getElem? (i := 15) rfl)), tb3 (ow3_2 (Cond.selects yJ4_append_bf812.cls yJ4_append_bf812 yJ4_append_bf812) (List.mem_of_getElem? (i := 14) rfl)), ini_J4, tb3 (List.mem_of_getElem? (i := 174) rfl)⟩
theorem zs_J6_stringSize_0f7a4 : zS yJ6_stringSize_0f7a4 cJ6_stringSize_0f7a4 4 (some .int) := ⟨tb3 (ow3_2 (Cond.static yJ6_stringSize_0f7a4) (List.mem_of_getElem? (i := 16) rfl)), ini_J6, tb3 (List.mem_of_getElem? (i := 180) rfl)⟩
theorem zs_J6_getChars_ba4f3 : zS yJ6_getChars_ba4f3 cJ6_getChars_ba4f3 7 (some .int) := ⟨tb3 (ow3_2 (Cond.static yJ6_getChars_ba4f3) (List.mem_of_getElem? (i := 17) rfl)), ini_J6, tb3 (List.mem_of_getElem? (i := 183) rfl)⟩
theorem zs_J2_getChars_46870 : zS yJ2_getChars_46870 cJ2_getChars_46870 5 (some .int) := ⟨tb3 (ow3_2 (Cond.static yJ2_getChars_46870) (List.mem_of_getElem? (i := 18) rfl)), ini_J2, tb3 (List.mem_of_getElem? (i := 190) rfl)⟩
theorem zs_J2_checkBoundsBeginEnd_d044e : zS yJ2_checkBoundsBeginEnd_d044e cJ2_checkBoundsBeginEnd_d044e 3 none := ⟨tb3 (ow3_2 (Cond.static yJ2_checkBoundsBeginEnd_d044e) (List.mem_of_getElem? (i := 19) rfl)), ini_J2, tb3 (List.mem_of_getElem? (i := 193) rfl)⟩
theorem zs_J0_checkBoundsBeginEnd_23922 : zS yJ0_checkBoundsBeginEnd_23922 cJ0_checkBoundsBeginEnd_23922 3 none := ⟨tb3 (ow3_2 (Cond.static yJ0_checkBoundsBeginEnd_23922) (List.mem_of_getElem? (i := 20) rfl)), ini_J0, tb3 (List.mem_of_getElem? (i := 196) rfl)⟩
theorem zs_J3_checkFromToIndex_8c36e : zS yJ3_checkFromToIndex_8c36e cJ3_checkFromToIndex_8c36e 4 (some .int) := ⟨tb3 (ow3_2 (Cond.static yJ3_checkFromToIndex_8c36e) (List.mem_of_getElem? (i := 21) rfl)), ini_J3, tb3 (List.mem_of_getElem? (i := 199) rfl)⟩
theorem zs_J2_getChars_ba4f3 : zS yJ2_getChars_ba4f3 cJ2_getChars_ba4f3 7 (some .int) := ⟨tb3 (ow3_2 (Cond.static yJ2_getChars_ba4f3) (List.mem_of_getElem? (i := 22) rfl)), ini_J2, tb3 (List.mem_of_getElem? (i := 202) rfl)⟩
theorem zi_J4_toString_0e30d : zI yJ4_toString_0e30d cJ4_toString_0e30d 1 (some (.object "java/lang/String")) := ⟨tb3 (ow3_2 (Cond.instanceMethod yJ4_toString_0e30d) (List.mem_of_getElem? (i := 24) rfl)), tb3 (ow3_2 (Cond.selects yJ4_toString_0e30d.cls yJ4_toString_0e30d yJ4_toString_0e30d) (List.mem_of_getElem? (i := 23) rfl)), ini_J4, tb3 (List.mem_of_getElem? (i := 208) rfl)⟩
theorem zi_J0_init_81219 : zN yJ0_init_81219 cJ0_init_81219 2 := ⟨tb3 (ow3_2 (Cond.instanceMethod yJ0_init_81219) (List.mem_of_getElem? (i := 25) rfl)), ini_J0, tb3 (List.mem_of_getElem? (i := 213) rfl)⟩
theorem zi_J0_init_db425 : zN yJ0_init_db425 cJ0_init_db425 5 := ⟨tb3 (ow3_2 (Cond.instanceMethod yJ0_init_db425) (List.mem_of_getElem? (i := 26) rfl)), ini_J0, tb3 (List.mem_of_getElem? (i := 216) rfl)⟩
theorem zs_J7_copyOfRange_39247 : zS yJ7_copyOfRange_39247 cJ7_copyOfRange_39247 3 (some (.array .byte)) := ⟨tb3 (ow3_2 (Cond.static yJ7_copyOfRange_39247) (List.mem_of_getElem? (i := 27) rfl)), ini_J7, tb3 (List.mem_of_getElem? (i := 227) rfl)⟩
theorem zs_J7_copyOfRangeByte_39247 : zS yJ7_copyOfRangeByte_39247 cJ7_copyOfRangeByte_39247 5 (some (.array .byte)) := ⟨tb3 (ow3_2 (Cond.static yJ7_copyOfRangeByte_39247) (List.mem_of_getElem? (i := 28) rfl)), ini_J7, tb3 (List.mem_of_getElem? (i := 230) rfl)⟩
theorem zs_J7_checkLength_df160 : zS yJ7_checkLength_df160 cJ7_checkLength_df160 2 none := ⟨tb3 (ow3_2 (Cond.static yJ7_checkLength_df160) (List.mem_of_getElem? (i := 29) rfl)), ini_J7, tb3 (List.mem_of_getElem? (i := 233) rfl)⟩
theorem zi_J4_append_15ec4 : zI yJ4_append_15ec4 cJ4_append_15ec4 2 (some (.object "java/lang/StringBuilder")) := ⟨tb4 (ow4_1 (Cond.instanceMethod yJ4_append_15ec4) (List.mem_of_getElem? (i := 32) rfl)), tb4 (ow4_1 (Cond.selects yJ4_append_15ec4.cls yJ4_append_15ec4 yJ4_append_15ec4) (List.mem_of_getElem? (i := 31) rfl)), ini_J4, tb4 (List.mem_of_getElem? (i := 2) rfl)⟩
theorem zs_J2_putCharsAt_cd4e5 : zS yJ2_putCharsAt_cd4e5 cJ2_putCharsAt_cd4e5 7 (some .int) := ⟨tb4 (ow4_1 (Cond.static yJ2_putCharsAt_cd4e5) (List.mem_of_getElem? (i := 33) rfl)), ini_J2, tb4 (List.mem_of_getElem? (i := 12) rfl)⟩
theorem zi_J0_length_8abf5 : zI yJ0_length_8abf5 cJ0_length_8abf5 1 (some .int) := ⟨tb4 (ow4_1 (Cond.instanceMethod yJ0_length_8abf5) (List.mem_of_getElem? (i := 35) rfl)), tb4 (ow4_1 (Cond.selects yJ0_length_8abf5.cls yJ0_length_8abf5 yJ0_length_8abf5) (List.mem_of_getElem? (i := 34) rfl)), ini_J0, tb4 (List.mem_of_getElem? (i := 16) rfl)⟩
theorem zi_J0_coder_7d493 : zI yJ0_coder_7d493 cJ0_coder_7d493 1 (some .byte) := ⟨tb4 (ow4_1 (Cond.instanceMethod yJ0_coder_7d493) (List.mem_of_getElem? (i := 37) rfl)), tb4 (ow4_1 (Cond.selects yJ0_coder_7d493.cls yJ0_coder_7d493 yJ0_coder_7d493) (List.mem_of_getElem? (i := 36) rfl)), ini_J0, tb4 (List.mem_of_getElem? (i := 20) rfl)⟩
theorem zi_J0_getBytes_840e7 : zI yJ0_getBytes_840e7 cJ0_getBytes_840e7 4 none := ⟨tb4 (ow4_1 (Cond.instanceMethod yJ0_getBytes_840e7) (List.mem_of_getElem? (i := 39) rfl)), tb4 (ow4_1 (Cond.selects yJ0_getBytes_840e7.cls yJ0_getBytes_840e7 yJ0_getBytes_840e7) (List.mem_of_getElem? (i := 38) rfl)), ini_J0, tb4 (List.mem_of_getElem? (i := 34) rfl)⟩
theorem zs_J2_compress_39247 : zS yJ2_compress_39247 cJ2_compress_39247 6 (some (.array .byte)) := ⟨tb4 (ow4_1 (Cond.static yJ2_compress_39247) (List.mem_of_getElem? (i := 40) rfl)), ini_J2, tb4 (List.mem_of_getElem? (i := 41) rfl)⟩
theorem zs_J2_compress_5af95 : zS yJ2_compress_5af95 cJ2_compress_5af95 7 (some .int) := ⟨tb4 (ow4_1 (Cond.static yJ2_compress_5af95) (List.mem_of_getElem? (i := 41) rfl)), ini_J2, tb4 (List.mem_of_getElem? (i := 44) rfl)⟩
theorem zs_J2_getChar_3b067 : zS yJ2_getChar_3b067 cJ2_getChar_3b067 2 (some .char) := ⟨tb4 (ow4_1 (Cond.static yJ2_getChar_3b067) (List.mem_of_getElem? (i := 42) rfl)), ini_J2, tb4 (List.mem_of_getElem? (i := 47) rfl)⟩
theorem zs_J2_coderFromArrayLen_85cad : zS yJ2_coderFromArrayLen_85cad cJ2_coderFromArrayLen_85cad 2 (some .byte) := ⟨tb4 (ow4_1 (Cond.static yJ2_coderFromArrayLen_85cad) (List.mem_of_getElem? (i := 43) rfl)), ini_J2, tb4 (List.mem_of_getElem? (i := 51) rfl)⟩
theorem zi_X3_code : zI yX3_code cX3_code 5 (some (.object "java/lang/String")) := ⟨tb4 (ow4_1 (Cond.instanceMethod yX3_code) (List.mem_of_getElem? (i := 45) rfl)), tb4 (ow4_1 (Cond.selects yX3_code.cls yX3_code yX3_code) (List.mem_of_getElem? (i := 44) rfl)), ini_X3, tb4 (List.mem_of_getElem? (i := 69) rfl)⟩
theorem zs_X2_numberIn : zS yX2_numberIn cX2_numberIn 7 (some (.object "java/lang/String")) := ⟨tb4 (ow4_1 (Cond.static yX2_numberIn) (List.mem_of_getElem? (i := 46) rfl)), ini_X2, tb4 (List.mem_of_getElem? (i := 72) rfl)⟩
theorem zs_X2_signOf : zS yX2_signOf cX2_signOf 1 (some .char) := ⟨tb4 (ow4_1 (Cond.static yX2_signOf) (List.mem_of_getElem? (i := 47) rfl)), ini_X2, tb4 (List.mem_of_getElem? (i := 76) rfl)⟩
theorem zi_J4_reverse_43fcb : zI yJ4_reverse_43fcb cJ4_reverse_43fcb 1 (some (.object "java/lang/StringBuilder")) := ⟨tb4 (ow4_1 (Cond.instanceMethod yJ4_reverse_43fcb) (List.mem_of_getElem? (i := 49) rfl)), tb4 (ow4_1 (Cond.selects yJ4_reverse_43fcb.cls yJ4_reverse_43fcb yJ4_reverse_43fcb) (List.mem_of_getElem? (i := 48) rfl)), ini_J4, tb4 (List.mem_of_getElem? (i := 80) rfl)⟩
theorem zs_J2_reverse_db04f : zS yJ2_reverse_db04f cJ2_reverse_db04f 8 none := ⟨tb4 (ow4_2 (Cond.static yJ2_reverse_db04f) (List.mem_of_getElem? (i := 0) rfl)), ini_J2, tb4 (List.mem_of_getElem? (i := 86) rfl)⟩
theorem zs_J2_checkOffset_2214a : zS yJ2_checkOffset_2214a cJ2_checkOffset_2214a 2 none := ⟨tb4 (ow4_2 (Cond.static yJ2_checkOffset_2214a) (List.mem_of_getElem? (i := 1) rfl)), ini_J2, tb4 (List.mem_of_getElem? (i := 89) rfl)⟩
theorem zs_J0_checkOffset_df160 : zS yJ0_checkOffset_df160 cJ0_checkOffset_df160 2 none := ⟨tb4 (ow4_2 (Cond.static yJ0_checkOffset_df160) (List.mem_of_getElem? (i := 2) rfl)), ini_J0, tb4 (List.mem_of_getElem? (i := 92) rfl)⟩
theorem zs_J11_isSurrogate_fc78d : zS yJ11_isSurrogate_fc78d cJ11_isSurrogate_fc78d 1 (some .boolean) := ⟨tb4 (ow4_2 (Cond.static yJ11_isSurrogate_fc78d) (List.mem_of_getElem? (i := 3) rfl)), ini_J11, tb4 (List.mem_of_getElem? (i := 95) rfl)⟩
theorem zs_J2_reverseAllValidSurrogatePairs_db04f : zS yJ2_reverseAllValidSurrogatePairs_db04f cJ2_reverseAllValidSurrogatePairs_db04f 5 none := ⟨tb4 (ow4_2 (Cond.static yJ2_reverseAllValidSurrogatePairs_db04f) (List.mem_of_getElem? (i := 4) rfl)), ini_J2, tb4 (List.mem_of_getElem? (i := 100) rfl)⟩
theorem zs_J11_isLowSurrogate_fc78d : zS yJ11_isLowSurrogate_fc78d cJ11_isLowSurrogate_fc78d 1 (some .boolean) := ⟨tb4 (ow4_2 (Cond.static yJ11_isLowSurrogate_fc78d) (List.mem_of_getElem? (i := 5) rfl)), ini_J11, tb4 (List.mem_of_getElem? (i := 103) rfl)⟩
theorem zs_J11_isHighSurrogate_fc78d : zS yJ11_isHighSurrogate_fc78d cJ11_isHighSurrogate_fc78d 1 (some .boolean) := ⟨tb4 (ow4_2 (Cond.static yJ11_isHighSurrogate_fc78d) (List.mem_of_getElem? (i := 6) rfl)), ini_J11, tb4 (List.mem_of_getElem? (i := 107) rfl)⟩
theorem zi_X3_isSame : zI yX3_isSame cX3_isSame 3 (some .boolean) := ⟨tb4 (ow4_2 (Cond.instanceMethod yX3_isSame) (List.mem_of_getElem? (i := 8) rfl)), tb4 (ow4_2 (Cond.selects yX3_isSame.cls yX3_isSame yX3_isSame) (List.mem_of_getElem? (i := 7) rfl)), ini_X3, tb4 (List.mem_of_getElem? (i := 118) rfl)⟩
theorem zi_X3_value : zI yX3_value cX3_value 5 (some .int) := ⟨tb4 (ow4_2 (Cond.instanceMethod yX3_value) (List.mem_of_getElem? (i := 10) rfl)), tb4 (ow4_2 (Cond.selects yX3_value.cls yX3_value yX3_value) (List.mem_of_getElem? (i := 9) rfl)), ini_X3, tb4 (List.mem_of_getElem? (i := 125) rfl)⟩
theorem zi_X3_divides : zI yX3_divides cX3_divides 3 (some .boolean) := ⟨tb4 (ow4_2 (Cond.instanceMethod yX3_divides) (List.mem_of_getElem? (i := 12) rfl)), tb4 (ow4_2 (Cond.selects yX3_divides.cls yX3_divides yX3_divides) (List.mem_of_getElem? (i := 11) rfl)), ini_X3, tb4 (List.mem_of_getElem? (i := 132) rfl)⟩
theorem zi_X3_isFree : zI yX3_isFree cX3_isFree 4 (some .boolean) := ⟨tb4 (ow4_2 (Cond.instanceMethod yX3_isFree) (List.mem_of_getElem? (i := 14) rfl)), tb4 (ow4_2 (Cond.selects yX3_isFree.cls yX3_isFree yX3_isFree) (List.mem_of_getElem? (i := 13) rfl)), ini_X3, tb4 (List.mem_of_getElem? (i := 140) rfl)⟩
theorem zi_X3_irreducible : zI yX3_irreducible cX3_irreducible 4 (some .int) := ⟨tb4 (ow4_2 (Cond.instanceMethod yX3_irreducible) (List.mem_of_getElem? (i := 16) rfl)), tb4 (ow4_2 (Cond.selects yX3_irreducible.cls yX3_irreducible yX3_irreducible) (List.mem_of_getElem? (i := 15) rfl)), ini_X3, tb4 (List.mem_of_getElem? (i := 147) rfl)⟩
theorem zi_X3_rank : zI yX3_rank cX3_rank 4 (some .int) := ⟨tb4 (ow4_2 (Cond.instanceMethod yX3_rank) (List.mem_of_getElem? (i := 18) rfl)), tb4 (ow4_2 (Cond.selects yX3_rank.cls yX3_rank yX3_rank) (List.mem_of_getElem? (i := 17) rfl)), ini_X3, tb4 (List.mem_of_getElem? (i := 155) rfl)⟩
theorem zs_X0_countBelow : zS yX0_countBelow cX0_countBelow 6 (some .int) := ⟨tb4 (ow4_2 (Cond.static yX0_countBelow) (List.mem_of_getElem? (i := 19) rfl)), ini_X0, tb4 (List.mem_of_getElem? (i := 158) rfl)⟩
theorem zi_X3_factors : zI yX3_factors cX3_factors 4 (some (.object "java/lang/String")) := ⟨tb4 (ow4_2 (Cond.instanceMethod yX3_factors) (List.mem_of_getElem? (i := 21) rfl)), tb4 (ow4_2 (Cond.selects yX3_factors.cls yX3_factors yX3_factors) (List.mem_of_getElem? (i := 20) rfl)), ini_X3, tb4 (List.mem_of_getElem? (i := 165) rfl)⟩
theorem zs_X0_factorsOf : zS yX0_factorsOf cX0_factorsOf 7 (some (.object "java/lang/String")) := ⟨tb4 (ow4_2 (Cond.static yX0_factorsOf) (List.mem_of_getElem? (i := 22) rfl)), ini_X0, tb4 (List.mem_of_getElem? (i := 169) rfl)⟩
theorem zi_X3_period : zI yX3_period cX3_period 4 (some .int) := ⟨tb4 (ow4_2 (Cond.instanceMethod yX3_period) (List.mem_of_getElem? (i := 24) rfl)), tb4 (ow4_2 (Cond.selects yX3_period.cls yX3_period yX3_period) (List.mem_of_getElem? (i := 23) rfl)), ini_X3, tb4 (List.mem_of_getElem? (i := 183) rfl)⟩
theorem zs_X0_periodOf : zS yX0_periodOf cX0_periodOf 5 (some .int) := ⟨tb4 (ow4_2 (Cond.static yX0_periodOf) (List.mem_of_getElem? (i := 25) rfl)), ini_X0, tb4 (List.mem_of_getElem? (i := 186) rfl)⟩
theorem zi_X3_many : zI yX3_many cX3_many 2 (some .int) := ⟨tb4 (ow4_2 (Cond.instanceMethod yX3_many) (List.mem_of_getElem? (i := 27) rfl)), tb4 (ow4_2 (Cond.selects yX3_many.cls yX3_many yX3_many) (List.mem_of_getElem? (i := 26) rfl)), ini_X3, tb4 (List.mem_of_getElem? (i := 194) rfl)⟩
theorem zi_X3_formula : zI yX3_formula cX3_formula 2 (some .int) := ⟨tb4 (ow4_2 (Cond.instanceMethod yX3_formula) (List.mem_of_getElem? (i := 29) rfl)), tb4 (ow4_2 (Cond.selects yX3_formula.cls yX3_formula yX3_formula) (List.mem_of_getElem? (i := 28) rfl)), ini_X3, tb4 (List.mem_of_getElem? (i := 201) rfl)⟩
theorem zs_X0_formulaFor : zS yX0_formulaFor cX0_formulaFor 3 (some .int) := ⟨tb4 (ow4_2 (Cond.static yX0_formulaFor) (List.mem_of_getElem? (i := 30) rfl)), ini_X0, tb4 (List.mem_of_getElem? (i := 204) rfl)⟩
theorem zs_X0_signOf : zS yX0_signOf cX0_signOf 1 (some .int) := ⟨tb4 (ow4_2 (Cond.static yX0_signOf) (List.mem_of_getElem? (i := 31) rfl)), ini_X0, tb4 (List.mem_of_getElem? (i := 207) rfl)⟩
theorem zi_X5_init : zN yX5_init cX5_init 1 := ⟨tb4 (ow4_2 (Cond.instanceMethod yX5_init) (List.mem_of_getElem? (i := 32) rfl)), ini_X5, tb4 (List.mem_of_getElem? (i := 220) rfl)⟩
theorem zi_X5_put : zI yX5_put cX5_put 3 (some .int) := ⟨tb4 (ow4_2 (Cond.instanceMethod yX5_put) (List.mem_of_getElem? (i := 33) rfl)), tb5 (ow5_1 (Cond.selects yX5_put.cls yX5_put yX5_put) (List.mem_of_getElem? (i := 22) rfl)), ini_X5, tb5 (List.mem_of_getElem? (i := 1) rfl)⟩
theorem zs_X5_isNo : zS yX5_isNo cX5_isNo 1 (some .boolean) := ⟨tb5 (ow5_1 (Cond.static yX5_isNo) (List.mem_of_getElem? (i := 23) rfl)), ini_X5, tb5 (List.mem_of_getElem? (i := 4) rfl)⟩
theorem zs_X5_isIn : zS yX5_isIn cX5_isIn 3 (some .boolean) := ⟨tb5 (ow5_1 (Cond.static yX5_isIn) (List.mem_of_getElem? (i := 24) rfl)), ini_X5, tb5 (List.mem_of_getElem? (i := 7) rfl)⟩
theorem zi_X5_start : zI yX5_start cX5_start 3 (some .boolean) := ⟨tb5 (ow5_1 (Cond.instanceMethod yX5_start) (List.mem_of_getElem? (i := 25) rfl)), List.mem_append_left _ (List.mem_of_getElem? (i := 8) (by decide +kernel)), ini_X5, tb5 (List.mem_of_getElem? (i := 11) rfl)⟩
theorem zi_X5_refuse : zI yX5_refuse cX5_refuse 3 (some .boolean) := ⟨tb5 (ow5_1 (Cond.instanceMethod yX5_refuse) (List.mem_of_getElem? (i := 26) rfl)), List.mem_append_left _ (List.mem_of_getElem? (i := 9) (by decide +kernel)), ini_X5, tb5 (List.mem_of_getElem? (i := 15) rfl)⟩
theorem zi_X5_lay : zI yX5_lay cX5_lay 5 (some .int) := ⟨tb5 (ow5_1 (Cond.instanceMethod yX5_lay) (List.mem_of_getElem? (i := 27) rfl)), List.mem_append_left _ (List.mem_of_getElem? (i := 10) (by decide +kernel)), ini_X5, tb5 (List.mem_of_getElem? (i := 20) rfl)⟩
theorem zs_X5_one : zS yX5_one cX5_one 1 (some .int) := ⟨tb5 (ow5_1 (Cond.static yX5_one) (List.mem_of_getElem? (i := 28) rfl)), ini_X5, tb5 (List.mem_of_getElem? (i := 23) rfl)⟩
theorem zi_X5_mono : zI yX5_mono cX5_mono 3 (some .int) := ⟨tb5 (ow5_1 (Cond.instanceMethod yX5_mono) (List.mem_of_getElem? (i := 30) rfl)), tb5 (ow5_1 (Cond.selects yX5_mono.cls yX5_mono yX5_mono) (List.mem_of_getElem? (i := 29) rfl)), ini_X5, tb5 (List.mem_of_getElem? (i := 27) rfl)⟩
theorem zi_X5_digit : zI yX5_digit cX5_digit 5 (some .boolean) := ⟨tb5 (ow5_1 (Cond.instanceMethod yX5_digit) (List.mem_of_getElem? (i := 32) rfl)), tb5 (ow5_1 (Cond.selects yX5_digit.cls yX5_digit yX5_digit) (List.mem_of_getElem? (i := 31) rfl)), ini_X5, tb5 (List.mem_of_getElem? (i := 31) rfl)⟩
theorem zs_X5_has : zS yX5_has cX5_has 3 (some .boolean) := ⟨tb5 (ow5_1 (Cond.static yX5_has) (List.mem_of_getElem? (i := 33) rfl)), ini_X5, tb5 (List.mem_of_getElem? (i := 34) rfl)⟩
theorem zi_X5_flip : zI yX5_flip cX5_flip 3 (some .boolean) := ⟨tb5 (ow5_1 (Cond.instanceMethod yX5_flip) (List.mem_of_getElem? (i := 35) rfl)), tb5 (ow5_1 (Cond.selects yX5_flip.cls yX5_flip yX5_flip) (List.mem_of_getElem? (i := 34) rfl)), ini_X5, tb5 (List.mem_of_getElem? (i := 38) rfl)⟩
theorem zi_X5_copy : zI yX5_copy cX5_copy 3 (some .int) := ⟨tb5 (ow5_1 (Cond.instanceMethod yX5_copy) (List.mem_of_getElem? (i := 37) rfl)), tb5 (ow5_1 (Cond.selects yX5_copy.cls yX5_copy yX5_copy) (List.mem_of_getElem? (i := 36) rfl)), ini_X5, tb5 (List.mem_of_getElem? (i := 42) rfl)⟩
theorem zi_X5_swap : zI yX5_swap cX5_swap 5 (some .int) := ⟨tb5 (ow5_1 (Cond.instanceMethod yX5_swap) (List.mem_of_getElem? (i := 39) rfl)), tb5 (ow5_1 (Cond.selects yX5_swap.cls yX5_swap yX5_swap) (List.mem_of_getElem? (i := 38) rfl)), ini_X5, tb5 (List.mem_of_getElem? (i := 46) rfl)⟩
theorem zi_X5_end : zI yX5_end cX5_end 5 (some .int) := ⟨tb5 (ow5_1 (Cond.instanceMethod yX5_end) (List.mem_of_getElem? (i := 41) rfl)), tb5 (ow5_1 (Cond.selects yX5_end.cls yX5_end yX5_end) (List.mem_of_getElem? (i := 40) rfl)), ini_X5, tb5 (List.mem_of_getElem? (i := 50) rfl)⟩
theorem zi_X5_join : zI yX5_join cX5_join 9 (some .int) := ⟨tb5 (ow5_1 (Cond.instanceMethod yX5_join) (List.mem_of_getElem? (i := 43) rfl)), tb5 (ow5_1 (Cond.selects yX5_join.cls yX5_join yX5_join) (List.mem_of_getElem? (i := 42) rfl)), ini_X5, tb5 (List.mem_of_getElem? (i := 56) rfl)⟩
theorem zi_X5_times : zI yX5_times cX5_times 4 (some .int) := ⟨tb5 (ow5_1 (Cond.instanceMethod yX5_times) (List.mem_of_getElem? (i := 45) rfl)), tb5 (ow5_1 (Cond.selects yX5_times.cls yX5_times yX5_times) (List.mem_of_getElem? (i := 44) rfl)), ini_X5, tb5 (List.mem_of_getElem? (i := 61) rfl)⟩
theorem zi_X5_multiply : zI yX5_multiply cX5_multiply 6 (some .int) := ⟨tb5 (ow5_1 (Cond.instanceMethod yX5_multiply) (List.mem_of_getElem? (i := 46) rfl)), List.mem_append_left _ (List.mem_of_getElem? (i := 11) (by decide +kernel)), ini_X5, tb5 (List.mem_of_getElem? (i := 65) rfl)⟩
theorem zs_X5_degreeOf : zS yX5_degreeOf cX5_degreeOf 5 (some .int) := ⟨tb5 (ow5_1 (Cond.static yX5_degreeOf) (List.mem_of_getElem? (i := 47) rfl)), ini_X5, tb5 (List.mem_of_getElem? (i := 68) rfl)⟩
theorem zs_X5_product : zS yX5_product cX5_product 10 (some .long) := ⟨tb5 (ow5_1 (Cond.static yX5_product) (List.mem_of_getElem? (i := 48) rfl)), ini_X5, tb5 (List.mem_of_getElem? (i := 71) rfl)⟩
theorem zi_X5_layIf : zI yX5_layIf cX5_layIf 5 (some .int) := ⟨tb5 (ow5_1 (Cond.instanceMethod yX5_layIf) (List.mem_of_getElem? (i := 49) rfl)), List.mem_append_left _ (List.mem_of_getElem? (i := 12) (by decide +kernel)), ini_X5, tb5 (List.mem_of_getElem? (i := 75) rfl)⟩
theorem zi_X5_no : zI yX5_no cX5_no 1 (some .int) := ⟨tb5 (ow5_2 (Cond.instanceMethod yX5_no) (List.mem_of_getElem? (i := 0) rfl)), List.mem_append_left _ (List.mem_of_getElem? (i := 13) (by decide +kernel)), ini_X5, tb5 (List.mem_of_getElem? (i := 79) rfl)⟩
theorem zi_X5_square : zI yX5_square cX5_square 3 (some .int) := ⟨tb5 (ow5_2 (Cond.instanceMethod yX5_square) (List.mem_of_getElem? (i := 2) rfl)), tb5 (ow5_2 (Cond.selects yX5_square.cls yX5_square yX5_square) (List.mem_of_getElem? (i := 1) rfl)), ini_X5, tb5 (List.mem_of_getElem? (i := 83) rfl)⟩
theorem zi_X5_shift : zI yX5_shift cX5_shift 4 (some .int) := ⟨tb5 (ow5_2 (Cond.instanceMethod yX5_shift) (List.mem_of_getElem? (i := 4) rfl)), tb5 (ow5_2 (Cond.selects yX5_shift.cls yX5_shift yX5_shift) (List.mem_of_getElem? (i := 3) rfl)), ini_X5, tb5 (List.mem_of_getElem? (i := 87) rfl)⟩
theorem zi_X5_quotient : zI yX5_quotient cX5_quotient 4 (some .int) := ⟨tb5 (ow5_2 (Cond.instanceMethod yX5_quotient) (List.mem_of_getElem? (i := 6) rfl)), tb5 (ow5_2 (Cond.selects yX5_quotient.cls yX5_quotient yX5_quotient) (List.mem_of_getElem? (i := 5) rfl)), ini_X5, tb5 (List.mem_of_getElem? (i := 91) rfl)⟩
theorem zs_X5_quotientOf : zS yX5_quotientOf cX5_quotientOf 10 (some .long) := ⟨tb5 (ow5_2 (Cond.static yX5_quotientOf) (List.mem_of_getElem? (i := 7) rfl)), ini_X5, tb5 (List.mem_of_getElem? (i := 94) rfl)⟩
theorem zi_X5_rest : zI yX5_rest cX5_rest 4 (some .int) := ⟨tb5 (ow5_2 (Cond.instanceMethod yX5_rest) (List.mem_of_getElem? (i := 9) rfl)), tb5 (ow5_2 (Cond.selects yX5_rest.cls yX5_rest yX5_rest) (List.mem_of_getElem? (i := 8) rfl)), ini_X5, tb5 (List.mem_of_getElem? (i := 98) rfl)⟩
theorem zs_X5_restOf : zS yX5_restOf cX5_restOf 4 (some .long) := ⟨tb5 (ow5_2 (Cond.static yX5_restOf) (List.mem_of_getElem? (i := 10) rfl)), ini_X5, tb5 (List.mem_of_getElem? (i := 101) rfl)⟩
theorem zi_X5_gcd : zI yX5_gcd cX5_gcd 4 (some .int) := ⟨tb5 (ow5_2 (Cond.instanceMethod yX5_gcd) (List.mem_of_getElem? (i := 12) rfl)), tb5 (ow5_2 (Cond.selects yX5_gcd.cls yX5_gcd yX5_gcd) (List.mem_of_getElem? (i := 11) rfl)), ini_X5, tb5 (List.mem_of_getElem? (i := 105) rfl)⟩
theorem zs_X5_euclid : zS yX5_euclid cX5_euclid 17 (some .long) := ⟨tb5 (ow5_2 (Cond.static yX5_euclid) (List.mem_of_getElem? (i := 13) rfl)), ini_X5, tb5 (List.mem_of_getElem? (i := 108) rfl)⟩
theorem zi_X5_lcm : zI yX5_lcm cX5_lcm 4 (some .int) := ⟨tb5 (ow5_2 (Cond.instanceMethod yX5_lcm) (List.mem_of_getElem? (i := 15) rfl)), tb5 (ow5_2 (Cond.selects yX5_lcm.cls yX5_lcm yX5_lcm) (List.mem_of_getElem? (i := 14) rfl)), ini_X5, tb5 (List.mem_of_getElem? (i := 112) rfl)⟩
theorem zi_X5_bezout : zI yX5_bezout cX5_bezout 5 (some .int) := ⟨tb5 (ow5_2 (Cond.instanceMethod yX5_bezout) (List.mem_of_getElem? (i := 17) rfl)), tb5 (ow5_2 (Cond.selects yX5_bezout.cls yX5_bezout yX5_bezout) (List.mem_of_getElem? (i := 16) rfl)), ini_X5, tb5 (List.mem_of_getElem? (i := 116) rfl)⟩
theorem zi_X5_derive : zI yX5_derive cX5_derive 3 (some .int) := ⟨tb5 (ow5_2 (Cond.instanceMethod yX5_derive) (List.mem_of_getElem? (i := 19) rfl)), tb5 (ow5_2 (Cond.selects yX5_derive.cls yX5_derive yX5_derive) (List.mem_of_getElem? (i := 18) rfl)), ini_X5, tb5 (List.mem_of_getElem? (i := 120) rfl)⟩
theorem zs_X5_derived : zS yX5_derived cX5_derived 5 (some .long) := ⟨tb5 (ow5_2 (Cond.static yX5_derived) (List.mem_of_getElem? (i := 20) rfl)), ini_X5, tb5 (List.mem_of_getElem? (i := 123) rfl)⟩
theorem zi_X5_root : zI yX5_root cX5_root 3 (some .int) := ⟨tb5 (ow5_2 (Cond.instanceMethod yX5_root) (List.mem_of_getElem? (i := 22) rfl)), tb5 (ow5_2 (Cond.selects yX5_root.cls yX5_root yX5_root) (List.mem_of_getElem? (i := 21) rfl)), ini_X5, tb5 (List.mem_of_getElem? (i := 127) rfl)⟩
theorem zs_X5_half : zS yX5_half cX5_half 5 (some .long) := ⟨tb5 (ow5_2 (Cond.static yX5_half) (List.mem_of_getElem? (i := 23) rfl)), ini_X5, tb5 (List.mem_of_getElem? (i := 130) rfl)⟩
theorem zi_X5_turn : zI yX5_turn cX5_turn 7 (some .int) := ⟨tb5 (ow5_2 (Cond.instanceMethod yX5_turn) (List.mem_of_getElem? (i := 25) rfl)), tb5 (ow5_2 (Cond.selects yX5_turn.cls yX5_turn yX5_turn) (List.mem_of_getElem? (i := 24) rfl)), ini_X5, tb5 (List.mem_of_getElem? (i := 134) rfl)⟩
theorem zi_X5_move : zI yX5_move cX5_move 6 (some .int) := ⟨tb5 (ow5_2 (Cond.instanceMethod yX5_move) (List.mem_of_getElem? (i := 27) rfl)), tb5 (ow5_2 (Cond.selects yX5_move.cls yX5_move yX5_move) (List.mem_of_getElem? (i := 26) rfl)), ini_X5, tb5 (List.mem_of_getElem? (i := 138) rfl)⟩
theorem zi_X5_power : zI yX5_power cX5_power 10 (some .int) := ⟨tb5 (ow5_2 (Cond.instanceMethod yX5_power) (List.mem_of_getElem? (i := 29) rfl)), tb5 (ow5_2 (Cond.selects yX5_power.cls yX5_power yX5_power) (List.mem_of_getElem? (i := 28) rfl)), ini_X5, tb5 (List.mem_of_getElem? (i := 142) rfl)⟩
theorem zi_X5_nth : zI yX5_nth cX5_nth 7 (some .int) := ⟨tb5 (ow5_2 (Cond.instanceMethod yX5_nth) (List.mem_of_getElem? (i := 31) rfl)), tb5 (ow5_2 (Cond.selects yX5_nth.cls yX5_nth yX5_nth) (List.mem_of_getElem? (i := 30) rfl)), ini_X5, tb5 (List.mem_of_getElem? (i := 146) rfl)⟩
theorem zs_X5_isIrreducible : zS yX5_isIrreducible cX5_isIrreducible 5 (some .boolean) := ⟨tb5 (ow5_2 (Cond.static yX5_isIrreducible) (List.mem_of_getElem? (i := 32) rfl)), ini_X5, tb5 (List.mem_of_getElem? (i := 150) rfl)⟩
theorem zi_X5_field : zI yX5_field cX5_field 7 (some .int) := ⟨tb5 (ow5_2 (Cond.instanceMethod yX5_field) (List.mem_of_getElem? (i := 34) rfl)), tb5 (ow5_2 (Cond.selects yX5_field.cls yX5_field yX5_field) (List.mem_of_getElem? (i := 33) rfl)), ini_X5, tb5 (List.mem_of_getElem? (i := 154) rfl)⟩
theorem zi_X5_again : zI yX5_again cX5_again 4 (some .int) := ⟨tb5 (ow5_2 (Cond.instanceMethod yX5_again) (List.mem_of_getElem? (i := 36) rfl)), tb5 (ow5_2 (Cond.selects yX5_again.cls yX5_again yX5_again) (List.mem_of_getElem? (i := 35) rfl)), ini_X5, tb5 (List.mem_of_getElem? (i := 158) rfl)⟩
theorem zi_X5_degree : zI yX5_degree cX5_degree 2 (some .int) := ⟨tb5 (ow5_2 (Cond.instanceMethod yX5_degree) (List.mem_of_getElem? (i := 38) rfl)), tb5 (ow5_2 (Cond.selects yX5_degree.cls yX5_degree yX5_degree) (List.mem_of_getElem? (i := 37) rfl)), ini_X5, tb5 (List.mem_of_getElem? (i := 162) rfl)⟩
theorem zi_X5_low : zI yX5_low cX5_low 2 (some .int) := ⟨tb5 (ow5_2 (Cond.instanceMethod yX5_low) (List.mem_of_getElem? (i := 40) rfl)), tb5 (ow5_2 (Cond.selects yX5_low.cls yX5_low yX5_low) (List.mem_of_getElem? (i := 39) rfl)), ini_X5, tb5 (List.mem_of_getElem? (i := 166) rfl)⟩
theorem zs_X5_lowOf : zS yX5_lowOf cX5_lowOf 3 (some .int) := ⟨tb5 (ow5_2 (Cond.static yX5_lowOf) (List.mem_of_getElem? (i := 41) rfl)), ini_X5, tb5 (List.mem_of_getElem? (i := 169) rfl)⟩
theorem zi_X5_weight : zI yX5_weight cX5_weight 2 (some .int) := ⟨tb5 (ow5_2 (Cond.instanceMethod yX5_weight) (List.mem_of_getElem? (i := 43) rfl)), tb5 (ow5_2 (Cond.selects yX5_weight.cls yX5_weight yX5_weight) (List.mem_of_getElem? (i := 42) rfl)), ini_X5, tb5 (List.mem_of_getElem? (i := 173) rfl)⟩
theorem zs_X5_weightOf : zS yX5_weightOf cX5_weightOf 4 (some .int) := ⟨tb5 (ow5_2 (Cond.static yX5_weightOf) (List.mem_of_getElem? (i := 44) rfl)), ini_X5, tb5 (List.mem_of_getElem? (i := 176) rfl)⟩
theorem zi_X5_at : zI yX5_at cX5_at 3 (some .boolean) := ⟨tb5 (ow5_2 (Cond.instanceMethod yX5_at) (List.mem_of_getElem? (i := 46) rfl)), tb5 (ow5_2 (Cond.selects yX5_at.cls yX5_at yX5_at) (List.mem_of_getElem? (i := 45) rfl)), ini_X5, tb5 (List.mem_of_getElem? (i := 180) rfl)⟩
theorem zi_X5_digits : zI yX5_digits cX5_digits 2 (some .int) := ⟨tb5 (ow5_2 (Cond.instanceMethod yX5_digits) (List.mem_of_getElem? (i := 48) rfl)), tb5 (ow5_2 (Cond.selects yX5_digits.cls yX5_digits yX5_digits) (List.mem_of_getElem? (i := 47) rfl)), ini_X5, tb5 (List.mem_of_getElem? (i := 184) rfl)⟩
theorem zi_X5_text : zI yX5_text cX5_text 4 (some (.object "java/lang/String")) := ⟨tb5 (ow5_3 (Cond.instanceMethod yX5_text) (List.mem_of_getElem? (i := 0) rfl)), tb5 (ow5_2 (Cond.selects yX5_text.cls yX5_text yX5_text) (List.mem_of_getElem? (i := 49) rfl)), ini_X5, tb5 (List.mem_of_getElem? (i := 188) rfl)⟩
theorem zi_X5_code : zI yX5_code cX5_code 6 (some (.object "java/lang/String")) := ⟨tb5 (ow5_3 (Cond.instanceMethod yX5_code) (List.mem_of_getElem? (i := 2) rfl)), tb5 (ow5_3 (Cond.selects yX5_code.cls yX5_code yX5_code) (List.mem_of_getElem? (i := 1) rfl)), ini_X5, tb5 (List.mem_of_getElem? (i := 200) rfl)⟩
theorem zi_J0_charAt_5068e : zI yJ0_charAt_5068e cJ0_charAt_5068e 2 (some .char) := ⟨tb5 (ow5_3 (Cond.instanceMethod yJ0_charAt_5068e) (List.mem_of_getElem? (i := 4) rfl)), tb5 (ow5_3 (Cond.selects yJ0_charAt_5068e.cls yJ0_charAt_5068e yJ0_charAt_5068e) (List.mem_of_getElem? (i := 3) rfl)), ini_J0, tb5 (List.mem_of_getElem? (i := 205) rfl)⟩
theorem zi_J0_isLatin1_aae02 : zI yJ0_isLatin1_aae02 cJ0_isLatin1_aae02 1 (some .boolean) := ⟨tb5 (ow5_3 (Cond.instanceMethod yJ0_isLatin1_aae02) (List.mem_of_getElem? (i := 6) rfl)), tb5 (ow5_3 (Cond.selects yJ0_isLatin1_aae02.cls yJ0_isLatin1_aae02 yJ0_isLatin1_aae02) (List.mem_of_getElem? (i := 5) rfl)), ini_J0, tb5 (List.mem_of_getElem? (i := 209) rfl)⟩
theorem zs_J1_charAt_3b067 : zS yJ1_charAt_3b067 cJ1_charAt_3b067 2 (some .char) := ⟨tb5 (ow5_3 (Cond.static yJ1_charAt_3b067) (List.mem_of_getElem? (i := 7) rfl)), ini_J1, tb5 (List.mem_of_getElem? (i := 212) rfl)⟩
theorem zs_J2_charAt_3b067 : zS yJ2_charAt_3b067 cJ2_charAt_3b067 2 (some .char) := ⟨tb5 (ow5_3 (Cond.static yJ2_charAt_3b067) (List.mem_of_getElem? (i := 8) rfl)), ini_J2, tb5 (List.mem_of_getElem? (i := 216) rfl)⟩
theorem zi_X5_order : zI yX5_order cX5_order 3 (some .int) := ⟨tb5 (ow5_3 (Cond.instanceMethod yX5_order) (List.mem_of_getElem? (i := 10) rfl)), tb5 (ow5_3 (Cond.selects yX5_order.cls yX5_order yX5_order) (List.mem_of_getElem? (i := 9) rfl)), ini_X5, tb5 (List.mem_of_getElem? (i := 220) rfl)⟩
theorem zi_X5_side : zI yX5_side cX5_side 3 (some .int) := ⟨tb5 (ow5_3 (Cond.instanceMethod yX5_side) (List.mem_of_getElem? (i := 11) rfl)), List.mem_append_left _ (List.mem_of_getElem? (i := 14) (by decide +kernel)), ini_X5, tb5 (List.mem_of_getElem? (i := 224) rfl)⟩
theorem zi_X5_isSame : zI yX5_isSame cX5_isSame 3 (some .boolean) := ⟨tb5 (ow5_3 (Cond.instanceMethod yX5_isSame) (List.mem_of_getElem? (i := 13) rfl)), tb5 (ow5_3 (Cond.selects yX5_isSame.cls yX5_isSame yX5_isSame) (List.mem_of_getElem? (i := 12) rfl)), ini_X5, tb5 (List.mem_of_getElem? (i := 228) rfl)⟩
theorem zi_X5_value : zI yX5_value cX5_value 3 (some .int) := ⟨tb5 (ow5_3 (Cond.instanceMethod yX5_value) (List.mem_of_getElem? (i := 15) rfl)), tb5 (ow5_3 (Cond.selects yX5_value.cls yX5_value yX5_value) (List.mem_of_getElem? (i := 14) rfl)), ini_X5, tb5 (List.mem_of_getElem? (i := 232) rfl)⟩
theorem zi_X5_divides : zI yX5_divides cX5_divides 3 (some .boolean) := ⟨tb5 (ow5_3 (Cond.instanceMethod yX5_divides) (List.mem_of_getElem? (i := 17) rfl)), tb5 (ow5_3 (Cond.selects yX5_divides.cls yX5_divides yX5_divides) (List.mem_of_getElem? (i := 16) rfl)), ini_X5, tb5 (List.mem_of_getElem? (i := 236) rfl)⟩
theorem zi_X5_isFree : zI yX5_isFree cX5_isFree 2 (some .boolean) := ⟨tb5 (ow5_3 (Cond.instanceMethod yX5_isFree) (List.mem_of_getElem? (i := 19) rfl)), tb5 (ow5_3 (Cond.selects yX5_isFree.cls yX5_isFree yX5_isFree) (List.mem_of_getElem? (i := 18) rfl)), ini_X5, tb6 (List.mem_of_getElem? (i := 0) rfl)⟩
theorem zi_X5_irreducible : zI yX5_irreducible cX5_irreducible 2 (some .int) := ⟨tb6 (ow6_0 (Cond.instanceMethod yX5_irreducible) (List.mem_of_getElem? (i := 22) rfl)), tb6 (ow6_0 (Cond.selects yX5_irreducible.cls yX5_irreducible yX5_irreducible) (List.mem_of_getElem? (i := 21) rfl)), ini_X5, tb6 (List.mem_of_getElem? (i := 4) rfl)⟩
theorem zi_X5_rank : zI yX5_rank cX5_rank 2 (some .int) := ⟨tb6 (ow6_0 (Cond.instanceMethod yX5_rank) (List.mem_of_getElem? (i := 24) rfl)), tb6 (ow6_0 (Cond.selects yX5_rank.cls yX5_rank yX5_rank) (List.mem_of_getElem? (i := 23) rfl)), ini_X5, tb6 (List.mem_of_getElem? (i := 8) rfl)⟩
theorem zs_X5_rankOf : zS yX5_rankOf cX5_rankOf 5 (some .int) := ⟨tb6 (ow6_0 (Cond.static yX5_rankOf) (List.mem_of_getElem? (i := 25) rfl)), ini_X5, tb6 (List.mem_of_getElem? (i := 11) rfl)⟩
theorem zi_X5_factors : zI yX5_factors cX5_factors 6 (some (.object "java/lang/String")) := ⟨tb6 (ow6_0 (Cond.instanceMethod yX5_factors) (List.mem_of_getElem? (i := 27) rfl)), tb6 (ow6_0 (Cond.selects yX5_factors.cls yX5_factors yX5_factors) (List.mem_of_getElem? (i := 26) rfl)), ini_X5, tb6 (List.mem_of_getElem? (i := 15) rfl)⟩
theorem zi_X5_period : zI yX5_period cX5_period 5 (some .int) := ⟨tb6 (ow6_0 (Cond.instanceMethod yX5_period) (List.mem_of_getElem? (i := 29) rfl)), tb6 (ow6_0 (Cond.selects yX5_period.cls yX5_period yX5_period) (List.mem_of_getElem? (i := 28) rfl)), ini_X5, tb6 (List.mem_of_getElem? (i := 20) rfl)⟩
theorem zi_X5_many : zI yX5_many cX5_many 2 (some .int) := ⟨tb6 (ow6_0 (Cond.instanceMethod yX5_many) (List.mem_of_getElem? (i := 31) rfl)), tb6 (ow6_0 (Cond.selects yX5_many.cls yX5_many yX5_many) (List.mem_of_getElem? (i := 30) rfl)), ini_X5, tb6 (List.mem_of_getElem? (i := 24) rfl)⟩
theorem zs_X5_howMany : zS yX5_howMany cX5_howMany 4 (some .int) := ⟨tb6 (ow6_0 (Cond.static yX5_howMany) (List.mem_of_getElem? (i := 32) rfl)), ini_X5, tb6 (List.mem_of_getElem? (i := 27) rfl)⟩
theorem zi_X5_formula : zI yX5_formula cX5_formula 4 (some .int) := ⟨tb6 (ow6_0 (Cond.instanceMethod yX5_formula) (List.mem_of_getElem? (i := 34) rfl)), tb6 (ow6_0 (Cond.selects yX5_formula.cls yX5_formula yX5_formula) (List.mem_of_getElem? (i := 33) rfl)), ini_X5, tb6 (List.mem_of_getElem? (i := 31) rfl)⟩
theorem zi_X5_find : zI yX5_find cX5_find 3 (some .int) := ⟨tb6 (ow6_0 (Cond.instanceMethod yX5_find) (List.mem_of_getElem? (i := 36) rfl)), tb6 (ow6_0 (Cond.selects yX5_find.cls yX5_find yX5_find) (List.mem_of_getElem? (i := 35) rfl)), ini_X5, tb6 (List.mem_of_getElem? (i := 37) rfl)⟩
theorem zi_X5_found : zI yX5_found cX5_found 5 (some .int) := ⟨tb6 (ow6_0 (Cond.instanceMethod yX5_found) (List.mem_of_getElem? (i := 37) rfl)), List.mem_append_left _ (List.mem_of_getElem? (i := 15) (by decide +kernel)), ini_X5, tb6 (List.mem_of_getElem? (i := 41) rfl)⟩
theorem zi_X5_house : zI yX5_house cX5_house 2 (some .int) := ⟨tb6 (ow6_0 (Cond.instanceMethod yX5_house) (List.mem_of_getElem? (i := 39) rfl)), tb6 (ow6_0 (Cond.selects yX5_house.cls yX5_house yX5_house) (List.mem_of_getElem? (i := 38) rfl)), ini_X5, tb6 (List.mem_of_getElem? (i := 45) rfl)⟩
theorem zi_X5_houseTold : zI yX5_houseTold cX5_houseTold 9 (some .int) := ⟨tb6 (ow6_0 (Cond.instanceMethod yX5_houseTold) (List.mem_of_getElem? (i := 40) rfl)), List.mem_append_left _ (List.mem_of_getElem? (i := 16) (by decide +kernel)), ini_X5, tb6 (List.mem_of_getElem? (i := 49) rfl)⟩
theorem zi_X5_knock : zI yX5_knock cX5_knock 1 (some .int) := ⟨tb6 (ow6_0 (Cond.instanceMethod yX5_knock) (List.mem_of_getElem? (i := 42) rfl)), tb6 (ow6_0 (Cond.selects yX5_knock.cls yX5_knock yX5_knock) (List.mem_of_getElem? (i := 41) rfl)), ini_X5, tb6 (List.mem_of_getElem? (i := 53) rfl)⟩
theorem zi_X5_isSound : zI yX5_isSound cX5_isSound 1 (some .boolean) := ⟨tb6 (ow6_0 (Cond.instanceMethod yX5_isSound) (List.mem_of_getElem? (i := 44) rfl)), tb6 (ow6_0 (Cond.selects yX5_isSound.cls yX5_isSound yX5_isSound) (List.mem_of_getElem? (i := 43) rfl)), ini_X5, tb6 (List.mem_of_getElem? (i := 57) rfl)⟩
theorem zi_X5_isWhole : zI yX5_isWhole cX5_isWhole 6 (some .boolean) := ⟨tb6 (ow6_0 (Cond.instanceMethod yX5_isWhole) (List.mem_of_getElem? (i := 45) rfl)), List.mem_append_left _ (List.mem_of_getElem? (i := 17) (by decide +kernel)), ini_X5, tb6 (List.mem_of_getElem? (i := 61) rfl)⟩
theorem zi_X5_digest : zI yX5_digest cX5_digest 4 (some .long) := ⟨tb6 (ow6_0 (Cond.instanceMethod yX5_digest) (List.mem_of_getElem? (i := 47) rfl)), tb6 (ow6_0 (Cond.selects yX5_digest.cls yX5_digest yX5_digest) (List.mem_of_getElem? (i := 46) rfl)), ini_X5, tb6 (List.mem_of_getElem? (i := 65) rfl)⟩
theorem zs_X5_add : zS yX5_add cX5_add 4 (some .long) := ⟨tb6 (ow6_0 (Cond.static yX5_add) (List.mem_of_getElem? (i := 48) rfl)), ini_X5, tb6 (List.mem_of_getElem? (i := 69) rfl)⟩
