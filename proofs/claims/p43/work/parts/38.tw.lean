/-! ===== the law's wrappers of methods that write texts ===== -/
section VA8
/-- the wrapper's world, with what texts stand on -/
def zLj (D : va_G) (cB cJ : ClassId) (o a w : Nat) (ce : Nat → Nat) (fs : List Value) (n : Int64) (sv : Value) (U : State) (H : Heap) : Prop :=
  zLi D cJ o a w ce fs n sv U H ∧ va_K D vwCl [(cB, .byte)] U ∧ zV (fun q => q = w ∨ zoa o a q) U H
theorem zLj.moved {D : va_G} {cB cJ : ClassId} {o a w : Nat} {ce : Nat → Nat} {fs : List Value} {n : Int64} {sv : Value} {s U : State} {H : Heap} (hW : s.WarmedH U.vm) (h : zLj D cB cJ o a w ce fs n sv s H) : zLj D cB cJ o a w ce fs n sv U H :=
  ⟨h.1.moved hW, va_K.moved hW.alike h.2.1, h.2.2.warm hW⟩
abbrev zL2 (below : List Frame) (D : va_G) (cJ : ClassId) (o a w : Nat) (av : Array Value) (s : State) (mc ms : Nat) (r : Int) (c2 : Nat → Nat) (fs2 : List Value) (n2 : Int64) : State → Prop :=
  MQ below (fun _ st oc t => oc = .returned (some (.int (iZ r))) ∧ AtO D 2 cJ o a c2 fs2 t t.heap ∧ (∃ sv2, AtW D w n2 sv2 t t.heap) ∧ va_F (zFw o a w s.heap.size) st t) av s mc ms (zFw o a w s.heap.size)
def zLV (l : Launch) (y : MethodName) (fr need mc ms : Nat) (D : va_G) (cB cJ : ClassId) (o a w : Nat) (as : List Value) (ce : Nat → Nat) (fs : List Value) (n : Int64) (sv : Value) (r : Int) (c2 : Nat → Nat) (fs2 : List Value) (n2 : Int64) : Prop :=
  ∃ (bytes : ByteArray) (maxL lo : Nat) (hh : List (Nat × Nat × Nat × Nat)), zSW y bytes maxL (some .int) hh ∧ need = 8 + (maxL + 11) + lo ∧
    (y.cls = y.cls ∧ y.cls ≠ "java/lang/invoke/MethodHandle" ∧ y.cls ≠ "java/lang/invoke/VarHandle" ∧ (parseMethodDescriptor y.desc).map (fun d => d.parameters.length) = some as.length) ∧
    ∀ sz : Nat, Met l y (Cond.codeWith y bytes maxL (some .int) hh :: T0) { frames := fr, cells := mc, slots := ms, locals := lo } (fun v U => v = as.toArray ∧ U.heap.size = sz ∧ zLj D cB cJ o a w ce fs n sv U U.heap)
      (fun _ st oc t => oc = .returned (some (.int (iZ r))) ∧ AtO D 2 cJ o a c2 fs2 t t.heap ∧ (∃ sv2, AtW D w n2 sv2 t t.heap) ∧ va_F (zFw o a w sz) st t) mc ms (zFw o a w sz)
theorem zLV.intro {l : Launch} {y : MethodName} {fr need lo nA mc ms : Nat} {D : va_G} {cB cJ : ClassId} {o a w : Nat} {as : List Value} {ce : Nat → Nat} {fs : List Value} {n : Int64} {sv : Value} {r : Int} {c2 : Nat → Nat} {fs2 : List Value} {n2 : Int64} {cc : ByteArray} {maxL : Nat} {hh : List (Nat × Nat × Nat × Nat)} (hz : zSW y cc maxL (some .int) hh) (hy : plainName y.cls = true) (ho : RL = y.cls) (hn : need = 8 + (maxL + 11) + lo)
    (hd : y.cls ≠ "java/lang/invoke/MethodHandle" ∧ y.cls ≠ "java/lang/invoke/VarHandle" ∧ (parseMethodDescriptor y.desc).map (fun d => d.parameters.length) = some nA) (hA : as.length = nA) (hle : (lg_sl as).length ≤ maxL)
    (body : ∀ (p : Program) (e : Env) (s : State) (m : MethodId) (below : List Frame) (meth : Method) (c0 : Code) (ls : Array Slot), CallFix p m c0 cc maxL s as.toArray T0 RL → meth.sig.returnType = some .int → meth.locks = false → c0.exceptionTable.toList = tableOf hh → zLj D cB cJ o a w ce fs n sv s s.heap → va_S (zFw o a w s.heap.size) s.heap s.heap [] → lv_has ls maxL (lv_args 0 as) →
      W p l e { frames := fr, cells := mc, slots := ms, locals := lo } s m as.toArray below meth c0 s.heap [] 0 0 (zL2 below D cJ o a w as.toArray s mc ms r c2 fs2 n2) (F0 m 0 ls [])) : zLV l y fr need mc ms D cB cJ o a w as ce fs n sv r c2 fs2 n2 := by
  subst hA
  refine ⟨cc, maxL, lo, hh, hz, hn, ⟨rfl, hd⟩, fun sz => ?_⟩
  refine zMet_ofWH (ws' := T0) hy rfl ?_
  intro p e s m args below meth c0 s₁ B hml hv
  obtain ⟨hv, hsz, hLi⟩ := hv
  subst hv
  subst hsz
  have hts := atoms_spec (ws := Cond.codeWith y cc maxL (some .int) hh :: T0) B.pre
  have hown : s.vm.findClass RL = some m.cls := by rw [ho]; exact findClass_of_methodNamed B.named
  have htab := vx_table (x := y) B (hts _ List.mem_cons_self)
  rw [lg_entry_eq]
  exact body p e s m below meth c0 _ ⟨B.exec, B.bytes, hml, hown, fun w h => hts w (List.mem_cons_of_mem _ h)⟩ B.returns B.notSynchronized htab hLi va_S.rf (lv_entry as hle)
end VA8
section VB8
variable {p : Program} {l : Launch} {e : Env} {R : Room} {s : State} {m : MethodId} {args : Array Value} {below : List Frame} {meth : Method} {c : Code} {H : Heap} {locs : List Loc} {cells slots : Nat} {Q : State → Prop}
variable {cc : ByteArray} {pc nL : Nat} {ls : Array Slot} {rest st : List Value} {own : String} {lv : List (Nat × Value)} {D : va_G} {ci : Nat} {cB cJ : ClassId} {o a w : Nat} {ce : Nat → Nat} {fs : List Value} {A : Nat → Prop}
/-- a call of an object's method that may write texts, from any world -/
theorem zgV_call (C : CallFix p m c cc nL s args T0 own) (hAt : AtO D ci cJ o a ce fs s H) (hK : va_K D vwCl [(cB, .byte)] s) (hV : zV (zoa o a) s H) (hS : va_S A s.heap H locs) (hA : ∀ q, zF o a H.size q → A q) {y : MethodName} {fr need mc ms idx : Nat} {as : List Value} {rv : Option Value → Prop} {c2 : Nat → Nat} {fs2 : List Value} {T : u_T} {N : Nat} (hM : zAV l y fr need mc ms D cB ci cJ o a as ce fs rv c2 fs2) (hG : Cond.methodLink own idx y ∈ lw_tbl) (hcl : vwCl[ci]? = some (y.cls, T, N))
    (hR : fr + 1 ≤ R.frames ∧ need ≤ R.locals) (hf : cells + mc ≤ R.cells ∧ slots + ms ≤ R.slots) (hl : lv_has ls nL lv) (hcat : (rest.map fun v => v.category).sum ≤ 8) (hst : st = as.reverse ++ .ref o :: rest) (d : decode cc pc = .ok (.invokevirtual idx, 3))
    (k : ∀ v H1 locs1, rv v → AtO D ci cJ o a c2 fs2 s H1 → va_S A s.heap H1 locs1 → (∀ q : Nat, q < H.size → ¬ (q = o ∨ q = a) → H1[q]? = H[q]?) → H.size ≤ H1.size → W p l e R s m args below meth c H1 locs1 (cells + mc) (slots + ms) Q (F0 m (pc + 3) ls (v.toList ++ rest))) : W p l e R s m args below meth c H locs cells slots Q (F0 m pc ls st) := by
  obtain ⟨bytes, maxL, lo, ret, hz, hn, hd, hM⟩ := hM
  have hM := hM H.size
  have cw := cwV (R := R) (own := own) (index := idx) (C := y.cls) (y := y) (bytes := bytes) (maxL := maxL) (ret := ret) (ws := Cond.code y bytes maxL ret :: T0) (ws' := T0) (rm := { frames := fr, cells := mc, slots := ms, locals := lo }) (mc := mc) (ms := ms) as.length C.2.2.2.2 (zgV hG hz) rfl rfl rfl hd ⟨hR.1, by rw [hn] at hR; exact hR.2⟩
  have hr := va_runV (p := p) (l := l) (e := e) (below := below) (meth := meth) (c := c) (H := H) (locs := locs) (cells := cells) (slots := slots) (g := F0 m pc ls st) (rest := rest) C hM cw ⟨fun A U g mk q => ⟨q.1, q.2.1, q.2.2.1.moved (U := U.calling g mk A) (Vm.Alike.refl U.vm), va_K.moved (Vm.Alike.refl U.vm) q.2.2.2.1, q.2.2.2.2.warm (State.WarmedH.refl U)⟩, va_recv hAt.2.1 hAt.1 (ci := ci) (q0 := 0) hcl rfl, fun U hU hW => ⟨rfl, by rw [hU], by rw [hU]; exact hAt.moved hW.alike, va_K.moved hW.alike hK, by rw [hU]; exact hV.warm hW⟩⟩ rfl rfl hl.1 hst (lv_room hcat) d hf
  intro T9 hT X
  obtain ⟨v2, st₀, t, T', L, h0, X', hL, e1, e2, ⟨⟨v3, hv, hrv⟩, hAt2, hF⟩, st2⟩ := hr T9 hT X
  cases hv
  obtain ⟨hz2, hk2⟩ := hF
  rw [h0] at hz2 hk2
  have hss : s.heap.size ≤ H.size := hS.1
  have hS2 : va_S A s.heap T'.heap (locs ++ L) := by
    refine ⟨Nat.le_trans hss (by rw [e1]; exact hz2), fun q h1 h2 => ?_, fun q hq => ?_⟩
    · rw [e1, hk2 q (Nat.lt_of_lt_of_le h1 hss) (fun z => h2 (hA q z))]
      exact hS.2.1 q h1 h2
    · rcases List.mem_append.mp hq with h | h
      · exact hS.2.2 q h
      · exact hA _ (hL q h)
  obtain ⟨t2, a1, b1⟩ := k v2 T'.heap (locs ++ L) hrv (by rw [e1]; exact hAt2.moved (by rw [← e2]; exact X'.warmed.alike.symm)) hS2 (fun q h1 h2 => by rw [e1]; exact hk2 q h1 (fun z => by rcases z with z | z | z; exact h2 (Or.inl z); exact h2 (Or.inr z); omega)) (by rw [e1]; exact hz2) T' rfl X'
  exact ⟨t2, st2 t2 a1, b1⟩
theorem zl_retV {as : List Value} {mc ms : Nat} {r : Int} {v : Int32} {n2 : Int64} {sv2 : Value} (C : CallFix p m c cc nL s as.toArray T0 own) (hAt : AtO D 2 cJ o a ce fs s H) (hW : AtW D w n2 sv2 s H) (hS : va_S (zFw o a w s.heap.size) s.heap H locs) (hr : meth.sig.returnType = some .int) (hk : meth.locks = false) (h1 : cells ≤ mc) (h2 : slots ≤ ms) (d : decode cc pc = .ok (.ireturn, 1)) (hv : v = iZ r) :
    W p l e R s m as.toArray below meth c H locs cells slots (zL2 below D cJ o a w as.toArray s mc ms r ce fs n2) (F0 m pc ls [.int v]) := by
  subst hv
  refine W.widen (k := mc) (n := ms) h1 h2 ?_
  exact W.iret C.1 C.2.1 hr (fun t ht hW9 => ⟨rfl, by rw [ht]; exact hAt.moved hW9.alike, ⟨sv2, by rw [ht]; exact hW.moved hW9.alike⟩, hS.F ht⟩) hS.2.2 d hk
/-- the law calls such a wrapper -/
theorem zlV_call (C : CallFix p m c cc nL s args T0 own) {n : Int64} {sv : Value} (hLj : zLj D cB cJ o a w ce fs n sv s H) (hS : va_S A s.heap H locs) (hA : ∀ q, zFw o a w H.size q → A q) {y : MethodName} {fr need mc ms idx : Nat} {as : List Value} {r : Int} {c2 : Nat → Nat} {fs2 : List Value} {n2 : Int64} (hM : zLV l y fr need mc ms D cB cJ o a w as ce fs n sv r c2 fs2 n2) (hG : Cond.methodLink own idx y ∈ lw_tbl)
    (hR : fr + 1 ≤ R.frames ∧ need ≤ R.locals) (hf : cells + mc ≤ R.cells ∧ slots + ms ≤ R.slots) (hl : lv_has ls nL lv) (hcat : (rest.map fun v => v.category).sum ≤ 8) (hst : st = as.reverse ++ rest) (d : decode cc pc = .ok (.invokestatic idx, 3))
    (k : ∀ sv2 H1 locs1, zLi D cJ o a w c2 fs2 n2 sv2 s H1 → va_S A s.heap H1 locs1 → (∀ q : Nat, q < H.size → ¬ (q = w ∨ q = o ∨ q = a) → H1[q]? = H[q]?) → H.size ≤ H1.size → W p l e R s m args below meth c H1 locs1 (cells + mc) (slots + ms) Q (F0 m (pc + 3) ls (.int (iZ r) :: rest))) : W p l e R s m args below meth c H locs cells slots Q (F0 m pc ls st) := by
  obtain ⟨bytes, maxL, lo, hh, hz, hn, hd, hM⟩ := hM
  have hM := hM H.size
  have hLi := hLj.1
  have cw := vx_cwSW (R := R) (own := own) (index := idx) (y := y) (bytes := bytes) (maxL := maxL) (ret := some .int) (hh := hh) (ws := Cond.codeWith y bytes maxL (some .int) hh :: T0) (ws' := T0) (rm := { frames := fr, cells := mc, slots := ms, locals := lo }) (mc := mc) (ms := ms) as.length C.2.2.2.2 (zgW hG hz) rfl rfl rfl hd.2 ⟨hR.1, by rw [hn] at hR; exact hR.2⟩
  have hr := vx_runSW (p := p) (l := l) (e := e) (below := below) (meth := meth) (c := c) (H := H) (locs := locs) (cells := cells) (slots := slots) (g := F0 m pc ls st) (rest := rest) C hM cw ⟨fun A U g mk q => ⟨q.1, q.2.1, q.2.2.moved (U := U.calling g mk A) (State.WarmedH.refl U)⟩, fun U hU hW => ⟨rfl, by rw [hU], by rw [hU]; exact hLj.moved hW⟩⟩ rfl rfl hl.1 hst (lv_room hcat) d hf
  intro T9 hT X
  obtain ⟨v2, st₀, t, T', L, h0, X', hL, e1, e2, ⟨hv, hAt2, ⟨sv2, hW2⟩, hF⟩, st2⟩ := hr T9 hT X
  cases hv
  obtain ⟨hz2, hk2⟩ := hF
  rw [h0] at hz2 hk2
  have hss : s.heap.size ≤ H.size := hS.1
  have hS2 : va_S A s.heap T'.heap (locs ++ L) := by
    refine ⟨Nat.le_trans hss (by rw [e1]; exact hz2), fun q h1 h2 => ?_, fun q hq => ?_⟩
    · rw [e1, hk2 q (Nat.lt_of_lt_of_le h1 hss) (fun z => h2 (hA q z))]
      exact hS.2.1 q h1 h2
    · rcases List.mem_append.mp hq with h | h
      · exact hS.2.2 q h
      · exact hA _ (hL q h)
  have hke : ∀ q : Nat, q < H.size → ¬ (q = w ∨ q = o ∨ q = a) → T'.heap[q]? = H[q]? := fun q h1 h2 => by
    rw [e1]
    exact hk2 q h1 (fun z => by rcases z with z | z | z | z; exact h2 (Or.inl z); exact h2 (Or.inr (Or.inl z)); exact h2 (Or.inr (Or.inr z)); omega)
  have hal : t.vm.Alike s.vm := by rw [← e2]; exact X'.warmed.alike.symm
  obtain ⟨t2, a1, b1⟩ := k sv2 T'.heap (locs ++ L) ⟨by rw [e1]; exact hAt2.moved hal, by rw [e1]; exact hW2.moved hal, hLi.2.2.1, hLi.2.2.2.1.kept (fun q h1 h2 => hke q h1 h2), hLi.2.2.2.2⟩ hS2 hke (by rw [e1]; exact hz2) T' rfl X'
  exact ⟨t2, st2 t2 a1, b1⟩
end VB8
section VC8
set_option maxHeartbeats 4000000 in
set_option maxRecDepth 100000 in
theorem c_L_text (l : Launch) (D : va_G) (cB cJ : ClassId) (o a : Nat) (c : Nat → Nat) (ac : Int32) (re : Int32) (kn : Int32) (z : Int) (hz : 0 ≤ z ∧ z ≤ 5) (w9 : Nat) (n9 : Int64) (s9 : Value) : zLV l yL_text 8 232 72 34864 D cB cJ o a w9 [.ref o, .int (iZ (z)), .ref w9] c [.int (ac), .int (re), .int (kn)] n9 s9 0 c [.int (ac), .int (re), .int (kn)] n9 := by
  refine zLV.intro (lo := 209) (nA := 3) zw_L_text (by decide) rfl rfl (by decide +kernel) rfl (Nat.le_of_ble_eq_true rfl) ?_
  intro p e s m below meth c0 ls C9 hr9 hk9 ht9 hLj9 hS9 hl9
  obtain ⟨hLi9, hK9, hV9⟩ := hLj9
  have hl9 : lv_has ls 4 [(0, .ref o), (1, .int (iZ (z))), (2, .ref w9)] := hl9
  refine lv_aload_n C9.1 C9.2.1 dL_text_0 rfl (lv_at hl9 2 rfl) ?_
  refine lv_aload_n C9.1 C9.2.1 dL_text_1 rfl (lv_at hl9 0 rfl) ?_
  refine lv_iload_n C9.1 C9.2.1 dL_text_2 rfl (lv_at hl9 1 rfl) ?_
  refine zgV_call (as := [.int (iZ (z))]) C9 hLi9.1 hK9 (hV9.nar (fun _ _ h => Or.inr h)) hS9 (fun q h => Or.inr h) (c_X3_text l D cB cJ o a c ac re kn z hz) ml_L_113 rfl (by decide) (by decide) hl9 (Nat.le_of_ble_eq_true rfl) rfl dL_text_3 (fun v9 H1 locs1 hv9 hAt1 hS1 hk1 hz1 => ?_)
  obtain ⟨q9, rfl⟩ := hv9
  refine zw_put C9 (n2 := n9) (sv2 := .ref q9) (hLi9.2.1.kept (hk1 w9 hLi9.2.1.lt (fun z => z.elim hLi9.2.2.1.1 hLi9.2.2.1.2))) hS1 (Or.inl rfl) 1 (by decide) rfl (Or.inr ⟨q9, rfl⟩) (ty := .object "java/lang/String") rfl rfl rfl hLi9.2.2.2.2.2.2.2.2 dL_text_6 (fun H2 locs2 hW2 hS2 hk2 hz2 => ?_)
  refine lv_goto (tgt := 15) C9.1 C9.2.1 dL_text_9 (by decide) ?_
  refine z_iconst C9 dL_text_15 ?_
  exact zl_retV C9 (hAt1.kept (hk2 o (Ne.symm hLi9.2.2.1.1)) (hk2 a (Ne.symm hLi9.2.2.1.2))) hW2 hS2 hr9 hk9 (Nat.le_of_ble_eq_true rfl) (Nat.le_of_ble_eq_true rfl) dL_text_16 rfl
set_option maxHeartbeats 4000000 in
set_option maxRecDepth 100000 in
theorem c_L_code (l : Launch) (D : va_G) (cB cJ : ClassId) (o a : Nat) (c : Nat → Nat) (ac : Int32) (re : Int32) (kn : Int32) (z : Int) (r : Int) (hz : 0 ≤ z ∧ z ≤ 5) (hr0 : 2 ≤ r ∧ r ≤ 36) (w9 : Nat) (n9 : Int64) (s9 : Value) : zLV l yL_code 8 239 70 33900 D cB cJ o a w9 [.ref o, .int (iZ (z)), .int (iZ (r)), .ref w9] c [.int (ac), .int (re), .int (kn)] n9 s9 0 c [.int (ac), .int (re), .int (kn)] n9 := by
  refine zLV.intro (lo := 215) (nA := 4) zw_L_code (by decide) rfl rfl (by decide +kernel) rfl (Nat.le_of_ble_eq_true rfl) ?_
  intro p e s m below meth c0 ls C9 hr9 hk9 ht9 hLj9 hS9 hl9
  obtain ⟨hLi9, hK9, hV9⟩ := hLj9
  have hl9 : lv_has ls 5 [(0, .ref o), (1, .int (iZ (z))), (2, .int (iZ (r))), (3, .ref w9)] := hl9
  refine lv_aload_n C9.1 C9.2.1 dL_code_0 rfl (lv_at hl9 3 rfl) ?_
  refine lv_aload_n C9.1 C9.2.1 dL_code_1 rfl (lv_at hl9 0 rfl) ?_
  refine lv_iload_n C9.1 C9.2.1 dL_code_2 rfl (lv_at hl9 1 rfl) ?_
  refine lv_iload_n C9.1 C9.2.1 dL_code_3 rfl (lv_at hl9 2 rfl) ?_
  refine zgV_call (as := [.int (iZ (z)), .int (iZ (r))]) C9 hLi9.1 hK9 (hV9.nar (fun _ _ h => Or.inr h)) hS9 (fun q h => Or.inr h) (c_X3_code l D cB cJ o a c ac re kn z r hz hr0) ml_L_121 rfl (by decide) (by decide) hl9 (Nat.le_of_ble_eq_true rfl) rfl dL_code_4 (fun v9 H1 locs1 hv9 hAt1 hS1 hk1 hz1 => ?_)
  obtain ⟨q9, rfl⟩ := hv9
  refine zw_put C9 (n2 := n9) (sv2 := .ref q9) (hLi9.2.1.kept (hk1 w9 hLi9.2.1.lt (fun z => z.elim hLi9.2.2.1.1 hLi9.2.2.1.2))) hS1 (Or.inl rfl) 1 (by decide) rfl (Or.inr ⟨q9, rfl⟩) (ty := .object "java/lang/String") rfl rfl rfl hLi9.2.2.2.2.2.2.2.2 dL_code_7 (fun H2 locs2 hW2 hS2 hk2 hz2 => ?_)
  refine lv_goto (tgt := 21) C9.1 C9.2.1 dL_code_10 (by decide) ?_
  refine z_iconst C9 dL_code_21 ?_
  exact zl_retV C9 (hAt1.kept (hk2 o (Ne.symm hLi9.2.2.1.1)) (hk2 a (Ne.symm hLi9.2.2.1.2))) hW2 hS2 hr9 hk9 (Nat.le_of_ble_eq_true rfl) (Nat.le_of_ble_eq_true rfl) dL_code_22 rfl
set_option maxHeartbeats 4000000 in
set_option maxRecDepth 100000 in
theorem c_L_factors_ok (l : Launch) (D : va_G) (cB cJ : ClassId) (o a : Nat) (c : Nat → Nat) (ac : Int32) (re : Int32) (kn : Int32) (z : Int) (hz : 0 ≤ z ∧ z ≤ 5) (hg : 0 ≤ tp (c z.toNat) ∧ tp (c z.toNat) ≤ 8) (w9 : Nat) (n9 : Int64) (s9 : Value) : zLV l yL_factors 8 237 24 10000 D cB cJ o a w9 [.ref o, .int (iZ (z)), .ref w9] c [.int (ac), .int (re), .int (kn)] n9 s9 0 c [.int (ac), .int (re), .int (kn)] n9 := by
  refine zLV.intro (lo := 214) (nA := 3) zw_L_factors (by decide) rfl rfl (by decide +kernel) rfl (Nat.le_of_ble_eq_true rfl) ?_
  intro p e s m below meth c0 ls C9 hr9 hk9 ht9 hLj9 hS9 hl9
  obtain ⟨hLi9, hK9, hV9⟩ := hLj9
  have hl9 : lv_has ls 4 [(0, .ref o), (1, .int (iZ (z))), (2, .ref w9)] := hl9
  refine lv_aload_n C9.1 C9.2.1 dL_factors_0 rfl (lv_at hl9 2 rfl) ?_
  refine lv_aload_n C9.1 C9.2.1 dL_factors_1 rfl (lv_at hl9 0 rfl) ?_
  refine lv_iload_n C9.1 C9.2.1 dL_factors_2 rfl (lv_at hl9 1 rfl) ?_
  refine zgV_call (as := [.int (iZ (z))]) C9 hLi9.1 hK9 (hV9.nar (fun _ _ h => Or.inr h)) hS9 (fun q h => Or.inr h) (c_X3_factors_ok l D cB cJ o a c ac re kn z hz hg) ml_L_148 rfl (by decide) (by decide) hl9 (Nat.le_of_ble_eq_true rfl) rfl dL_factors_3 (fun v9 H1 locs1 hv9 hAt1 hS1 hk1 hz1 => ?_)
  obtain ⟨q9, rfl⟩ := hv9
  refine zw_put C9 (n2 := n9) (sv2 := .ref q9) (hLi9.2.1.kept (hk1 w9 hLi9.2.1.lt (fun z => z.elim hLi9.2.2.1.1 hLi9.2.2.1.2))) hS1 (Or.inl rfl) 1 (by decide) rfl (Or.inr ⟨q9, rfl⟩) (ty := .object "java/lang/String") rfl rfl rfl hLi9.2.2.2.2.2.2.2.2 dL_factors_6 (fun H2 locs2 hW2 hS2 hk2 hz2 => ?_)
  refine lv_goto (tgt := 15) C9.1 C9.2.1 dL_factors_9 (by decide) ?_
  refine z_iconst C9 dL_factors_15 ?_
  exact zl_retV C9 (hAt1.kept (hk2 o (Ne.symm hLi9.2.2.1.1)) (hk2 a (Ne.symm hLi9.2.2.1.2))) hW2 hS2 hr9 hk9 (Nat.le_of_ble_eq_true rfl) (Nat.le_of_ble_eq_true rfl) dL_factors_16 rfl
set_option maxHeartbeats 4000000 in
set_option maxRecDepth 100000 in
theorem c_L_factors_no (l : Launch) (D : va_G) (cB cJ : ClassId) (o a : Nat) (c : Nat → Nat) (ac : Int32) (re : Int32) (kn : Int32) (z : Int) (hz : 0 ≤ z ∧ z ≤ 5) (hg : ¬ (0 ≤ tp (c z.toNat) ∧ tp (c z.toNat) ≤ 8)) (w9 : Nat) (n9 : Int64) (s9 : Value) : zLV l yL_factors 3 93 24 10000 D cB cJ o a w9 [.ref o, .int (iZ (z)), .ref w9] c [.int (ac), .int (re), .int (kn)] n9 s9 0 c [.int (ac), .int (aF re none), .int (kn)] n9 := by
  refine zLV.intro (lo := 70) (nA := 3) zw_L_factors (by decide) rfl rfl (by decide +kernel) rfl (Nat.le_of_ble_eq_true rfl) ?_
  intro p e s m below meth c0 ls C9 hr9 hk9 ht9 hLj9 hS9 hl9
  obtain ⟨hLi9, hK9, hV9⟩ := hLj9
  have hl9 : lv_has ls 4 [(0, .ref o), (1, .int (iZ (z))), (2, .ref w9)] := hl9
  refine lv_aload_n C9.1 C9.2.1 dL_factors_0 rfl (lv_at hl9 2 rfl) ?_
  refine lv_aload_n C9.1 C9.2.1 dL_factors_1 rfl (lv_at hl9 0 rfl) ?_
  refine lv_iload_n C9.1 C9.2.1 dL_factors_2 rfl (lv_at hl9 1 rfl) ?_
  refine zgV_call (as := [.int (iZ (z))]) C9 hLi9.1 hK9 (hV9.nar (fun _ _ h => Or.inr h)) hS9 (fun q h => Or.inr h) (c_X3_factors_no l D cB cJ o a c ac re kn z hz hg) ml_L_148 rfl (by decide) (by decide) hl9 (Nat.le_of_ble_eq_true rfl) rfl dL_factors_3 (fun v9 H1 locs1 hv9 hAt1 hS1 hk1 hz1 => ?_)
  obtain ⟨q9, rfl⟩ := hv9
  refine zw_put C9 (n2 := n9) (sv2 := .ref q9) (hLi9.2.1.kept (hk1 w9 hLi9.2.1.lt (fun z => z.elim hLi9.2.2.1.1 hLi9.2.2.1.2))) hS1 (Or.inl rfl) 1 (by decide) rfl (Or.inr ⟨q9, rfl⟩) (ty := .object "java/lang/String") rfl rfl rfl hLi9.2.2.2.2.2.2.2.2 dL_factors_6 (fun H2 locs2 hW2 hS2 hk2 hz2 => ?_)
  refine lv_goto (tgt := 15) C9.1 C9.2.1 dL_factors_9 (by decide) ?_
  refine z_iconst C9 dL_factors_15 ?_
  exact zl_retV C9 (hAt1.kept (hk2 o (Ne.symm hLi9.2.2.1.1)) (hk2 a (Ne.symm hLi9.2.2.1.2))) hW2 hS2 hr9 hk9 (Nat.le_of_ble_eq_true rfl) (Nat.le_of_ble_eq_true rfl) dL_factors_16 rfl
end VC8
