section TC
variable {p : Program} {l : Launch} {e : Env} {R : Room} {s : State} {m : MethodId} {args : Array Value} {below : List Frame} {meth : Method} {c : Code} {H : Heap} {locs : List Loc} {cells slots : Nat} {Q : State → Prop}
variable {cc : ByteArray} {pc nL : Nat} {ls : Array Slot} {rest st : List Value} {own : String} {lv : List (Nat × Value)} {D : va_G} {cJ : ClassId} {o a : Nat} {ce : Nat → Nat} {fs : List Value} {E : String}
/-- a call of a static method that throws; it goes through -/
theorem zx_callS (C : CallFix p m c cc nL s args T0 own) (B : zIn D 2 cJ o a ce fs s H locs) (Zs : zE (zoa o a) s s.heap) (htab : ∀ x ∈ c.exceptionTable.toList, False) (hk : meth.locks = false) {y : MethodName} {fr need idx : Nat} {as : List Value} (hM : zXS l y fr need as E) (hG : Cond.methodLink own idx y ∈ lw_tbl)
    (hR : fr + 1 ≤ R.frames ∧ need ≤ R.locals) (hf : cells + 1 ≤ R.cells ∧ slots + 6 ≤ R.slots) (hc : cells + 1 ≤ 1 ∧ slots + 6 ≤ 6) (hl : lv_has ls nL lv) (hcat : (rest.map fun v => v.category).sum ≤ 8) (hst : st = as.reverse ++ rest) (d : decode cc pc = .ok (.invokestatic idx, 3)) :
    W p l e R s m args below meth c H locs cells slots (zX2 below D cJ o a ce fs args s E) (F0 m pc ls st) := by
  obtain ⟨bytes, maxL, lo, ret, hz, hn, hd, hM⟩ := hM
  have hM := hM H.size
  have hEH : zE (fun _ => False) s H := (Zs.up.kept (fun q h1 h2 => B.2.2.1 q h1 (fun z => h2 (by rcases z with z | z | z; exact Or.inl (Or.inl z); exact Or.inl (Or.inr z); exact Or.inr z)))).narrow (fun _ z => z.elim)
  have cw := va_cwS (R := R) (own := own) (index := idx) (y := y) (bytes := bytes) (maxL := maxL) (ret := ret) (ws := Cond.code y bytes maxL ret :: T0) (ws' := T0) (rm := { frames := fr, cells := 1, slots := 6, locals := lo }) (mc := 1) (ms := 6) as.length C.2.2.2.2 (zg hG hz) rfl rfl rfl hd ⟨hR.1, by rw [hn] at hR; exact hR.2⟩
  have hr := vx_runS (p := p) (l := l) (e := e) (below := below) (meth := meth) (c := c) (H := H) (locs := locs) (cells := cells) (slots := slots) (g := F0 m pc ls st) (rest := rest) C hM cw ⟨fun A U g mk q => ⟨q.1, q.2.1, q.2.2.warm (State.WarmedH.refl U)⟩, fun U hU hW => ⟨rfl, by rw [hU], by rw [hU]; exact hEH.warm hW⟩⟩ rfl rfl hl.1 hst (lv_room hcat) d hf
  intro T hT X
  rcases hr T hT X with ⟨v, st₀, t, T', L, h0, X', hL, e1, e2, hq, st2⟩ | ⟨q, st₀, t, T', L, E', ce', h0, X', hL, e1, e2, hq, hce, hcv, hcl, st2⟩
  · exact hq.elim
  · obtain ⟨hE', hz2, hk2⟩ := hq
    subst hE'
    rw [h0] at hz2 hk2
    have hss : s.heap.size ≤ H.size := B.2.1
    have hlt := B.1.lt
    have hAt : AtO D 2 cJ o a ce fs s T'.heap := B.1.kept (by rw [e1]; exact hk2 o hlt.1 (by omega)) (by rw [e1]; exact hk2 a hlt.2 (by omega))
    have hF : H.size ≤ T'.heap.size ∧ ∀ q : Nat, q < s.heap.size → ¬ zF o a s.heap.size q → T'.heap[q]? = s.heap[q]? := ⟨by rw [e1]; exact hz2, fun q h1 h2 => by rw [e1, hk2 q (by omega) (by omega)]; exact B.2.2.1 q h1 h2⟩
    have kx := vx_out (p := p) (l := l) (e := e) (R := R) (s := s) (m := m) (args := args) (below := below) (meth := meth) (c := c) (H := T'.heap) (locs := locs ++ L) (cells := cells + 1) (slots := slots + 6) (ls := ls) (rest := rest) (Qc := fun _ _ _ _ => False) (XC := fun E2 st t => E2 = E' ∧ AtO D 2 cJ o a ce fs t t.heap ∧ va_F (zF o a s.heap.size) st t) (free := zF o a s.heap.size) (pc := pc) (E := E') (ce := ce') (q := q) (mc := 1) (ms := 6)
      (fun x hx => (htab x hx).elim) hk (by rw [e1]; exact hce) hcv hcl (fun t9 ht9 ha => ⟨rfl, by rw [ht9]; exact hAt.moved ha, by rw [ht9]; exact Nat.le_trans hss hF.1, fun q h1 h2 => by rw [ht9]; exact hF.2 q h1 h2⟩) (fun z hz9 => by
        rcases List.mem_append.mp hz9 with h | h
        · exact B.2.2.2 z h
        · exact Or.inr (Or.inr (Nat.le_trans hss (hL z h)))) hc.1 hc.2
    obtain ⟨t2, a1, b1⟩ := kx T' rfl X'
    exact ⟨t2, st2.trans a1, b1⟩
/-- a call of one of the object's own methods that throws; it goes through -/
theorem zx_callI (C : CallFix p m c cc nL s args T0 own) (B : zIn D 2 cJ o a ce fs s H locs) (Zs : zE (zoa o a) s s.heap) (htab : ∀ x ∈ c.exceptionTable.toList, False) (hk : meth.locks = false) {y : MethodName} {fr need idx : Nat} {as : List Value} {T : u_T} {N : Nat} (hM : zXI l y fr need D cJ o a as ce fs E) (hG : Cond.methodLink own idx y ∈ lw_tbl) (hcl : vwCl[2]? = some (y.cls, T, N))
    (hR : fr + 1 ≤ R.frames ∧ need ≤ R.locals) (hf : cells + 1 ≤ R.cells ∧ slots + 6 ≤ R.slots) (hc : cells + 1 ≤ 1 ∧ slots + 6 ≤ 6) (hl : lv_has ls nL lv) (hcat : (rest.map fun v => v.category).sum ≤ 8) (hst : st = as.reverse ++ .ref o :: rest) (d : decode cc pc = .ok (.invokevirtual idx, 3)) :
    W p l e R s m args below meth c H locs cells slots (zX2 below D cJ o a ce fs args s E) (F0 m pc ls st) := by
  obtain ⟨bytes, maxL, lo, ret, hz, hn, hd, hM⟩ := hM
  have hM := hM H.size
  have hEH : zE (zoa o a) s H := (Zs.up.kept (fun q h1 h2 => B.2.2.1 q h1 (fun z => h2 (by rcases z with z | z | z; exact Or.inl (Or.inl z); exact Or.inl (Or.inr z); exact Or.inr z)))).narrow (fun _ z => Or.inl z)
  have cw := cwV (R := R) (own := own) (index := idx) (C := y.cls) (y := y) (bytes := bytes) (maxL := maxL) (ret := ret) (ws := Cond.code y bytes maxL ret :: T0) (ws' := T0) (rm := { frames := fr, cells := 1, slots := 6, locals := lo }) (mc := 1) (ms := 6) as.length C.2.2.2.2 (zgV hG hz) rfl rfl rfl hd ⟨hR.1, by rw [hn] at hR; exact hR.2⟩
  have hr := vx_runV (p := p) (l := l) (e := e) (below := below) (meth := meth) (c := c) (H := H) (locs := locs) (cells := cells) (slots := slots) (g := F0 m pc ls st) (rest := rest) C hM cw ⟨fun A U g mk q => ⟨q.1, q.2.1, q.2.2.1.moved (U := U.calling g mk A) (Vm.Alike.refl U.vm), q.2.2.2.warm (State.WarmedH.refl U)⟩, va_recv B.1.2.1 B.1.1 (ci := 2) (q0 := 0) hcl rfl, fun U hU hW => ⟨rfl, by rw [hU], by rw [hU]; exact B.1.moved hW.alike, by rw [hU]; exact hEH.warm hW⟩⟩ rfl rfl hl.1 hst (lv_room hcat) d hf
  intro T9 hT X
  rcases hr T9 hT X with ⟨v, st₀, t, T', L, h0, X', hL, e1, e2, hq, st2⟩ | ⟨q, st₀, t, T', L, E', ce', h0, X', hL, e1, e2, hq, hce, hcv, hcl, st2⟩
  · exact hq.elim
  · obtain ⟨hE', hAt0, hz2, hk2⟩ := hq
    subst hE'
    rw [h0] at hz2 hk2
    have hss : s.heap.size ≤ H.size := B.2.1
    have hsub : ∀ q, zF o a H.size q → zF o a s.heap.size q := by
      intro q hq
      rcases hq with h | h | h
      · exact Or.inl h
      · exact Or.inr (Or.inl h)
      · exact Or.inr (Or.inr (Nat.le_trans hss h))
    have hAt : AtO D 2 cJ o a ce fs s T'.heap := by rw [e1]; exact hAt0.moved (by rw [← e2]; exact X'.warmed.alike.symm)
    have hF : H.size ≤ T'.heap.size ∧ ∀ q : Nat, q < s.heap.size → ¬ zF o a s.heap.size q → T'.heap[q]? = s.heap[q]? := ⟨by rw [e1]; exact hz2, fun q h1 h2 => by rw [e1, hk2 q (by omega) (fun z => h2 (hsub q z))]; exact B.2.2.1 q h1 h2⟩
    have kx := vx_out (p := p) (l := l) (e := e) (R := R) (s := s) (m := m) (args := args) (below := below) (meth := meth) (c := c) (H := T'.heap) (locs := locs ++ L) (cells := cells + 1) (slots := slots + 6) (ls := ls) (rest := rest) (Qc := fun _ _ _ _ => False) (XC := fun E2 st t => E2 = E' ∧ AtO D 2 cJ o a ce fs t t.heap ∧ va_F (zF o a s.heap.size) st t) (free := zF o a s.heap.size) (pc := pc) (E := E') (ce := ce') (q := q) (mc := 1) (ms := 6)
      (fun x hx => (htab x hx).elim) hk (by rw [e1]; exact hce) hcv hcl (fun t9 ht9 ha => ⟨rfl, by rw [ht9]; exact hAt.moved ha, by rw [ht9]; exact Nat.le_trans hss hF.1, fun q h1 h2 => by rw [ht9]; exact hF.2 q h1 h2⟩) (fun z hz9 => by
        rcases List.mem_append.mp hz9 with h | h
        · exact B.2.2.2 z h
        · exact hsub _ (hL z h)) hc.1 hc.2
    obtain ⟨t2, a1, b1⟩ := kx T' rfl X'
    exact ⟨t2, st2.trans a1, b1⟩
end TC
