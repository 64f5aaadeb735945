/-! ===== constructors; toString ===== -/
section CA
/-- a constructor: of an object b of which P holds it makes one of which Q holds -/
def zNM (l : Launch) (y : MethodName) (fr need mc ms : Nat) (as : List Value) (P : Nat → State → Heap → Prop) (Q : Nat → Nat → State → Heap → Prop) (F : Nat → Nat → Nat → Prop) : Prop :=
  ∃ (bytes : ByteArray) (maxL lo : Nat), zN y bytes maxL ∧ need = 8 + (maxL + 11) + lo ∧
    (y.cls ≠ "java/lang/invoke/MethodHandle" ∧ y.cls ≠ "java/lang/invoke/VarHandle" ∧ (parseMethodDescriptor y.desc).map (fun d => d.parameters.length) = some as.length) ∧ y.name = "<init>" ∧
    (∀ b (s U : State) H, s.WarmedH U.vm → P b s H → P b U H) ∧ (∀ b sz (s U : State) H, s.vm.Alike U.vm → Q b sz s H → Q b sz U H) ∧
    ∀ b sz : Nat, Met l y (Cond.code y bytes maxL none :: T0) { frames := fr, cells := mc, slots := ms, locals := lo } (fun a U => a = (Value.ref b :: as).toArray ∧ U.heap.size = sz ∧ P b U U.heap)
      (fun _ st oc t => oc = .returned none ∧ Q b sz t t.heap ∧ va_F (F b sz) st t) mc ms (F b sz)
theorem zNM.intro {l : Launch} {y : MethodName} {fr need lo nA mc ms : Nat} {as : List Value} {P : Nat → State → Heap → Prop} {Q : Nat → Nat → State → Heap → Prop} {F : Nat → Nat → Nat → Prop} {cc : ByteArray} {maxL : Nat} {own : String}
    (hz : zN y cc maxL) (hy : plainName y.cls = true) (ho : own = y.cls) (hn : need = 8 + (maxL + 11) + lo)
    (hd : y.cls ≠ "java/lang/invoke/MethodHandle" ∧ y.cls ≠ "java/lang/invoke/VarHandle" ∧ (parseMethodDescriptor y.desc).map (fun d => d.parameters.length) = some nA) (hA : as.length = nA) (hle : ∀ b, (lg_sl (.ref b :: as)).length ≤ maxL) (hni : y.name = "<init>")
    (hP : ∀ b (s U : State) H, s.WarmedH U.vm → P b s H → P b U H) (hQ : ∀ b sz (s U : State) H, s.vm.Alike U.vm → Q b sz s H → Q b sz U H)
    (body : ∀ (b : Nat) (p : Program) (e : Env) (s : State) (m : MethodId) (below : List Frame) (meth : Method) (c : Code) (ls : Array Slot), CallFix p m c cc maxL s (Value.ref b :: as).toArray T0 own → meth.sig.returnType = none → meth.locks = false → meth.name = "<init>" → P b s s.heap → lv_has ls maxL (lv_args 0 (.ref b :: as)) →
      W p l e { frames := fr, cells := mc, slots := ms, locals := lo } s m (Value.ref b :: as).toArray below meth c s.heap [] 0 0 (MQ below (fun _ st oc t => oc = .returned none ∧ Q b s.heap.size t t.heap ∧ va_F (F b s.heap.size) st t) (Value.ref b :: as).toArray s mc ms (F b s.heap.size)) (F0 m 0 ls [])) : zNM l y fr need mc ms as P Q F := by
  subst hA
  refine ⟨cc, maxL, lo, hz, hn, hd, hni, hP, hQ, fun b sz => ?_⟩
  refine Met.ofW (ws' := T0) hy rfl ?_
  intro p e s m args below meth c s₁ B hml hv
  obtain ⟨hv, hsz, hAt⟩ := hv
  subst hv
  subst hsz
  have hts := atoms_spec (ws := Cond.code y cc maxL none :: T0) B.pre
  have hown : s.vm.findClass own = some m.cls := by rw [ho]; exact findClass_of_methodNamed B.named
  have hin : meth.name = "<init>" := (name_of_methodNamed B.named B.method).1.trans hni
  rw [lg_entry_eq]
  exact body b p e s m below meth c _ ⟨B.exec, B.bytes, hml, hown, fun w h => hts w (List.mem_cons_of_mem _ h)⟩ B.returns B.notSynchronized hin hAt (lv_entry (.ref b :: as) (hle b))
end CA
section CB
variable {p : Program} {l : Launch} {e : Env} {R : Room} {s : State} {m : MethodId} {args : Array Value} {below : List Frame} {meth : Method} {c : Code} {H : Heap} {locs : List Loc} {cells slots : Nat} {Qw : State → Prop}
variable {cc : ByteArray} {pc nL : Nat} {ls : Array Slot} {rest st : List Value} {own : String} {lv : List (Nat × Value)} {D : va_G} {cB : ClassId} {A : Nat → Prop} {b v v0 n k sz : Nat}
theorem zn_call (C : CallFix p m c cc nL s args T0 own) {P : Nat → State → Heap → Prop} {Q : Nat → Nat → State → Heap → Prop} {F : Nat → Nat → Nat → Prop} (hP : P b s H) (hS : va_S A s.heap H locs) (hA : ∀ q, F b H.size q → A q) {y : MethodName} {fr need mc ms idx : Nat} {as : List Value} (hM : zNM l y fr need mc ms as P Q F) (hG : Cond.methodLink own idx y ∈ lw_tbl)
    (hR : fr + 1 ≤ R.frames ∧ need ≤ R.locals) (hf : cells + mc ≤ R.cells ∧ slots + ms ≤ R.slots) (hl : lv_has ls nL lv) (hcat : (rest.map fun v => v.category).sum ≤ 8) (hst : st = as.reverse ++ .ref b :: rest) (d : decode cc pc = .ok (.invokespecial idx, 3))
    (kk : ∀ H1 locs1, Q b H.size s H1 → va_S A s.heap H1 locs1 → (∀ q : Nat, q < H.size → ¬ F b H.size q → H1[q]? = H[q]?) → H.size ≤ H1.size → W p l e R s m args below meth c H1 locs1 (cells + mc) (slots + ms) Qw (F0 m (pc + 3) ls rest)) : W p l e R s m args below meth c H locs cells slots Qw (F0 m pc ls st) := by
  obtain ⟨bytes, maxL, lo, hz, hn, hd, hni, hPm, hQm, hM⟩ := hM
  have hM := hM b H.size
  have cw := cwI (R := R) (s := s) (args := args) (own := own) (index := idx) (y := y) (bytes := bytes) (maxL := maxL) (ws := Cond.code y bytes maxL none :: T0) (ws' := T0) (rm := { frames := fr, cells := mc, slots := ms, locals := lo }) (mc := mc) (ms := ms) as.length C.2.2.2.2 (zgB hz.2.2) rfl rfl rfl (C.2.2.2.2 _ (T0_of hz.2.1 rfl)) (C.2.2.2.2 _ (T0_of hG rfl)) (C.2.2.2.2 _ (T0_of hz.1 rfl)) hni hd ⟨hR.1, by rw [hn] at hR; exact hR.2⟩
  have hr := va_runI (p := p) (l := l) (e := e) (below := below) (meth := meth) (c := c) (H := H) (locs := locs) (cells := cells) (slots := slots) (g := F0 m pc ls st) (rest := rest) (b := b) (As := as) C hM cw ⟨fun A U g mk q => ⟨q.1, q.2.1, hPm b U (U.calling g mk A) U.heap (State.WarmedH.refl U) q.2.2⟩, fun U hU hW => ⟨rfl, by rw [hU], by rw [hU]; exact hPm b s U H hW hP⟩⟩ rfl rfl hl.1 hst (lv_room hcat) d hf
  intro T9 hT X
  obtain ⟨v9, st₀, t, T', L, h0, X', hL, e1, e2, ⟨hv, hQ, hF⟩, st2⟩ := hr T9 hT X
  cases hv
  obtain ⟨hz2, hk2⟩ := hF
  rw [h0] at hz2 hk2
  have hss : s.heap.size ≤ H.size := hS.1
  have hS2 : va_S A s.heap T'.heap (locs ++ L) := by
    refine ⟨Nat.le_trans hss (by rw [e1]; exact hz2), fun q h1 h2 => ?_, fun q hq => ?_⟩
    · rw [e1, hk2 q (Nat.lt_of_lt_of_le h1 hss) (fun z => h2 (hA q z))]
      exact hS.2.1 q h1 h2
    · rcases List.mem_append.mp hq with h | h
      · exact hS.2.2 q h
      · exact hA _ (hL q h)
  obtain ⟨t2, a1, b1⟩ := kk T'.heap (locs ++ L) (by rw [e1]; exact hQm b H.size t s t.heap (by rw [← e2]; exact X'.warmed.alike.symm) hQ) hS2 (fun q h1 h2 => by rw [e1]; exact hk2 q h1 h2) (by rw [e1]; exact hz2) T' rfl X'
  exact ⟨t2, st2 t2 a1, b1⟩
/-- an object is made -/
theorem za_new (C : CallFix p m c cc nL s args T0 own) {Cn : String} {T : u_T} {N ci idx : Nat} (hin : ∀ w ∈ u_ws Cn T N, w ∈ T0) (ty0 : Nat → FieldType) (hty : ∀ k, k < N → parseFieldDescriptor (T k).2.2.1 = some (ty0 k)) (hcl : Cond.classLink own idx Cn ∈ lw_tbl) (hinst : Cond.instantiable Cn N ∈ lw_tbl) (hini : Cond.initialized Cn ∈ lw_tbl)
    {tys : List (ClassId × FieldType)} (hK : va_K D vwCl tys s) (hS : va_S A s.heap H locs) (hc : vwCl[ci]? = some (Cn, T, N)) {fs : List Value} (hfs : ∀ j, j < N → defaultValue (ty0 j) = vp_V fs j) (hcells : cells + 1 ≤ R.cells) (hslots : slots + N ≤ R.slots) (d : decode cc pc = .ok (.new idx, 3))
    (kk : ∀ H1, va_P D vwCl [(H.size, .inr (ci, fs))] H1 → va_S A s.heap H1 locs → (∀ x : Nat, x < H.size → H1[x]? = H[x]?) → H1.size = H.size + 1 → W p l e R s m args below meth c H1 locs (cells + 1) (slots + N) Qw (F0 m (pc + 3) ls (.ref H.size :: rest))) : W p l e R s m args below meth c H locs cells slots Qw (F0 m pc ls rest) := by
  have hKn := hK.1 ci _ hc
  refine W.newcK C.1 C.2.1 C.2.2.2.1 (C.2.2.2.2 _ (T0_of hcl rfl)) (C.2.2.2.2 _ (T0_of hinst rfl)) (C.2.2.2.2 _ (T0_of hini rfl)) (g := F0 m pc ls rest) rfl d hcells hslots hKn.2.1 rfl fun H1 kC hkC e1 z1 o1 => ?_
  exact kk H1 (wP1 ⟨_, hc, (u_born ty0 C.2.2.2.2 hin hKn hkC e1 hty).to hfs⟩) ⟨Nat.le_trans hS.1 (by omega), fun x h1 h2 => (o1 x (Nat.lt_of_lt_of_le h1 hS.1)).trans (hS.2.1 x h1 h2), hS.2.2⟩ o1 z1
end CB
section CC
def zI5 (D : va_G) (cB : ClassId) (b : Nat) (U : State) (H : Heap) : Prop := va_P D vwCl [(b, .inr (1, [.null, .int 0, .int 0, .int 0]))] H ∧ va_K D vwCl [(cB, .byte)] U ∧ zV (fun q => q = b) U H
theorem zI5.warm {D : va_G} {cB : ClassId} (b : Nat) (s U : State) (H : Heap) (hW : s.WarmedH U.vm) (h : zI5 D cB b s H) : zI5 D cB b U H := ⟨h.1, va_K.moved hW.alike h.2.1, h.2.2.warm hW⟩
def zQ5 (D : va_G) (cB : ClassId) (b sz : Nat) (U : State) (H : Heap) : Prop := ∃ v, AtB D cB b v 0 16 U H ∧ sz ≤ v
theorem zQ5.moved {D : va_G} {cB : ClassId} (b sz : Nat) (s U : State) (H : Heap) (hW : s.vm.Alike U.vm) (h : zQ5 D cB b sz s H) : zQ5 D cB b sz U H := h.imp fun _ g => ⟨g.1.moved hW, g.2⟩
def zF1 (b sz : Nat) : Nat → Prop := fun q => q = b ∨ sz ≤ q
set_option maxHeartbeats 4000000 in
theorem c_J5_init_d00df (l : Launch) (D : va_G) (cB : ClassId) : zNM l yJ5_init_d00df 1 61 1 16 [.int (iZ 16)] (zI5 D cB) (zQ5 D cB) zF1 := by
  refine zNM.intro (lo := 40) (nA := 1) (own := RJ5) zi_J5_init_d00df (by decide) rfl rfl (by decide +kernel) rfl (fun _ => Nat.le_of_ble_eq_true rfl) rfl zI5.warm zQ5.moved ?_
  intro b p e s m below meth c ls C hr hk hin hP hl
  obtain ⟨hP, hK, V⟩ := hP
  have V : zV (zF1 b s.heap.size) s s.heap := V.nar (fun q h1 h2 => h2.elim id (fun h => absurd h1 (by omega)))
  have hl : lv_has ls 2 [(0, .ref b), (1, .int (iZ 16))] := hl
  have hbl : b < s.heap.size := (hP 0 _ rfl).lt
  refine lv_aload_n C.1 C.2.1 dJ5_init_d00df_0 rfl (lv_at hl 0 rfl) ?_
  refine W.objInit C.1 C.2.1 C.2.2.2.1 (C.2.2.2.2 _ (T0_of my_J5_3 rfl)) (C.2.2.2.2 _ (T0_of im_java_lang_Object_init rfl)) (C.2.2.2.2 _ (T0_of cd_oi rfl)) rfl (hl.1.trans C.2.2.1.symm) rfl dJ5_init_d00df_1 (Nat.le_of_ble_eq_true rfl) (Nat.le_of_ble_eq_true rfl) ?_
  refine W.eq (g2 := F0 m 4 ls []) rfl ?_
  refine zv_cs C V va_S.rf fl_J5_18 dJ5_init_d00df_4 ?_
  refine z_if_eq (tgt := 25) C (by omega) dJ5_init_d00df_7 (by decide) (fun h => absurd h (by decide)) (fun _ => ?_)
  refine lv_aload_n C.1 C.2.1 dJ5_init_d00df_10 rfl (lv_at hl 0 rfl) ?_
  refine lv_iload_n C.1 C.2.1 dJ5_init_d00df_11 rfl (lv_at hl 1 rfl) ?_
  refine zr_newb (A := zF1 b s.heap.size) C hK va_S.rf 16 rfl (by omega) (Nat.le_of_ble_eq_true rfl) (Nat.le_of_ble_eq_true rfl) dJ5_init_d00df_12 (fun w H1 hw hW S1 ho hz => ?_)
  refine za_put C inJ4 tyJ4 tyJ4_ok nmJ4 hK (wK1 hP (ho b hbl)) S1 (Or.inl rfl) rfl 0 (by decide) fl_J5_15 rfl rfl (ty := .array .byte) rfl rfl rfl (Nat.le_of_ble_eq_true rfl) dJ5_init_d00df_14 (fun H2 locs2 hP2 S2 hq2 hz2 => ?_)
  refine lv_aload_n C.1 C.2.1 dJ5_init_d00df_17 rfl (lv_at hl 0 rfl) ?_
  refine z_iconst C dJ5_init_d00df_18 ?_
  refine za_put C inJ4 tyJ4 tyJ4_ok nmJ4 hK hP2 S2 (Or.inl rfl) rfl 1 (by decide) fl_J5_22 rfl rfl (ty := .byte) rfl rfl rfl (Nat.le_of_ble_eq_true rfl) dJ5_init_d00df_19 (fun H3 locs3 hP3 S3 hq3 hz3 => ?_)
  refine lv_goto (tgt := 38) C.1 C.2.1 dJ5_init_d00df_22 (by decide) ?_
  have hbw : b ≠ w := by omega
  have hB : AtB D cB b w 0 16 s H3 := ⟨(hW.kept (hq2 w (Ne.symm hbw))).kept (hq3 w (Ne.symm hbw)), hbw, 0, hP3⟩
  exact W.vret C.1 C.2.1 hr (fun t ht hW9 => ⟨rfl, ⟨w, by rw [ht]; exact hB.moved hW9.alike, hw⟩, S3.F ht⟩) S3.2.2 dJ5_init_d00df_38 hk
set_option maxHeartbeats 4000000 in
theorem c_J4_init_da8c8 (l : Launch) (D : va_G) (cB : ClassId) : zNM l yJ4_init_da8c8 2 81 1 16 [] (zI5 D cB) (zQ5 D cB) zF1 := by
  refine zNM.intro (lo := 61) (nA := 0) (own := RJ4) zi_J4_init_da8c8 (by decide) rfl rfl (by decide +kernel) rfl (fun _ => Nat.le_of_ble_eq_true rfl) rfl zI5.warm zQ5.moved ?_
  intro b p e s m below meth c ls C hr hk hin hP hl
  have hl : lv_has ls 1 [(0, .ref b)] := hl
  refine lv_aload_n C.1 C.2.1 dJ4_init_da8c8_0 rfl (lv_at hl 0 rfl) ?_
  refine z_bipush C dJ4_init_da8c8_1 (by decide) ?_
  refine zn_call (A := zF1 b s.heap.size) C hP va_S.rf (fun q h => h) (c_J5_init_d00df l D cB) ml_J4_1 ⟨Nat.le_of_ble_eq_true rfl, Nat.le_of_ble_eq_true rfl⟩ ⟨Nat.le_of_ble_eq_true rfl, Nat.le_of_ble_eq_true rfl⟩ hl (Nat.le_of_ble_eq_true rfl) rfl dJ4_init_da8c8_3 (fun H1 locs1 hQ S1 _ _ => ?_)
  exact W.vret C.1 C.2.1 hr (fun t ht hW9 => ⟨rfl, by rw [ht]; exact zQ5.moved b _ s t H1 hW9.alike hQ, S1.F ht⟩) S1.2.2 dJ4_init_da8c8_6 hk
/-- a String made out of a builder -/
def zI0 (D : va_G) (cB : ClassId) (b v n k : Nat) (q : Nat) (U : State) (H : Heap) : Prop := va_P D vwCl [(q, .inr (0, [.null, .int 0, .int 0, .int 0]))] H ∧ AtB D cB b v n k U H ∧ (q ≠ b ∧ q ≠ v) ∧ zV (fun x => x = q ∨ x = b ∨ x = v) U H
theorem zI0.warm {D : va_G} {cB : ClassId} {b v n k : Nat} (q : Nat) (s U : State) (H : Heap) (hW : s.WarmedH U.vm) (h : zI0 D cB b v n k q s H) : zI0 D cB b v n k q U H := ⟨h.1, h.2.1.moved hW.alike, h.2.2.1, h.2.2.2.warm hW⟩
def zF3 (b v : Nat) (q sz : Nat) : Nat → Prop := fun x => x = q ∨ x = b ∨ x = v ∨ sz ≤ x
set_option maxHeartbeats 4000000 in
theorem c_J0_init_db425 (l : Launch) (D : va_G) (cB : ClassId) (b v n k : Nat) (hnk : n ≤ k ∧ k ≤ 520) : zNM l yJ0_init_db425 3 124 1 520 [.ref b, .null] (zI0 D cB b v n k) (fun _ _ _ _ => True) (zF3 b v) := by
  refine zNM.intro (lo := 100) (nA := 2) (own := RJ0) zi_J0_init_db425 (by decide) rfl rfl (by decide +kernel) rfl (fun _ => Nat.le_of_ble_eq_true rfl) rfl zI0.warm (fun _ _ _ _ _ _ h => h) ?_
  intro q p e s m below meth c ls C hr hk hin hP hl
  obtain ⟨hP, B, ⟨hqb, hqv⟩, V⟩ := hP
  have V : zV (zF3 b v q s.heap.size) s s.heap := V.nar (fun x h1 h2 => by rcases h2 with h2 | h2 | h2 | h2; exact Or.inl h2; exact Or.inr (Or.inl h2); exact Or.inr (Or.inr h2); omega)
  have hl : lv_has ls 5 [(0, .ref q), (1, .ref b), (2, .null)] := hl
  have hAq : zF3 b v q s.heap.size q := Or.inl rfl
  have hAz : ∀ x, zF b v s.heap.size x → zF3 b v q s.heap.size x := fun x h => by rcases h with h | h | h; exact Or.inr (Or.inl h); exact Or.inr (Or.inr (Or.inl h)); exact Or.inr (Or.inr (Or.inr h))
  refine lv_aload_n C.1 C.2.1 dJ0_init_db425_0 rfl (lv_at hl 0 rfl) ?_
  refine W.objInit C.1 C.2.1 C.2.2.2.1 (C.2.2.2.2 _ (T0_of my_J0_1 rfl)) (C.2.2.2.2 _ (T0_of im_java_lang_Object_init rfl)) (C.2.2.2.2 _ (T0_of cd_oi rfl)) rfl (hl.1.trans C.2.2.1.symm) rfl dJ0_init_db425_1 (Nat.le_of_ble_eq_true rfl) (Nat.le_of_ble_eq_true rfl) ?_
  refine W.eq (g2 := F0 m 4 ls []) rfl ?_
  refine lv_aload_n C.1 C.2.1 dJ0_init_db425_4 rfl (lv_at hl 1 rfl) ?_
  refine zb_callV C B V va_S.rf hAz (c_J5_getValue_6d5f1 l D cB n k) ml_J0_552 (C.2.2.2.2 _ (T0_of sl_J4_J5_getValue_6d5f1 rfl)) ⟨Nat.le_of_ble_eq_true rfl, Nat.le_of_ble_eq_true rfl⟩ ⟨Nat.le_of_ble_eq_true rfl, Nat.le_of_ble_eq_true rfl⟩ hl (Nat.le_of_ble_eq_true rfl) rfl dJ0_init_db425_5 (fun v2 k2 H1 locs1 hp hv B1 S1 hq1 hz1 => ?_)
  obtain ⟨rfl, rfl⟩ := hp
  have hP1 := wK1 hP (hq1 q (hP 0 _ rfl).lt (fun z => z.elim hqb hqv))
  refine lv_astore_n (lv' := [(3, .ref v), (0, .ref q), (1, .ref b), (2, .null)]) C.1 C.2.1 dJ0_init_db425_8 rfl hl (by decide) rfl (fun ls hl => ?_)
  refine lv_aload_n C.1 C.2.1 dJ0_init_db425_9 rfl (lv_at hl 2 rfl) ?_
  refine zb_callO (x := yJ5_length_8abf5) C B1 V S1 (fun x h => hAz x (by rcases h with h | h | h; exact Or.inl h; exact Or.inr (Or.inl h); exact Or.inr (Or.inr (Nat.le_trans hz1 h)))) (c_J4_length_8abf5 l D cB n k) ml_J0_549 sm_J5_length_8abf5 im_J5_length_8abf5 cd_J5_length_8abf5 sl_J4_J5_length_8abf5 (by decide +kernel) ⟨Nat.le_of_ble_eq_true rfl, Nat.le_of_ble_eq_true rfl⟩ ⟨Nat.le_of_ble_eq_true rfl, Nat.le_of_ble_eq_true rfl⟩ hl (Nat.le_of_ble_eq_true rfl) rfl dJ0_init_db425_10 (fun v3 k3 H2 locs2 hp hv B2 S2 hq2 hz2 => ?_)
  obtain ⟨rfl, rfl⟩ := hp
  have hP2 := wK1 hP1 (hq2 q (hP1 0 _ rfl).lt (fun z => z.elim hqb hqv))
  refine lv_istore (lv' := [(4, .int (iZ (n : Int))), (3, .ref v), (0, .ref q), (1, .ref b), (2, .null)]) C.1 C.2.1 dJ0_init_db425_13 hl (by decide) rfl (fun ls hl => ?_)
  refine lv_aload_n C.1 C.2.1 dJ0_init_db425_15 rfl (lv_at hl 3 rfl) ?_
  refine zb_callV C B2 V S2 (fun x h => hAz x (by rcases h with h | h | h; exact Or.inl h; exact Or.inr (Or.inl h); exact Or.inr (Or.inr (Nat.le_trans hz1 (Nat.le_trans hz2 h))))) (c_J5_isLatin1_aae02 l D cB n k) ml_J0_1047 (C.2.2.2.2 _ (T0_of sl_J4_J5_isLatin1_aae02 rfl)) ⟨Nat.le_of_ble_eq_true rfl, Nat.le_of_ble_eq_true rfl⟩ ⟨Nat.le_of_ble_eq_true rfl, Nat.le_of_ble_eq_true rfl⟩ hl (Nat.le_of_ble_eq_true rfl) rfl dJ0_init_db425_16 (fun v4 k4 H3 locs3 hp hv B3 S3 hq3 hz3 => ?_)
  obtain ⟨rfl, rfl⟩ := hp
  have hP3 := wK1 hP2 (hq3 q (hP2 0 _ rfl).lt (fun z => z.elim hqb hqv))
  refine z_if_eq (tgt := 41) C (by omega) dJ0_init_db425_19 (by decide) (fun h => absurd h (by decide)) (fun _ => ?_)
  refine lv_aload_n C.1 C.2.1 dJ0_init_db425_22 rfl (lv_at hl 2 rfl) ?_
  refine z_iconst C dJ0_init_db425_23 ?_
  refine za_putF C hin inJ0 tyJ0 tyJ0_ok nmJ0 B3.1.K hP3 S3 hAq rfl 1 (by decide) fl_J0_15 rfl rfl rfl (ty := .byte) rfl rfl rfl (Nat.le_of_ble_eq_true rfl) dJ0_init_db425_24 (fun H4 locs4 hP4 S4 hq4 hz4 => ?_)
  have B4 := B3.kept (hq4 b (Ne.symm hqb)) (hq4 v (Ne.symm hqv))
  refine lv_aload_n C.1 C.2.1 dJ0_init_db425_27 rfl (lv_at hl 2 rfl) ?_
  refine lv_aload_n C.1 C.2.1 dJ0_init_db425_28 rfl (lv_at hl 1 rfl) ?_
  refine z_iconst C dJ0_init_db425_29 ?_
  refine lv_iload C.1 C.2.1 dJ0_init_db425_30 (lv_at hl 0 rfl) ?_
  refine zr_callN C B4.1 V.t S4 (fun x h => Or.inr (Or.inr (Or.inr (Nat.le_trans S4.1 h)))) (c_J7_copyOfRange_39247 l D cB k n hnk.1 hnk.2) ml_J0_54 ⟨Nat.le_of_ble_eq_true rfl, Nat.le_of_ble_eq_true rfl⟩ ⟨Nat.le_of_ble_eq_true rfl, Nat.le_of_ble_eq_true rfl⟩ hl (Nat.le_of_ble_eq_true rfl) rfl dJ0_init_db425_32 (fun w H5 locs5 hw hW S5 ho5 hz5 => ?_)
  have hP5 := wK1 hP4 (ho5 q (hP4 0 _ rfl).lt)
  refine za_putF C hin inJ0 tyJ0 tyJ0_ok nmJ0 B3.1.K hP5 S5 hAq rfl 0 (by decide) fl_J0_9 rfl rfl rfl (ty := .array .byte) rfl rfl rfl (Nat.le_of_ble_eq_true rfl) dJ0_init_db425_35 (fun H6 locs6 hP6 S6 hq6 hz6 => ?_)
  refine lv_goto (tgt := 97) C.1 C.2.1 dJ0_init_db425_38 (by decide) ?_
  exact W.vret C.1 C.2.1 hr (fun t ht hW9 => ⟨rfl, trivial, S6.F ht⟩) S6.2.2 dJ0_init_db425_97 hk
set_option maxHeartbeats 4000000 in
theorem c_J0_init_81219 (l : Launch) (D : va_G) (cB : ClassId) (b v n k : Nat) (hnk : n ≤ k ∧ k ≤ 520) : zNM l yJ0_init_81219 4 145 1 520 [.ref b] (zI0 D cB b v n k) (fun _ _ _ _ => True) (zF3 b v) := by
  refine zNM.intro (lo := 124) (nA := 1) (own := RJ0) zi_J0_init_81219 (by decide) rfl rfl (by decide +kernel) rfl (fun _ => Nat.le_of_ble_eq_true rfl) rfl zI0.warm (fun _ _ _ _ _ _ h => h) ?_
  intro q p e s m below meth c ls C hr hk hin hP hl
  have hl : lv_has ls 2 [(0, .ref q), (1, .ref b)] := hl
  refine lv_aload_n C.1 C.2.1 dJ0_init_81219_0 rfl (lv_at hl 0 rfl) ?_
  refine lv_aload_n C.1 C.2.1 dJ0_init_81219_1 rfl (lv_at hl 1 rfl) ?_
  refine lv_null C.1 C.2.1 dJ0_init_81219_2 ?_
  refine zn_call (A := zF3 b v q s.heap.size) C hP va_S.rf (fun q h => h) (c_J0_init_db425 l D cB b v n k hnk) ml_J0_489 ⟨Nat.le_of_ble_eq_true rfl, Nat.le_of_ble_eq_true rfl⟩ ⟨Nat.le_of_ble_eq_true rfl, Nat.le_of_ble_eq_true rfl⟩ hl (Nat.le_of_ble_eq_true rfl) rfl dJ0_init_81219_3 (fun H1 locs1 _ S1 _ _ => ?_)
  exact W.vret C.1 C.2.1 hr (fun t ht hW9 => ⟨rfl, trivial, S1.F ht⟩) S1.2.2 dJ0_init_81219_6 hk
end CC
