/-! ===== texts: byte arrays, builders, what they stand on ===== -/
section SA
/-- a cell's address isn't asked of by more than is there -/
theorem va_Z_nar {C n d : String} {v : Value} {A B : Nat → Prop} {U : State} {H : Heap} (h : va_Z C n d v A U H) (hAB : ∀ q, q < H.size → B q → A q) : va_Z C n d v B U H := by
  obtain ⟨cf, kf, fi, f, a, cell, h1, h2, h3, h4, h5, h6, h7, h8⟩ := h
  exact ⟨cf, kf, fi, f, a, cell, h1, h2, h3, h4, h5, h6, h7, fun z => h8 (hAB a (Array.getElem?_eq_some_iff.mp h5).1 z)⟩
theorem va_Zq_nar {C n d : String} {A B : Nat → Prop} {U : State} {H : Heap} (h : va_Zq C n d A U H) (hAB : ∀ q, q < H.size → B q → A q) : va_Zq C n d B U H :=
  h.elim (fun g => Or.inl (va_Z_nar g hAB)) (fun ⟨t, g⟩ => Or.inr ⟨t, va_Z_nar g hAB⟩)
theorem va_T_nar {ty : FieldType} {t N : Nat} {f : Nat → Value} {A B : Nat → Prop} {U : State} {H : Heap} (h : va_T ty t N f A U H) (hAB : ∀ q, q < H.size → B q → A q) : va_T ty t N f B U H := by
  obtain ⟨cell, h1, h2, h3, h4, h5, h6, h7⟩ := h
  exact ⟨cell, h1, h2, h3, h4, h5, h6, fun z => h7 (hAB t (Array.getElem?_eq_some_iff.mp h1).1 z)⟩
theorem va_O_nar {E : String} {t : Nat} {A B : Nat → Prop} {U : State} {H : Heap} (h : va_O E t A U H) (hAB : ∀ q, q < H.size → B q → A q) : va_O E t B U H := by
  obtain ⟨cell, h1, h2, h3, h4⟩ := h
  exact ⟨cell, h1, h2, h3, fun z => h4 (hAB t (Array.getElem?_eq_some_iff.mp h1).1 z)⟩
theorem va_OF_nar {o n d : String} {v : Value} {t : Nat} {A B : Nat → Prop} {U : State} {H : Heap} (h : va_OF o n d v t A U H) (hAB : ∀ q, q < H.size → B q → A q) : va_OF o n d v t B U H := by
  obtain ⟨cf, k, i, f, cell, h1, h2, h3, h4, h5, h6⟩ := h
  exact ⟨cf, k, i, f, cell, h1, h2, h3, h4, h5, fun z => h6 (hAB t (Array.getElem?_eq_some_iff.mp h3).1 z)⟩
/-- what stands in the model's row MS -/
def msv (k : Nat) : Int := if k = 1 then 1 else if k = 2 then -1 else if k = 3 then -1 else if k = 5 then -1 else if k = 6 then 1 else if k = 7 then -1 else 0
def zVd (n : String) (A : Nat → Prop) (U : State) (H : Heap) : Prop := ∃ (t : Nat) (g : Nat → Int32), va_Z "java/lang/Integer" n "[B" (.ref t) A U H ∧ va_T .byte t 100 (fun j => .int (g j)) A U H
def zVs (A : Nat → Prop) (U : State) (H : Heap) : Prop := ∃ (a t : Nat) (g : Nat → Int32), vk_R RX5 132 "0123456789abcdefghijklmnopqrstuvwxyz" a U ∧ va_O RJ0 a A U H ∧ va_OF RJ0 "coder" "B" (.int (iZ 0)) a A U H ∧ va_OF RJ0 "value" "[B" (.ref t) a A U H ∧ va_T .byte t 36 (fun j => .int (g j)) A U H
def zVm (A : Nat → Prop) (U : State) (H : Heap) : Prop := ∃ t : Nat, va_Z RX5 "MS" "[I" (.ref t) A U H ∧ va_T .int t 9 (fun j => .int (iZ (msv j))) A U H
def zVt (U : State) : Prop := (∃ a, vk_R RX2 7 "-" a U) ∧ (∃ a, vk_R RX2 37 "0" a U) ∧ (∃ a, vk_R RX3 151 "!" a U) ∧ (∃ a, vk_R RX5 111 "" a U) ∧ (∃ a, vk_R RX5 113 "-" a U) ∧ (∃ a, vk_R RX5 147 "!" a U) ∧ (Cond.castable "[B" "java/lang/Cloneable").before #[] U = true ∧ (Cond.selects RJ4 yJ5_ensureCapacityInternal_d00df yJ5_ensureCapacityInternal_d00df).before #[] U = true ∧ (Cond.selects RJ4 yJ5_newCapacity_0f7a4 yJ5_newCapacity_0f7a4).before #[] U = true
def zV (A : Nat → Prop) (U : State) (H : Heap) : Prop :=
  va_Z RJ0 "COMPACT_STRINGS" "Z" (.int (iZ 1)) A U H ∧ va_Zq RJ3 "SIOOBE_FORMATTER" "Ljava/util/function/BiFunction;" A U H ∧ zVd "DigitOnes" A U H ∧ zVd "DigitTens" A U H ∧ zVm A U H ∧ zVs A U H ∧ zVt U
theorem zVt.warm {s U : State} (hW : s.WarmedH U.vm) (h : zVt s) : zVt U :=
  ⟨h.1.imp fun _ g => vk_R.warm hW g, h.2.1.imp fun _ g => vk_R.warm hW g, h.2.2.1.imp fun _ g => vk_R.warm hW g, h.2.2.2.1.imp fun _ g => vk_R.warm hW g, h.2.2.2.2.1.imp fun _ g => vk_R.warm hW g, h.2.2.2.2.2.1.imp fun _ g => vk_R.warm hW g, zW_move hW rfl h.2.2.2.2.2.2.1, zW_move hW rfl h.2.2.2.2.2.2.2.1, zW_move hW rfl h.2.2.2.2.2.2.2.2⟩
theorem zV.t {A : Nat → Prop} {U : State} {H : Heap} (h : zV A U H) : zVt U := h.2.2.2.2.2.2
theorem zVt.s1 {s : State} {A : Array Value} (h : zVt s) : (Cond.selects RJ4 yJ5_ensureCapacityInternal_d00df yJ5_ensureCapacityInternal_d00df).before A s = true := zW_move (State.WarmedH.refl s) rfl h.2.2.2.2.2.2.2.1
theorem zVt.s2 {s : State} {A : Array Value} (h : zVt s) : (Cond.selects RJ4 yJ5_newCapacity_0f7a4 yJ5_newCapacity_0f7a4).before A s = true := zW_move (State.WarmedH.refl s) rfl h.2.2.2.2.2.2.2.2
theorem zV.warm {A : Nat → Prop} {s U : State} {H : Heap} (hW : s.WarmedH U.vm) (h : zV A s H) : zV A U H := by
  obtain ⟨h1, h2, ⟨t3, g3, a3, b3⟩, ⟨t4, g4, a4, b4⟩, ⟨t5, a5, b5⟩, ⟨a6, t6, g6, b6, c6, d6, e6, f6⟩, h7⟩ := h
  exact ⟨h1.moved hW.alike, h2.moved hW.alike, ⟨t3, g3, a3.moved hW.alike, b3.moved hW.alike⟩, ⟨t4, g4, a4.moved hW.alike, b4.moved hW.alike⟩, ⟨t5, a5.moved hW.alike, b5.moved hW.alike⟩, ⟨a6, t6, g6, vk_R.warm hW b6, c6.moved hW.alike, d6.moved hW.alike, e6.moved hW.alike, f6.moved hW.alike⟩, h7.warm hW⟩
theorem zV.kept {A : Nat → Prop} {U : State} {H H1 : Heap} (h : zV A U H) (hq : ∀ a : Nat, a < H.size → ¬ A a → H1[a]? = H[a]?) : zV A U H1 := by
  obtain ⟨h1, h2, ⟨t3, g3, a3, b3⟩, ⟨t4, g4, a4, b4⟩, ⟨t5, a5, b5⟩, ⟨a6, t6, g6, b6, c6, d6, e6, f6⟩, h7⟩ := h
  exact ⟨h1.kept hq, va_Zq.kept h2 hq, ⟨t3, g3, a3.kept hq, b3.kept hq⟩, ⟨t4, g4, a4.kept hq, b4.kept hq⟩, ⟨t5, a5.kept hq, b5.kept hq⟩, ⟨a6, t6, g6, b6, c6.kept hq, d6.kept hq, e6.kept hq, f6.kept hq⟩, h7⟩
theorem zV.nar {A B : Nat → Prop} {U : State} {H : Heap} (h : zV A U H) (hq : ∀ q, q < H.size → B q → A q) : zV B U H := by
  obtain ⟨h1, h2, ⟨t3, g3, a3, b3⟩, ⟨t4, g4, a4, b4⟩, ⟨t5, a5, b5⟩, ⟨a6, t6, g6, b6, c6, d6, e6, f6⟩, h7⟩ := h
  exact ⟨va_Z_nar h1 hq, va_Zq_nar h2 hq, ⟨t3, g3, va_Z_nar a3 hq, va_T_nar b3 hq⟩, ⟨t4, g4, va_Z_nar a4 hq, va_T_nar b4 hq⟩, ⟨t5, va_Z_nar a5 hq, va_T_nar b5 hq⟩, ⟨a6, t6, g6, b6, va_O_nar c6 hq, va_OF_nar d6 hq, va_OF_nar e6 hq, va_T_nar f6 hq⟩, h7⟩
/-- at a callee's start, out of what the caller had at its own -/
theorem zV.at {A B : Nat → Prop} {s U : State} {H : Heap} {locs : List Loc} (V : zV A s s.heap) (hS : va_S A s.heap H locs) (hW : s.WarmedH U.vm) (hU : U.heap = H) (hB : ∀ q, B q → A q ∨ H.size ≤ q) : zV B U U.heap := by
  rw [hU]
  exact ((V.kept hS.2.1).nar (fun q h1 h2 => (hB q h2).elim id (fun z => absurd h1 (by omega)))).warm hW
/-- a byte array of length m -/
def AtR (D : va_G) (cB : ClassId) (v m : Nat) (U : State) (H : Heap) : Prop := ∃ f : Nat → Int32, sb_Fit f ∧ va_P D vwCl [(v, .inl (cB, m, .inl f))] H ∧ va_K D vwCl [(cB, .byte)] U
theorem wP1 {D : va_G} {a : Nat} {x : va_E} {H : Heap} (h : va_at D vwCl (a, x) H) : va_P D vwCl [(a, x)] H := by
  intro k q hk
  match k, hk with
  | 0, hk => cases hk; exact h
  | k + 1, hk => simp at hk
theorem wD1 {A : Nat → Prop} {a : Nat} {x : va_E} (hA : A a) : va_D A [(a, x)] := by
  refine ⟨fun i j p q hp hq _ => ?_, fun k q hk => ?_⟩
  · match i, j, hp, hq with
    | 0, 0, _, _ => rfl
    | i + 1, _, hp, _ => simp at hp
    | 0, j + 1, _, hq => simp at hq
  · match k, hk with
    | 0, hk => cases hk; exact hA
    | k + 1, hk => simp at hk
theorem wK1 {D : va_G} {a : Nat} {x : va_E} {H H1 : Heap} (h : va_P D vwCl [(a, x)] H) (ha : H1[a]? = H[a]?) : va_P D vwCl [(a, x)] H1 := wP1 ((h 0 _ rfl).kept ha)
theorem AtR.moved {D : va_G} {cB : ClassId} {v m : Nat} {u U : State} {H : Heap} (hvm : u.vm.Alike U.vm) (h : AtR D cB v m u H) : AtR D cB v m U H := by
  obtain ⟨f, h1, h2, h3⟩ := h
  exact ⟨f, h1, h2, va_K.moved hvm h3⟩
theorem AtR.kept {D : va_G} {cB : ClassId} {v m : Nat} {U : State} {H H1 : Heap} (h : AtR D cB v m U H) (hv : H1[v]? = H[v]?) : AtR D cB v m U H1 := by
  obtain ⟨f, h1, h2, h3⟩ := h
  exact ⟨f, h1, wK1 h2 hv, h3⟩
theorem AtR.lt {D : va_G} {cB : ClassId} {v m : Nat} {U : State} {H : Heap} (h : AtR D cB v m U H) : v < H.size := by
  obtain ⟨f, -, h2, -⟩ := h
  exact (h2 0 _ rfl).lt
theorem AtR.K {D : va_G} {cB : ClassId} {v m : Nat} {U : State} {H : Heap} (h : AtR D cB v m U H) : va_K D vwCl [(cB, .byte)] U := by
  obtain ⟨f, -, -, h3⟩ := h
  exact h3
/-- a builder of n signs, in an array of m bytes -/
def AtB (D : va_G) (cB : ClassId) (b v n m : Nat) (U : State) (H : Heap) : Prop := AtR D cB v m U H ∧ b ≠ v ∧ ∃ ml : Int32, va_P D vwCl [(b, .inr (1, [.ref v, .int (iZ 0), .int ml, .int (iZ (n : Int))]))] H
theorem AtB.moved {D : va_G} {cB : ClassId} {b v n m : Nat} {u U : State} {H : Heap} (hvm : u.vm.Alike U.vm) (h : AtB D cB b v n m u H) : AtB D cB b v n m U H := ⟨h.1.moved hvm, h.2⟩
theorem AtB.kept {D : va_G} {cB : ClassId} {b v n m : Nat} {U : State} {H H1 : Heap} (h : AtB D cB b v n m U H) (hb : H1[b]? = H[b]?) (hv : H1[v]? = H[v]?) : AtB D cB b v n m U H1 :=
  ⟨h.1.kept hv, h.2.1, h.2.2.imp fun _ g => wK1 g hb⟩
theorem AtB.lt {D : va_G} {cB : ClassId} {b v n m : Nat} {U : State} {H : Heap} (h : AtB D cB b v n m U H) : b < H.size ∧ v < H.size := by
  obtain ⟨h1, -, ml, h2⟩ := h
  exact ⟨(h2 0 _ rfl).lt, h1.lt⟩
/-- the tables' word that a private method is run, whatever the object's class -/
theorem zsel_priv {y : MethodName} {s : State} {args : Array Value} (hy : y.cls ≠ "java/lang/invoke/MethodHandle" ∧ y.cls ≠ "java/lang/invoke/VarHandle") (hins : (Cond.instantiable RJ4 4).before args s = true)
    (hsm : (Cond.sameMethod y.cls y.cls y.name y.desc).before args s = true) (hpriv : (Cond.privateMethod y).before args s = true) (hinst : (Cond.instanceMethod y).before args s = true) : (Cond.selects RJ4 y y).before args s = true := by
  obtain ⟨c, k, hc, hk, -, -, -, -⟩ := Cond.instantiable_spec hins
  obtain ⟨mk, methM, hnamed, hmethM, -, -⟩ := Cond.instanceMethod_spec hinst
  obtain ⟨cn, ck, r, hcn, hck, hni, hf, hn⟩ := Cond.sameMethod_found hsm
  have hfound : s.methodFound? y.cls y.name y.desc = some mk := State.methodFound?_of_named hnamed hy
  have hcls : mk.cls = cn := Option.some.inj ((findClass_of_methodNamed hnamed).symm.trans hcn)
  have hsel : selectMethod {} s.vm c mk = .method mk := selectMethod_private hmethM (Cond.privateMethod_at hpriv mk methM hnamed hmethM)
  simp only [Cond.before, Cond.holds, Cond.value, hc, hfound, hnamed, hsel, hcls, hck]
  simp; exact hni
end SA
section SB
variable {p : Program} {l : Launch} {e : Env} {R : Room} {s : State} {m : MethodId} {args : Array Value} {below : List Frame} {meth : Method} {c : Code} {H : Heap} {locs : List Loc} {cells slots : Nat} {Q : State → Prop}
variable {cc : ByteArray} {pc nL : Nat} {ls : Array Slot} {rest st : List Value} {own : String} {lv : List (Nat × Value)} {D : va_G} {cB : ClassId} {A : Nat → Prop} {b v n sz : Nat}
-- arrays of bytes
theorem zr_alen (C : CallFix p m c cc nL s args T0 own) (hR : AtR D cB v n s H) (d : decode cc pc = .ok (.arraylength, 1))
    (kk : W p l e R s m args below meth c H locs cells slots Q (F0 m (pc + 1) ls (.int (iZ (n : Int)) :: rest))) : W p l e R s m args below meth c H locs cells slots Q (F0 m pc ls (.ref v :: rest)) := by
  obtain ⟨f, h1, h2, h3⟩ := hR
  exact va_alen (D := D) (cl := vwCl) C.1 C.2.1 h3 h2 0 0 rfl rfl (iZ_nI n).symm d kk
theorem zr_bald (C : CallFix p m c cc nL s args T0 own) (hR : AtR D cB v n s H) {z : Int} (j : Nat) (hz : z = (j : Int)) (hj : j < n) (hn : n < 2147483648) (d : decode cc pc = .ok (.baload, 1))
    (kk : ∀ x : Int32, W p l e R s m args below meth c H locs cells slots Q (F0 m (pc + 1) ls (.int x :: rest))) : W p l e R s m args below meth c H locs cells slots Q (F0 m pc ls (.int (iZ z) :: .ref v :: rest)) := by
  obtain ⟨f, h1, h2, h3⟩ := hR
  exact va_bald (D := D) (cl := vwCl) C.1 C.2.1 h3 h2 0 0 rfl rfl (iZ_in (n := n) (by omega) (by omega)) d (kk _)
theorem zr_bast (C : CallFix p m c cc nL s args T0 own) (hR : AtR D cB v n s H) (hS : va_S A s.heap H locs) (hA : A v) {z : Int} {x : Int32} (j : Nat) (hz : z = (j : Int)) (hj : j < n) (hn : n < 2147483648) (d : decode cc pc = .ok (.bastore, 1))
    (kk : ∀ H1 locs1, AtR D cB v n s H1 → va_S A s.heap H1 locs1 → (∀ q : Nat, q ≠ v → H1[q]? = H[q]?) → W p l e R s m args below meth c H1 locs1 cells slots Q (F0 m (pc + 1) ls rest)) : W p l e R s m args below meth c H locs cells slots Q (F0 m pc ls (.int x :: .int (iZ z) :: .ref v :: rest)) := by
  obtain ⟨f, h1, h2, h3⟩ := hR
  refine W.bast C.1 C.2.1 (h2 0 _ rfl) ((h3.2 0 _ rfl).1 n (fun j => .int (f j))) (fun q => by cases q) (by show ¬ ((iZ z) < 0 ∨ (arrV _ _ _).slots.size ≤ _); rw [arrV_size]; exact iZ_in (n := n) (by omega) (by omega)) rfl rfl d fun H1 e z9 oq => ?_
  refine kk H1 _ ⟨upd f (iZ z).toNatClampNeg (vp_nar .byte x), sb_fitU h1 (pk_fb x), wP1 ?_, h3⟩ (hS.put z9 oq hA) oq
  show H1[v]? = some (vp_cell _ _)
  rw [e]
  rw [vp_cell_i, vp_cell_i, arrV_store]
  congr 2
  funext q
  by_cases hq : q = (iZ z).toNatClampNeg
  · subst hq
    simp [updV, upd, vp_nar_byte]
    rfl
  · simp [updV, upd, hq]
theorem zr_newb (C : CallFix p m c cc nL s args T0 own) (hK : va_K D vwCl [(cB, .byte)] s) (hS : va_S A s.heap H locs) {z : Int} (j : Nat) (hz : z = (j : Int)) (hj : j < 100000) (hc : cells + 1 ≤ R.cells) (hs : slots + j ≤ R.slots) (d : decode cc pc = .ok (.newarray .byte, 2))
    (kk : ∀ q H1, H.size ≤ q → AtR D cB q j s H1 → va_S A s.heap H1 locs → (∀ x : Nat, x < H.size → H1[x]? = H[x]?) → H.size ≤ H1.size → W p l e R s m args below meth c H1 locs (cells + 1) (slots + j) Q (F0 m (pc + 2) ls (.ref q :: rest))) : W p l e R s m args below meth c H locs cells slots Q (F0 m pc ls (.int (iZ z) :: rest)) := by
  subst hz
  refine va_newaK C.1 C.2.1 (atype := .byte) (C.2.2.2.2 _ (T0_of ac_byte rfl)) (g := F0 m pc ls (.int (iZ (j : Int)) :: rest)) rfl d rfl (N := j) (by rw [show (0 : Int32) = iZ 0 from iZ_0, iZ_lt (by omega) (by omega)]; omega) (by rw [iZ_clamp (by omega)]; rfl) (by show j * 1 ≤ _; omega) hc hs rfl fun H1 cA e1 z1 o1 hAr hNm => ?_
  have hB : s.vm.findClass ("[" ++ (newarray.typeOf .byte).toString) = some cB := (hK.2 0 _ rfl).2
  have e9 : cA = cB := Option.some.inj (hNm.symm.trans hB)
  subst e9
  refine kk H.size H1 (Nat.le_refl _) ⟨fun _ => 0, sb_fit0, wP1 ?_, hK⟩ ⟨Nat.le_trans hS.1 (by omega), fun x g1 g2 => (o1 x (Nat.lt_of_lt_of_le g1 hS.1)).trans (hS.2.1 x g1 g2), hS.2.2⟩ o1 (by omega)
  show H1[H.size]? = some (vp_cell _ _)
  exact e1
/-- an array, seen as a table that nobody writes -/
theorem AtR.T (hR : AtR D cB v n s H) (hn : n < 2147483648) (hA : ¬ A v) : ∃ f : Nat → Int32, sb_Fit f ∧ va_T .byte v n (fun j => .int (f j)) A s H := by
  obtain ⟨f, h1, h2, h3⟩ := hR
  refine ⟨f, h1, vp_cell cB (n, .inl f), h2 0 _ rfl, (h3.2 0 _ rfl).1 n (fun j => .int (f j)), (fun q => by cases q), ?_, ?_, fun j hj => ?_, hA⟩
  · show n ≤ (arrV _ _ _).slots.size
    rw [arrV_size]
    exact Nat.le_refl _
  · show (arrV _ _ _).slots.size.toInt32 = _
    rw [arrV_size]
  · show (arrV _ _ _).slots[j]? = _
    rw [arrV_read _ _ hj]
theorem zr_copy (C : CallFix p m c cc nL s args T0 own) {v0 m0 : Nat} (h0 : AtR D cB v0 m0 s s.heap) (hA0 : ¬ A v0) (h1 : AtR D cB v n s H) (hS : va_S A s.heap H locs) (hA : A v) {zs zd zn : Int} (j : Nat) (hzs : zs = 0) (hzd : zd = 0) (hz : zn = (j : Int)) (hn0 : j ≤ m0) (hn1 : j ≤ n) (hm : m0 < 100000) (hn : n < 100000) (hl : lv_has ls nL lv) {idx : Nat} (hG : Cond.methodLink own idx arraycopyName ∈ lw_tbl) (hR : 1 ≤ R.frames ∧ 40 ≤ R.locals) (hcat : (rest.map fun v => v.category).sum ≤ 8) (d : decode cc pc = .ok (.invokestatic idx, 3))
    (kk : ∀ H1 locs1, AtR D cB v n s H1 → va_S A s.heap H1 locs1 → (∀ q : Nat, q ≠ v → H1[q]? = H[q]?) → W p l e R s m args below meth c H1 locs1 cells slots Q (F0 m (pc + 3) ls rest)) : W p l e R s m args below meth c H locs cells slots Q (F0 m pc ls (.int (iZ zn) :: .int (iZ zd) :: .ref v :: .int (iZ zs) :: .ref v0 :: rest)) := by
  subst hzs hzd hz
  obtain ⟨f0, hf0, hT⟩ := h0.T (A := A) (by omega) hA0
  obtain ⟨f, h2, h3, h4⟩ := h1
  have c0 : (iZ 0).toNatClampNeg = 0 := by rw [iZ_clamp (by omega)]; rfl
  have cj : (iZ (j : Int)).toNatClampNeg = j := by rw [iZ_clamp (by omega)]; rfl
  have n0 : ¬ iZ 0 < 0 := by decide
  have nj : ¬ iZ (j : Int) < 0 := by rw [show (0 : Int32) = iZ 0 from iZ_0, iZ_lt (by omega) (by omega)]; omega
  intro T9 hT9 X
  obtain ⟨scr, hs1, hs2, hs3, hs4, -, hs5, hs7⟩ := hT
  have hc0 : H[v0]? = some scr := by rw [hS.2.1 v0 (Array.getElem?_eq_some_iff.mp hs1).1 hs7]; exact hs1
  have hc1 : H[v]? = some (vp_cell cB (n, .inl f)) := h3 0 _ rfl
  obtain ⟨hs6, k0, hk0, cm0, hkk0⟩ := hs2
  obtain ⟨-, k1, hk1, cm1, hkk1⟩ := (h4.2 0 _ rfl).1 n (fun j => .int (f j))
  have nn : ∀ z : Int32, ¬ z < 0 → z.toInt = (z.toNatClampNeg : Int) := by
    intro z hz
    have hz0 : (0 : Int) ≤ z.toInt := by
      have := Int32.not_lt.mp hz
      simpa using Int32.le_iff_toInt_le.mp this
    show z.toInt = ((z.toInt.toNat : Nat) : Int)
    omega
  have hnf : nativeFrameWords "java/lang/System" "arraycopy" 5 + 11 ≤ 32 := by decide +kernel
  obtain ⟨vm', X', step⟩ := X.arraycopy C.1 C.2.2.2.1 (C.2.2.2.2 _ (T0_of hG rfl)) (C.2.2.2.2 _ (T0_of nv_J10_arraycopy rfl)) (C.2.2.2.2 _ (T0_of sc_J10_arraycopy rfl)) (C.2.2.2.2 _ (T0_of ini_J10 rfl)) (src := v0) (dst := v) (cs := scr) (cd := vp_cell cB (n, .inl f)) (srcPos := iZ 0) (destPos := iZ 0) (n := iZ (j : Int)) (by rw [hT9]; exact hc0) (by rw [hT9]; exact hc1)
    hs6 (fun _ h => by cases h) hs3 (fun h => by cases h) hk0 hk1 hkk0 hkk1 (by simp [refKind]) n0 n0 nj
    (by rw [nn _ n0, nn _ nj, c0, cj]; omega)
    (by rw [nn _ n0, nn _ nj, c0, cj]; show ¬ _ > ((arrV cB n (fun j => .int (f j))).slots.size : Int); rw [arrV_size]; omega)
    (fun vm₁ _ i hi => by
      rw [cj] at hi
      have e : scr.slots.getD ((iZ 0).toNatClampNeg + i) .null = .int (f0 ((iZ 0).toNatClampNeg + i)) := by
        rw [c0, Array.getD_eq_getD_getElem?, hs5 _ (by omega)]
        rfl
      refine ⟨?_, ?_⟩
      · rw [e]
        exact hf0 _
      · rw [e]
        exact trivial)
    (g := F0 m pc ls (.int (iZ (j : Int)) :: .int (iZ 0) :: .ref v :: .int (iZ 0) :: .ref v0 :: rest)) rfl (by show ls.size = _; rw [hl.1]; exact C.2.2.1.symm) (rest := rest) rfl (by rw [C.2.1]; exact d) hR.1 (by show 2 * 0 + _ + (nativeFrameWords "java/lang/System" "arraycopy" 5 + 11) ≤ _; omega)
  have e1 : copied scr (vp_cell cB (n, .inl f)) (iZ 0) (iZ 0) (iZ (j : Int)) = vp_cell cB (n, .inl (va_cpy f0 f (iZ 0).toNatClampNeg (iZ 0).toNatClampNeg (iZ (j : Int)).toNatClampNeg)) := va_copiedX (fun z => .int z) scr cB f0 f (n0 := m0) hs5 (by rw [c0, cj]; omega)
  rw [e1] at X' step
  have hlv : v < H.size := (Array.getElem?_eq_some_iff.mp hc1).1
  have hheap : ((T9.setVm vm').setCell v (vp_cell cB (n, .inl (va_cpy f0 f (iZ 0).toNatClampNeg (iZ 0).toNatClampNeg (iZ (j : Int)).toNatClampNeg)))).heap = H.setIfInBounds v (vp_cell cB (n, .inl (va_cpy f0 f (iZ 0).toNatClampNeg (iZ 0).toNatClampNeg (iZ (j : Int)).toNatClampNeg))) := by rw [← hT9]; rfl
  have oq : ∀ q : Nat, q ≠ v → (H.setIfInBounds v (vp_cell cB (n, .inl (va_cpy f0 f (iZ 0).toNatClampNeg (iZ 0).toNatClampNeg (iZ (j : Int)).toNatClampNeg))))[q]? = H[q]? := fun q hq => by simp [Array.getElem?_setIfInBounds, Ne.symm hq]
  obtain ⟨t, a1, b1⟩ := kk _ _ ⟨va_cpy f0 f (iZ 0).toNatClampNeg (iZ 0).toNatClampNeg (iZ (j : Int)).toNatClampNeg, sb_fitC hf0 h2, wP1 (show (H.setIfInBounds v _)[v]? = some _ by simp [Array.getElem?_setIfInBounds, hlv]), h4⟩ ⟨by simp; exact hS.1, fun q g1 g2 => by
      rw [oq q (fun e => g2 (by rw [e]; exact hA))]
      exact hS.2.1 q g1 g2, fun q hq => by
      rcases List.mem_append.mp hq with h | h
      · exact hS.2.2 q h
      · obtain ⟨z, -, hz⟩ := List.mem_map.mp h
        rw [← hz]
        exact hA⟩ oq _ hheap X'
  exact ⟨t, step t a1, b1⟩
end SB
